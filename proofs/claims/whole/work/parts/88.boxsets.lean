/-! the search: sets of boxes and the lowest cell -/
theorem shr_0 (s : Int64) {k : Nat} (hk : k < 64) : tb (jshr s (nI k)) 0 = tb s k := by
  unfold tb jshr
  rw [Int64.toBitVec_shiftRight, BitVec.sshiftRight', BitVec.getLsbD_sshiftRight]
  rw [sm_64 k hk]
  simp [hk]
theorem tb_one {c : Nat} (h : c < 64) : tb 1 c = decide (c = 0) := by
  have : ∀ c, c < 64 → tb 1 c = decide (c = 0) := by decide +kernel
  exact this c h
theorem bit_at (s : Int64) {k : Nat} (hk : k < 64) : (jshr s (nI k) &&& 1).toInt32 = bI (tb s k) := by
  have e : jshr s (nI k) &&& 1 = if tb s k = true then 1 else 0 := by
    refine tb_ext fun c hc => ?_
    rw [tb_and, tb_one hc]
    by_cases z : c = 0
    · subst z
      rw [shr_0 s hk]
      cases tb s k <;> rfl
    · rw [decide_eq_false z, Bool.and_false]
      cases tb s k with
      | false => rw [if_neg (by decide), tb_0]
      | true => rw [if_pos rfl, tb_one hc, decide_eq_false z]
  rw [e]
  cases tb s k <;> rfl
theorem m_boxSet {t : xT} {g : gT} {R C : Nat} {b : Int64} (rc : RC R C) (hM : GR (ra t 1) g R C) (hB : GB (ra t 1) b) (hb : ∀ c, tb b c = true → c < R * C) {N : Nat} (hN : 10000 ≤ N) : f_boxSet N t = some b := by
  have le := rc.le
  have loop : ∀ m k f r, k + m = R * C → (∀ x, tb f x = (decide (x < k) && tb b x)) → f_boxSet_L N (r + 1 + m) f (nI k) t = some b := by
    intro m
    induction m with
    | zero =>
      intro k f r hk hf
      rw [Nat.add_zero, u_boxSet_4, m_size hM, if_pos (nI_le (show R * C ≤ k by omega) (by omega))]
      congr 1
      refine tb_ext fun x _ => ?_
      rw [hf]
      cases z : tb b x with
      | false => rw [Bool.and_false]
      | true => rw [Bool.and_true, decide_eq_true_iff]; have := hb x z; omega
    | succ m ih =>
      intro k f r hk hf
      rw [← Nat.add_assoc, u_boxSet_4, m_size hM, if_neg (nI_ge (show k < R * C by omega) (by omega)), m_boxI hB (show k < 64 by omega), Option.bind_some]
      have e : (if bI (tb b k) = 0 then (some (0 : Int64)) else some (jshl 1 (nI k))) = some (if tb b k = true then jshl 1 (nI k) else 0) := by cases tb b k <;> rfl
      rw [e, Option.bind_some, nI_1]
      refine ih (k + 1) _ r (by omega) fun x => ?_
      apply bool_iff
      rw [tb_or, or_t, hf, and_t, and_t, decide_eq_true_iff, decide_eq_true_iff]
      by_cases z : tb b k = true
      · rw [if_pos z, bit_eqL (show k < 64 by omega)]
        constructor
        · rintro (⟨a, c⟩ | a)
          · exact ⟨by omega, c⟩
          · exact ⟨by omega, by rw [a]; exact z⟩
        · rintro ⟨a, c⟩
          by_cases y : x = k
          · exact Or.inr y
          · exact Or.inl ⟨by omega, c⟩
      · rw [if_neg z, tb_0]
        constructor
        · rintro (⟨a, c⟩ | a)
          · exact ⟨by omega, c⟩
          · exact Bool.noConfusion a
        · rintro ⟨a, c⟩
          by_cases y : x = k
          · rw [y] at c; exact absurd c z
          · exact Or.inl ⟨by omega, c⟩
  have := loop (R * C) 0 0 (N - 1 - R * C) (Nat.zero_add _) (fun x => by rw [tb_0, decide_eq_false (Nat.not_lt_zero x)]; rfl)
  rw [show N - 1 - R * C + 1 + R * C = N by omega] at this
  exact this
theorem m_lowestHere {t : xT} {g : gT} {R C : Nat} {b : Int64} (ok : GOk g R C) (hM : GR (ra t 1) g R C) (hB : GB (ra t 1) b) {p : Nat} (h3 : ra t 1 3 = nI p) (hp : tb (pFr g b) p = true) {N : Nat} (hN : 10000 ≤ N) : ∃ u l, f_lowestHere N t = some (nI l, u) ∧ Frm [7, 6] [16] t u ∧ lowF (pAr g b (nI p)) = nI l ∧ tb (pAr g b (nI p)) l = true ∧ l < R * C := by
  have le := ok.rc.le
  have hpo : p < R * C := by rw [pf_tb, and_t] at hp; exact ok.open_lt hp.1
  obtain ⟨u, e, f, w7, _, _⟩ := s_wk ok hM hB hpo hN
  have area := area_tb ok hp
  have at0 : (bfR (adjW g R C b) p).2.2 p < 64 := by
    have := (wk_cert (b := b) ok hpo).1
    omega
  have nz : ¬ pAr g b (nI p) = 0 := tb_ne0.mpr ⟨p, by omega, by unfold pAr; rw [area, decide_eq_true_iff]; exact at0⟩
  obtain ⟨l, l1, l2, l3, l4, _⟩ := low_ex nz
  have lr : l < R * C := by
    have dl : (bfR (adjW g R C b) p).2.2 l < 64 := by
      have := l2; unfold pAr at this; rw [area, decide_eq_true_iff] at this; exact this
    rcases (wk_cert (b := b) ok hpo).2.1 l dl with z | ⟨_, _, z, _⟩
    · rw [z]; exact hpo
    · have := z.1
      rw [pf_tb, and_t] at this; exact ok.open_lt this.1
  have loop : ∀ m k r, k + m = l → f_lowestHere_L N (r + 1 + m) (nI k) u = some (nI l, u) := by
    intro m
    induction m with
    | zero =>
      intro k r hk
      have kl : k = l := by omega
      subst kl
      have : (bfR (adjW g R C b) p).2.2 k < 64 := by
        have := l2; unfold pAr at this; rw [area, decide_eq_true_iff] at this; exact this
      rw [Nat.add_zero, u_lowestHere_12, if_pos (inB_nI l1 (by decide)), nI_clamp (by omega), w7 k lr, sz_nI this, if_pos (nI_pos' (by omega))]
    | succ m ih =>
      intro k r hk
      have no : ¬ (bfR (adjW g R C b) p).2.2 k < 64 := by
        have := l3 k (by omega); unfold pAr at this; rw [area] at this
        exact of_decide_eq_false this
      have e99 : sz ((bfR (adjW g R C b) p).2.2 k) = -1 := if_neg no
      rw [← Nat.add_assoc, u_lowestHere_12, if_pos (inB_nI (show k < 64 by omega) (by decide)), nI_clamp (by omega), w7 k (by omega), e99, if_neg (by decide), nI_1]
      exact ih (k + 1) r (by omega)
  have := loop l 0 (N - 1 - l) (Nat.zero_add _)
  rw [show N - 1 - l + 1 + l = N by omega] at this
  refine ⟨u, l, ?_, f, l4, l2, lr⟩
  unfold f_lowestHere
  rw [cl_3, h3, e, Option.bind_some]
  exact this
