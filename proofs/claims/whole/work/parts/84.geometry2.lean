/-! the grid that is laid out -/
theorem lz_ok {N : Nat} (v1 : Int32) : ∀ m k r t, k + m = 602 → (∀ j, j < k → ra t 1 j = 0) → ∃ u, f_lays_L N (r + 1 + m) 2 v1 (nI k) 0 0 t = f_lays_L N r 56 v1 0 0 0 u ∧ Frm [1] [] t u ∧ ra u 1 0 = 1 ∧ ra u 1 1 = rs t 14 ∧ ra u 1 2 = rs t 13 ∧ ∀ j, 3 ≤ j → j < 602 → ra u 1 j = 0 := by
  intro m
  induction m with
  | zero =>
    intro k r t hk h
    refine ⟨wa (wa (wa t 1 (upd (ra t 1) 0 1)) 1 (upd (ra (wa t 1 (upd (ra t 1) 0 1)) 1) 1 (rs t 14))) 1 (upd (ra (wa (wa t 1 (upd (ra t 1) 0 1)) 1 (upd (ra (wa t 1 (upd (ra t 1) 0 1)) 1) 1 (rs t 14))) 1) 2 (rs t 13)), ?_, Frm.wa (Frm.wa (Frm.wa Frm.rf (by decide) _) (by decide) _) (by decide) _, ?_, ?_, ?_, ?_⟩
    · rw [Nat.add_zero, u_lays_2, if_pos (l602 (show 602 ≤ k by omega) (by omega)), Option.bind_some, Option.bind_some, Option.bind_some]; rfl
    · rw [ra_wa, if_pos rfl, upd_at, if_neg (by decide), ra_wa, if_pos rfl, upd_at, if_neg (by decide), ra_wa, if_pos rfl, upd_at, if_pos rfl]
    · rw [ra_wa, if_pos rfl, upd_at, if_neg (by decide), ra_wa, if_pos rfl, upd_at, if_pos rfl]
    · rw [ra_wa, if_pos rfl, upd_at, if_pos rfl]
    · intro j h3 h6
      rw [ra_wa, if_pos rfl, upd_at, if_neg (by omega), ra_wa, if_pos rfl, upd_at, if_neg (by omega), ra_wa, if_pos rfl, upd_at, if_neg (by omega)]
      exact h j (by omega)
  | succ m ih =>
    intro k r t hk h
    rw [← Nat.add_assoc, u_lays_2, if_neg (g602 (show k < 602 by omega)), if_pos (inB_nI (show k < 602 by omega) (by decide)), Option.bind_some, nI_clamp (by omega), nI_1]
    obtain ⟨u, q1, q2, q3, q4, q5, q6⟩ := ih (k + 1) r (wa t 1 (upd (ra t 1) k 0)) (by omega) (fun j hj => by
      rw [ra_wa, if_pos rfl, upd_at]
      by_cases z : j = k
      · rw [if_pos z]
      · rw [if_neg z]; exact h j (by omega))
    exact ⟨u, q1, (Frm.wa Frm.rf (by decide) _).trans q2, q3, q4, q5, q6⟩
theorem lyL_tb {C : Nat} (hC : 1 ≤ C) : ∀ n k (f : Int64), (k + n) * C ≤ 64 → ∀ c, tb (lyL (nI C) n k f) c = true ↔ tb f c = true ∨ ∃ i, k ≤ i ∧ i < k + n ∧ c = i * C := by
  intro n
  induction n with
  | zero =>
    intro k f _ c
    exact ⟨Or.inl, fun h => h.resolve_right fun ⟨i, a, b, _⟩ => by omega⟩
  | succ n ih =>
    intro k f h c
    show tb (lyL (nI C) n (k + 1) (f ||| jshl 1 (nI k * nI C))) c = true ↔ _
    have hk : k * C < 64 := by
      have : (k + 1) * C ≤ (k + (n + 1)) * C := Nat.mul_le_mul_right C (by omega)
      rw [Nat.add_mul, Nat.one_mul] at this
      omega
    rw [ih (k + 1) _ (by rw [show k + 1 + n = k + (n + 1) by omega]; exact h), pk_mul, tb_or, or_t, bit_eqL hk]
    constructor
    · rintro ((a | a) | ⟨i, a, b, d⟩)
      · exact Or.inl a
      · exact Or.inr ⟨k, Nat.le_refl k, by omega, a⟩
      · exact Or.inr ⟨i, by omega, by omega, d⟩
    · rintro (a | ⟨i, a, b, d⟩)
      · exact Or.inl (Or.inl a)
      · rcases Nat.eq_or_lt_of_le a with q | q
        · subst q; exact Or.inl (Or.inr d)
        · exact Or.inr ⟨i, q, by omega, d⟩
theorem lyF {R C : Nat} (h : RC R C) {c : Nat} : tb (lyL (nI C) R 0 0) c = decide (c % C = 0 ∧ c < R * C) := by
  have hC : 0 < C := by have := h.2.1; omega
  apply bool_iff
  rw [lyL_tb (by omega) R 0 0 (by rw [Nat.zero_add]; exact h.le), decide_eq_true_iff]
  constructor
  · rintro (a | ⟨i, _, b, d⟩)
    · exact cl_no a
    · subst d
      exact ⟨Nat.mul_mod_left i C, Nat.mul_lt_mul_of_pos_right (by omega) hC⟩
  · rintro ⟨a, b⟩
    refine Or.inr ⟨c / C, Nat.zero_le _, ?_, ?_⟩
    · rw [Nat.zero_add]; exact (Nat.div_lt_iff_lt_mul hC).mpr b
    · exact (Nat.div_mul_cancel (Nat.dvd_of_mod_eq_zero a)).symm
theorem gPl_cong {g g' : gT} (hM : ∀ s d, gMv g s d = gMv g' s d) (hO : gO g = gO g') (s : Int64) : gPl g s = gPl g' s := by
  have i1 : ∀ n k q m, gPlI g q n k m = gPlI g' q n k m := by
    intro n
    induction n with
    | zero => intro k q m; rfl
    | succ n ih =>
      intro k q m
      show gPlI g q n (k + 1) (m ||| (gMv g q ((nI k + 2) &&& 3) &&& gMv g (gO g) (nI k))) = gPlI g' q n (k + 1) (m ||| (gMv g' q ((nI k + 2) &&& 3) &&& gMv g' (gO g') (nI k)))
      rw [hM, hM, hO, ih]
  have i2 : ∀ n q, gPlL g n q = gPlL g' n q := by
    intro n
    induction n with
    | zero => intro q; rfl
    | succ n ih =>
      intro q
      show (if gPlI g q 4 0 q = q then q else gPlL g n (gPlI g q 4 0 q)) = (if gPlI g' q 4 0 q = q then q else gPlL g' n (gPlI g' q 4 0 q))
      rw [i1, ih]
  exact i2 64 s
theorem ly_ok {x : RtT} {k R C nb ng : Nat} (h : SI x k R C 0 (R * C) nb ng) (rc : RC R C) (d : Int64) : GOk (lyG x R d) R C := by
  obtain ⟨⟨a1, a2, a3, a4, a5, a6⟩, _, _, d1, d2, d3, d4, d5, d6⟩ := h
  have le := rc.le
  obtain ⟨⟨r1, r2⟩, r3, r4⟩ := rc
  have eF : gF (lyG x R d) = lyL (nI C) R 0 0 := by rw [← a2]; rfl
  have eL : gL (lyG x R d) = jshl (lyL (nI C) R 0 0) (nI (C - 1)) := by
    show jshl (lyL (rC x) R 0 0) (rC x - 1) = _
    rw [a2, show nI C - 1 = nI (C - 1) from pk_sub (b := 1) (by omega)]
  refine ⟨⟨⟨r1, r2⟩, r3, r4⟩, a1, a2, d1, d2, fun c hc => ?_, fun c hc => ?_, ?_⟩
  · rw [eF]; exact lyF ⟨⟨r1, r2⟩, r3, r4⟩
  · rw [eL, tb_shl _ (by omega) hc, lyF ⟨⟨r1, r2⟩, r3, r4⟩]
    apply bool_iff
    rw [and_t, decide_eq_true_iff, decide_eq_true_iff, decide_eq_true_iff]
    rcases c_cases r3 r4 with rfl | rfl | rfl | rfl | rfl | rfl <;> omega
  · show rO x &&& (gPl (ly0 x R d) (rG x) ^^^ (-1)) = rO x &&& (gPl (lyG x R d) (rG x) ^^^ (-1))
    rw [gPl_cong (g := ly0 x R d) (g' := lyG x R d) (fun _ _ => rfl) rfl]
theorem bg_ok {q : GmT} {x : RtT} {k R C nb ng : Nat} (h : SI x k R C 0 (R * C) nb ng) (rc : RC R C) (hp : ¬ rP x = -1) : ∃ p, rP x = nI p ∧ GI (bgQ q x R) R C p 0 := by
  have ok := ly_ok h rc (gD (qG q))
  have le := rc.le
  obtain ⟨_, _, _, d1, d2, d3, d4, d5, d6⟩ := h
  rcases d4 with d4 | ⟨p, p1, p2, p3⟩
  · exact absurd d4 hp
  · obtain ⟨p4, p5⟩ := p3 (by omega)
    refine ⟨p, p2, ok, p2, rfl, by decide, ⟨d3, ?_, Nat.le_trans d6 d5⟩, fun i hi => absurd hi (Nat.not_lt_zero i), fun _ => rfl⟩
    show tb (pFr (lyG x R (gD (qG q))) (rB x)) p = true
    rw [pf_tb]
    show (tb (rO x) p && !tb (rB x) p) = true
    rw [p4, p5]; rfl
