/-! recorded pushes -/
theorem rp_loop {t : xT} {f : Nat → Int32} {k : Nat} (hk : k ≤ 400) (h4 : ra t 1 4 = nI k) (hr : ∀ i, i < k → ra t 1 (202 + i) = f i) (N n : Nat) : ∀ (m i : Nat) (a : Int32), i + m = k → f_recordedPushes_L N (n + 1 + m) a (nI i) t = some (psL f m i a) := by
  intro m
  induction m with
  | zero =>
    intro i a hi
    rw [Nat.add_zero, u_recordedPushes_4, cl_4, h4, if_pos (nI_le (by omega) (by omega))]; rfl
  | succ m ih =>
    intro i a hi
    have e : (202 : Int32) + nI i = nI (202 + i) := nI_add 202 i
    rw [show n + 1 + (m + 1) = n + 1 + m + 1 by omega, u_recordedPushes_4, cl_4, h4, if_neg (nI_ge (by omega) (by omega)), e, if_pos (inB_nI (by omega) (by decide)), nI_clamp (by omega), hr i (by omega), nI_1]
    unfold psL
    rw [intAt_at (show i < 400 by omega) (by decide)]
    by_cases z : f i < 4
    · have : ¬ 4 ≤ f i := by rw [Int32.not_le]; exact z
      rw [if_pos z, if_neg this, Option.bind_some, Int32.add_zero, ih (i + 1) a (by omega)]
    · have : 4 ≤ f i := by rw [← Int32.not_lt]; exact z
      rw [if_neg z, if_pos this, Option.bind_some, ih (i + 1) _ (by omega)]
theorem s_recordedPushes {t : xT} {f : Nat → Int32} {k : Nat} (hk : k ≤ 400) (h4 : ra t 1 4 = nI k) (hr : ∀ i, i < k → ra t 1 (202 + i) = f i) {N : Nat} (hN : 10000 ≤ N) : f_recordedPushes N t = some (psL f k 0 0) := by
  unfold f_recordedPushes
  obtain ⟨n, hn⟩ : ∃ n, N = n + 1 + k := ⟨N - (k + 1), by omega⟩
  have := rp_loop hk h4 hr N n k 0 0 (by omega)
  rw [nI_0, ← hn] at this
  exact this
/-! groups -/
theorem pf_tb (g : gT) (b : Int64) (x : Nat) : tb (pFr g b) x = (tb (gO g) x && !tb b x) := fe_tb g b x
theorem s_wk {t : xT} {g : gT} {R C : Nat} {b : Int64} (ok : GOk g R C) (hM : GR (ra t 1) g R C) (hB : GB (ra t 1) b) {a : Nat} (ha : a < R * C) {N : Nat} (hN : 10000 ≤ N) : ∃ u, f_walksFrom N t (nI a) = some u ∧ Frm [7, 6] [16] t u ∧ (∀ c, c < R * C → ra u 7 c = sz ((bfR (adjW g R C b) a).2.2 c)) ∧ rs u 16 = nI (bfR (adjW g R C b) a).2.1 ∧ (∀ j, j < (bfR (adjW g R C b) a).2.1 → ra u 6 j = nI ((bfR (adjW g R C b) a).1 j)) := by
  obtain ⟨Q, S, nn, e, r⟩ := m_walksFrom ok hM hB ha hN
  exact ⟨_, e, Frm.wq 7 t Q S nn, fun c hc => by rw [wQ_S (by decide)]; exact r.2.2 c hc, r.1, fun j hj => r.2.1 j hj⟩
/-- the cells that a walk reaches, as the class has them -/
theorem area_tb {g : gT} {R C : Nat} {b : Int64} (ok : GOk g R C) {a : Nat} (ho : tb (pFr g b) a = true) (x : Nat) : tb (gSp g (jshl 1 (nI a)) (pFr g b)) x = decide ((bfR (adjW g R C b) a).2.2 x < 64) := by
  have ha : a < R * C := by rw [pf_tb, and_t] at ho; exact ok.open_lt ho.1
  exact sp_cert ok ha ho (wk_cert ok ha) x
theorem bf_mem {adj : Nat → Nat → Nat} {a : Nat} (ha : a < 64) (x : Nat) : (bfR adj a).2.2 x < 64 ↔ ∃ j, j < (bfR adj a).2.1 ∧ (bfR adj a).1 j = x := by
  have h := (bfR_ok (adj := adj) ha).1
  constructor
  · intro q
    rcases h.2.2.2.2.2.1 x with w | w
    · omega
    · exact w
  · rintro ⟨j, hj, w⟩
    have q1 := (h.2.2.2.1 j hj).2
    have := h.n64
    rw [w] at q1; omega
theorem bf_rcn {adj : Nat → Nat → Nat} {a RCn : Nat} (ha : a < RCn) (h64 : RCn ≤ 64) (hadj : ∀ c d, adj c d < 64 → adj c d < RCn) {j : Nat} (hj : j < (bfR adj a).2.1) : (bfR adj a).1 j < RCn := by
  have h := bfR_ok (adj := adj) (a := a) (by omega)
  have q1 := (h.1.2.2.2.1 j hj)
  have := h.1.n64
  rcases h.2.2.1 _ (show (bfR adj a).2.2 ((bfR adj a).1 j) < 64 by omega) with w | ⟨p, _, ⟨_, d, _, w⟩, _⟩
  · omega
  · rw [← w]; exact hadj p d (by rw [w]; exact q1.1)
theorem gr_mark {g : gT} {R C : Nat} (ok : GOk g R C) {q : Nat → Nat} {k : Nat} (hk : k ≤ 64) (hq : ∀ j, j < k → q j < R * C) (v1 : Int32) {c : Nat} (N : Nat) : ∀ (m j n : Nat) (t : xT) (M : Nat → Bool), j + m = k → rs t 16 = nI k → (∀ j, j < k → ra t 6 j = nI (q j)) → (∀ x, x < R * C → ra t 11 x = bI (M x)) → ∃ (u : xT) (M' : Nat → Bool), f_groups_L N (n + 1 + m) 73 v1 (nI c) (nI j) t = f_groups_L N n 27 v1 (nI (c + 1)) 0 u ∧ Frm [11] [] t u ∧ (∀ x, x < R * C → ra u 11 x = bI (M' x)) ∧ ∀ x, M' x = true ↔ M x = true ∨ ∃ i, j ≤ i ∧ i < k ∧ q i = x := by
  intro m
  have hle := ok.rc.le
  induction m with
  | zero =>
    intro j n t M hj h16 h6 h11
    refine ⟨t, M, ?_, Frm.rf, h11, fun x => ?_⟩
    · rw [Nat.add_zero, u_groups_73, h16, if_pos (nI_le (by omega) (by omega)), nI_1]
    · constructor
      · intro h; exact Or.inl h
      · rintro (h | ⟨i, h1, h2, _⟩)
        · exact h
        · omega
  | succ m ih =>
    intro j n t M hj h16 h6 h11
    have hjk : j < k := by omega
    have hqj := hq j hjk
    have cj : (nI j).toNatClampNeg = j := nI_clamp (by omega)
    have cq : (nI (q j)).toNatClampNeg = q j := nI_clamp (by omega)
    obtain ⟨u, M', e, f, r, w⟩ := ih (j + 1) n (wa t 11 (upd (ra t 11) (q j) 1)) (fun x => if x = q j then true else M x) (by omega) h16 h6 fun x hx => by
      rw [ra_wa, if_pos rfl]
      by_cases z : x = q j
      · rw [z, pk_us, if_pos rfl]; rfl
      · rw [pk_un z, if_neg z]; exact h11 x hx
    refine ⟨u, M', ?_, (Frm.wa Frm.rf (by decide) _).trans f, r, fun x => ?_⟩
    · rw [show n + 1 + (m + 1) = n + 1 + m + 1 by omega, u_groups_73, h16, if_neg (nI_ge hjk (by omega)), if_pos (inB_nI (by omega) (by decide)), cj, h6 j hjk, if_pos (inB_nI (by omega) (by decide)), Option.bind_some, cq, nI_1, show vp_nar .boolean 1 = 1 from rfl, e]
    · rw [w x]
      constructor
      · rintro (w | ⟨i, h1, h2, h3⟩)
        · by_cases z : x = q j
          · exact Or.inr ⟨j, by omega, hjk, z.symm⟩
          · rw [if_neg z] at w; exact Or.inl w
        · exact Or.inr ⟨i, by omega, h2, h3⟩
      · rintro (w | ⟨i, h1, h2, h3⟩)
        · by_cases z : x = q j
          · rw [if_pos z]; exact Or.inl rfl
          · rw [if_neg z]; exact Or.inl w
        · rcases Nat.eq_or_lt_of_le h1 with z | z
          · subst z; rw [if_pos h3.symm]; exact Or.inl rfl
          · exact Or.inr ⟨i, by omega, h2, h3⟩
theorem gr_loop {g : gT} {R C : Nat} {b : Int64} (ok : GOk g R C) {N : Nat} (hN : 10000 ≤ N) : ∀ (m c k n : Nat) (t : xT) (M : Nat → Bool) (rest : Int64), c + m = R * C → k ≤ c → GR (ra t 1) g R C → GB (ra t 1) b → (∀ x, x < R * C → ra t 11 x = bI (M x)) → (∀ x, tb rest x = (tb (pFr g b) x && !M x)) → (∀ x, x < c → tb rest x = false) → ∃ u, f_groups_L N (n + 1 + 70 * m) 27 (nI k) (nI c) 0 t = some (gGrL g (pFr g b) (64 - k) rest (nI k), u) ∧ Frm [11, 7, 6] [16] t u := by
  intro m
  have hle := ok.rc.le
  induction m with
  | zero =>
    intro c k n t M rest hc hk hM hB hm hr hl
    have : rest = 0 := tb_eq0.mpr fun x _ => by
      by_cases z : x < c
      · exact hl x z
      · cases e : tb rest x with
        | false => rfl
        | true => rw [hr, and_t, pf_tb, and_t] at e; have := ok.open_lt e.1.1; omega
    refine ⟨t, ?_, Frm.rf⟩
    rw [Nat.mul_zero, Nat.add_zero, u_groups_27, m_size hM, if_pos (nI_le (by omega) (by omega)), this]
    cases 64 - k with
    | zero => rfl
    | succ j => unfold gGrL; rw [if_pos rfl]
  | succ m ih =>
    intro c k n t M rest hc hk hM hB hm hr hl
    have hcl : c < R * C := by omega
    have cc : (nI c).toNatClampNeg = c := nI_clamp (by omega)
    have bc := inB_nI (show c < 64 by omega) (show 64 < 2 ^ 31 by decide)
    have hrc := hr c
    rw [pf_tb] at hrc
    rw [show n + 1 + 70 * (m + 1) = n + 1 + 70 * m + 69 + 1 by omega, u_groups_27, m_size hM, if_neg (nI_ge hcl (by omega)), m_openI hM (by omega), m_boxI hB (by omega)]
    simp only [Option.bind_some, bI_ne0, bc, if_true, cc, hm c hcl, nI_1]
    have skip : tb rest c = false → ∃ u, f_groups_L N (n + 1 + 70 * m + 69) 27 (nI k) (nI (c + 1)) 0 t = some (gGrL g (pFr g b) (64 - k) rest (nI k), u) ∧ Frm [11, 7, 6] [16] t u := by
      intro z
      rw [show n + 1 + 70 * m + 69 = (n + 69) + 1 + 70 * m by omega]
      exact ih (c + 1) k (n + 69) t M rest (by omega) (by omega) hM hB hm hr fun x hx => by
        by_cases w : x = c
        · rw [w]; exact z
        · exact hl x (by omega)
    cases ho : tb (gO g) c with
    | false => rw [if_pos rfl]; exact skip (by rw [hrc, ho]; rfl)
    | true =>
      rw [if_neg (by decide)]
      cases hx : tb b c with
      | true => rw [if_neg (by decide)]; exact skip (by rw [hrc, hx]; simp)
      | false =>
        rw [if_pos rfl]
        cases hmc : M c with
        | true => rw [if_neg (by decide)]; exact skip (by rw [hrc, hmc]; simp)
        | false =>
          rw [if_pos rfl]
          obtain ⟨u, e, f, w7, w16, w6⟩ := s_wk ok hM hB hcl hN
          rw [e, Option.bind_some]
          have hfree : tb (pFr g b) c = true := by rw [pf_tb, ho, hx]; rfl
          have hcr : tb rest c = true := by rw [hrc, ho, hx, hmc]; rfl
          have bok := (bfR_ok (adj := adjW g R C b) (a := c) (by omega)).1
          have n64 := bok.n64
          obtain ⟨v, M', e2, f2, r2, r3⟩ := gr_mark ok n64 (fun j hj => bf_rcn hcl hle (wk_adj ok b) hj) (nI (k + 1)) (c := c) N (bfR (adjW g R C b) c).2.1 0 (n + 1 + 70 * m + 68 - (bfR (adjW g R C b) c).2.1) u M (by omega) w16 w6 fun x hx => by rw [f.a 11 rfl]; exact hm x hx
          rw [nI_0] at e2
          rw [show n + 1 + 70 * m + 69 = n + 1 + 70 * m + 68 - (bfR (adjW g R C b) c).2.1 + 1 + (bfR (adjW g R C b) c).2.1 by omega, e2]
          rw [show n + 1 + 70 * m + 68 - (bfR (adjW g R C b) c).2.1 = (n + 68 - (bfR (adjW g R C b) c).2.1) + 1 + 70 * m by omega]
          have f3 : Frm [11, 7, 6] [16] t v := (f.up (by decide) (by decide)).trans (f2.up (by decide) (by decide))
          have area := area_tb ok hfree
          have mem := bf_mem (adj := adjW g R C b) (a := c) (by omega)
          have hM' : ∀ x, M' x = (M x || decide ((bfR (adjW g R C b) c).2.2 x < 64)) := fun x => by
            apply bool_iff
            rw [r3 x, or_t, decide_eq_true_iff, mem x]
            constructor
            · rintro (h | ⟨i, _, h⟩)
              · exact Or.inl h
              · exact Or.inr ⟨i, h⟩
            · rintro (h | ⟨i, h⟩)
              · exact Or.inl h
              · exact Or.inr ⟨i, by omega, h⟩
          obtain ⟨w, e4, f4⟩ := ih (c + 1) (k + 1) (n + 68 - (bfR (adjW g R C b) c).2.1) v M' (rest &&& (gSp g (jshl 1 (nI c)) (pFr g b) ^^^ (-1))) (by omega) (by omega) (hM.of (f3.a 1 rfl)) (hB.of (f3.a 1 rfl)) r2 (fun x => by
              rw [tb_andn, hr x, area x, hM' x]
              cases tb (pFr g b) x <;> cases M x <;> cases decide ((bfR (adjW g R C b) c).2.2 x < 64) <;> rfl) (fun x hx => by
              rw [tb_andn, area x]
              by_cases z : x = c
              · subst z
                have : (bfR (adjW g R C b) x).2.2 x < 64 := by rw [bok.2.2.1]; decide
                rw [decide_eq_true this]; simp
              · rw [hl x (by omega)]; rfl)
          refine ⟨w, ?_, f3.trans f4⟩
          rw [e4]
          congr 2
          rw [show 64 - k = (64 - (k + 1)) + 1 by omega]
          conv => rhs; unfold gGrL
          rw [if_neg (tb_ne0.mpr ⟨c, by omega, hcr⟩), low_bit hcr hl, nI_1]
theorem s_groups {t : xT} {g : gT} {R C : Nat} {b : Int64} (ok : GOk g R C) (hM : GR (ra t 1) g R C) (hB : GB (ra t 1) b) {N : Nat} (hN : 10000 ≤ N) : ∃ u, f_groups N t = some (gGr g (pFr g b), u) ∧ Frm [11, 7, 6] [16] t u := by
  have hle := ok.rc.le
  have fill : ∀ (m c n : Nat) (t : xT), c + m = R * C → GR (ra t 1) g R C → (∀ x, x < c → ra t 11 x = 0) → ∃ u, f_groups_L N (n + 1 + m) 4 0 (nI c) 0 t = f_groups_L N n 27 0 0 0 u ∧ Frm [11, 7, 6] [16] t u ∧ ∀ x, x < R * C → ra u 11 x = 0 := by
    intro m
    induction m with
    | zero =>
      intro c n t hc hM h
      refine ⟨t, ?_, Frm.rf, fun x hx => h x (by omega)⟩
      rw [Nat.add_zero, u_groups_4, m_size hM, if_pos (nI_le (by omega) (by omega))]
    | succ m ih =>
      intro c n t hc hM h
      obtain ⟨u, e, f, q⟩ := ih (c + 1) n (wa t 11 (upd (ra t 11) c 0)) (by omega) hM fun x hx => by
        rw [ra_wa, if_pos rfl]
        by_cases z : x = c
        · rw [z, pk_us]
        · rw [pk_un z]; exact h x (by omega)
      refine ⟨u, ?_, (Frm.wa Frm.rf (by decide) _).trans f, q⟩
      rw [show n + 1 + (m + 1) = n + 1 + m + 1 by omega, u_groups_4, m_size hM, if_neg (nI_ge (by omega) (by omega)), if_pos (inB_nI (by omega) (by decide)), Option.bind_some, nI_clamp (by omega), show vp_nar .boolean 0 = 0 from rfl, nI_1, e]
  unfold f_groups
  obtain ⟨n, hn⟩ : ∃ n, N = (n + 1 + 70 * (R * C)) + 1 + R * C := ⟨N - (71 * (R * C) + 2), by omega⟩
  obtain ⟨u, e1, f1, q1⟩ := fill (R * C) 0 (n + 1 + 70 * (R * C)) t (by omega) hM fun x hx => by omega
  rw [nI_0, ← hn] at e1
  obtain ⟨v, e2, f2⟩ := gr_loop ok hN (R * C) 0 0 n u (fun _ => false) (pFr g b) (by omega) (by omega) (hM.of (f1.a 1 rfl)) (hB.of (f1.a 1 rfl)) (fun x hx => q1 x hx) (fun x => by simp) (fun x hx => by omega)
  rw [nI_0] at e2
  exact ⟨v, by rw [e1, e2]; rfl, f1.trans f2⟩
