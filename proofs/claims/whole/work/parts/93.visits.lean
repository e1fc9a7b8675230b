/-! the search: a visit -/
theorem viC_full {g : gT} {i : Int32} {ar b : Int64} : ∀ n k (q : SeT), sY q = true → viC g i ar b n k q = q := by
  intro n
  induction n with
  | zero => intro k q _; rfl
  | succ n ih =>
    intro k q h
    show viC g i ar b n (k + 1) (if hasF b (nI k) = true then viD g i ar (nI k) 4 0 q else q) = q
    have : (if hasF b (nI k) = true then viD g i ar (nI k) 4 0 q else q) = q := by
      split
      · show (if sY q = true then q else _) = q
        rw [if_pos h]
      · rfl
    rw [this]; exact ih (k + 1) q h
theorem viC_none {g : gT} {i : Int32} {ar b : Int64} : ∀ n k (q : SeT), (∀ c, k ≤ c → c < k + n → hasF b (nI c) = false) → viC g i ar b n k q = q := by
  intro n
  induction n with
  | zero => intro k q _; rfl
  | succ n ih =>
    intro k q h
    show viC g i ar b n (k + 1) (if hasF b (nI k) = true then viD g i ar (nI k) 4 0 q else q) = q
    rw [h k (Nat.le_refl k) (by omega), if_neg (by decide)]
    exact ih (k + 1) q fun c a e => h c (by omega) (by omega)
theorem viC_add {g : gT} {i : Int32} {ar b : Int64} : ∀ m n k (q : SeT), viC g i ar b (m + n) k q = viC g i ar b n (k + m) (viC g i ar b m k q) := by
  intro m
  induction m with
  | zero => intro n k q; rw [Nat.zero_add]; rfl
  | succ m ih =>
    intro n k q
    rw [show m + 1 + n = (m + n) + 1 by omega]
    show viC g i ar b (m + n) (k + 1) _ = viC g i ar b n (k + (m + 1)) (viC g i ar b m (k + 1) _)
    rw [ih, show k + 1 + m = k + (m + 1) by omega]
theorem vd_ok {g : gT} {R C : Nat} (ok : GOk g R C) {lim i c : Nat} {wt : Bool} {b : Int64} {p : Int32} (hc : c < R * C) {N : Nat} (hN : 10000 ≤ N) : ∀ m k q n t F, k + m = 4 → m + 1 ≤ F → VS g R C q n lim t → i < n → sB q i = b → sP q i = p → sW q = wt → ∃ u n' F', F ≤ F' + m + 1 ∧ f_visits_L N F 22 (nI i) (nI lim) (bI wt) (nI c) (nI k) t = f_visits_L N F' 3 (nI i) (nI lim) (bI wt) (nI (c + 1)) 0 u ∧ VS g R C (if tb b c = true then viD g (nI i) (pAr g b p) (nI c) m k q else q) n' lim u ∧ n ≤ n' ∧ Kp q (if tb b c = true then viD g (nI i) (pAr g b p) (nI c) m k q else q) n ∧ FrB [1, 6, 7, 10, 15, 16, 17] [16, 21, 26, 31, 35] t u := by
  have le := ok.rc.le
  intro m
  induction m with
  | zero =>
    intro k q n t F hk hF h hi hb hp hw
    obtain ⟨F', rfl⟩ : ∃ F', F = F' + 1 := ⟨F - 1, by omega⟩
    have qq : (if tb b c = true then viD g (nI i) (pAr g b p) (nI c) 0 k q else q) = q := by split <;> rfl
    rw [qq]
    refine ⟨t, n, F', by omega, ?_, h, Nat.le_refl n, Kp.rf, ⟨fun _ _ => rfl, fun _ _ => rfl, rfl⟩⟩
    rw [u_visits_22, if_pos (show (4 : Int32) ≤ nI k from nI_le (a := 4) (by omega) (by omega)), nI_1]
  | succ m ih =>
    intro k q n t F hk hF h hi hb hp hw
    obtain ⟨F', rfl⟩ : ∃ F', F = F' + 1 := ⟨F - 1, by omega⟩
    have h35 : rs t 35 = bI (sY q) := h.2.2.1.2.2.2.2.2.1
    rw [u_visits_22, if_neg (show ¬ (4 : Int32) ≤ nI k from nI_ge (b := 4) (by omega) (by decide)), h35]
    cases hY : sY q with
    | true =>
      have qq : (if tb b c = true then viD g (nI i) (pAr g b p) (nI c) (m + 1) k q else q) = q := by
        split
        · show (if sY q = true then q else _) = q
          rw [if_pos hY]
        · rfl
      rw [qq, if_neg (show ¬ bI true = 0 by decide), nI_1]
      exact ⟨t, n, F', by omega, rfl, h, Nat.le_refl n, Kp.rf, ⟨fun _ _ => rfl, fun _ _ => rfl, rfl⟩⟩
    | false =>
      have qq : (if tb b c = true then viD g (nI i) (pAr g b p) (nI c) (m + 1) k q else q) = (if tb b c = true then viD g (nI i) (pAr g b p) (nI c) m (k + 1) (if tb b c = true then lkS g q (nI i) (pAr g b p) (nI c) (nI k) else q) else (if tb b c = true then lkS g q (nI i) (pAr g b p) (nI c) (nI k) else q)) := by
        by_cases z : tb b c = true
        · rw [if_pos z, if_pos z, if_pos z]
          show (if sY q = true then q else _) = _
          rw [if_neg (by rw [hY]; decide)]
        · rw [if_neg z, if_neg z, if_neg z]
      obtain ⟨u0, u, n1, a1, a2, a3, a4, a5, a6, a7⟩ := lk_ok ok h hi hc (show k < 4 by omega) hN
      rw [hb, hp] at a4 a6
      rw [hb] at a2 a3
      rw [hw] at a3
      rw [if_pos (show bI false = 0 from rfl), a1, Option.bind_some, a2, Option.bind_some, nI_1, qq]
      have a3' := a3
      unfold lkB at a3'
      rw [a3', Option.bind_some]
      obtain ⟨b1, b2, b3, b4⟩ := a6.1 i hi
      obtain ⟨v, n', F2, z1, z2, z3, z4, z5, z6⟩ := ih (k + 1) _ n1 u F' (by omega) (by omega) a4 (by omega) (b1.trans hb) (b2.trans hp) (a6.2.2.1.trans hw)
      exact ⟨v, n', F2, by omega, z2, z3, by omega, a6.trans z5 a5, a7.trans z6⟩
theorem vc_ok {g : gT} {R C : Nat} (ok : GOk g R C) {lim i : Nat} {wt : Bool} {b : Int64} {p : Int32} {N : Nat} (hN : 10000 ≤ N) : ∀ m k q n t F, k + m = R * C → 6 * m + 1 ≤ F → VS g R C q n lim t → i < n → sB q i = b → sP q i = p → sW q = wt → ∃ u n', f_visits_L N F 3 (nI i) (nI lim) (bI wt) (nI k) 0 t = some u ∧ VS g R C (viC g (nI i) (pAr g b p) b m k q) n' lim u ∧ n ≤ n' ∧ Kp q (viC g (nI i) (pAr g b p) b m k q) n ∧ FrB [1, 6, 7, 10, 15, 16, 17] [16, 21, 26, 31, 35] t u := by
  have le := ok.rc.le
  intro m
  induction m with
  | zero =>
    intro k q n t F hk hF h hi hb hp hw
    obtain ⟨F', rfl⟩ : ∃ F', F = F' + 1 := ⟨F - 1, by omega⟩
    refine ⟨t, n, ?_, h, Nat.le_refl n, Kp.rf, ⟨fun _ _ => rfl, fun _ _ => rfl, rfl⟩⟩
    rw [u_visits_3, m_size h.1, if_pos (nI_le (show R * C ≤ k by omega) (by omega))]
  | succ m ih =>
    intro k q n t F hk hF h hi hb hp hw
    obtain ⟨F', rfl⟩ : ∃ F', F = F' + 1 := ⟨F - 1, by omega⟩
    have h35 : rs t 35 = bI (sY q) := h.2.2.1.2.2.2.2.2.1
    rw [u_visits_3, m_size h.1, if_neg (nI_ge (show k < R * C by omega) (by omega)), h35]
    cases hY : sY q with
    | true =>
      rw [if_neg (show ¬ bI true = 0 by decide), viC_full (m + 1) k q hY]
      exact ⟨t, n, rfl, h, Nat.le_refl n, Kp.rf, ⟨fun _ _ => rfl, fun _ _ => rfl, rfl⟩⟩
    | false =>
      rw [if_pos (show bI false = 0 from rfl)]
      obtain ⟨u, n1, F2, a1, a2, a3, a4, a5, a6⟩ := vd_ok ok (c := k) (show k < R * C by omega) hN 4 0 q n t F' rfl (by omega) h hi hb hp hw
      rw [show nI 0 = (0 : Int32) from rfl] at a2
      rw [a2]
      have qq : viC g (nI i) (pAr g b p) b (m + 1) k q = viC g (nI i) (pAr g b p) b m (k + 1) (if tb b k = true then viD g (nI i) (pAr g b p) (nI k) 4 0 q else q) := by
        show viC g (nI i) (pAr g b p) b m (k + 1) (if hasF b (nI k) = true then viD g (nI i) (pAr g b p) (nI k) 4 0 q else q) = _
        rw [has_tb b (show k < 64 by omega)]
      rw [qq]
      obtain ⟨b1, b2, b3, b4⟩ := a5.1 i hi
      obtain ⟨v, n', z2, z3, z4, z5, z6⟩ := ih (k + 1) _ n1 u F2 (by omega) (by omega) a3 (by omega) (b1.trans hb) (b2.trans hp) (a5.2.2.1.trans hw)
      exact ⟨v, n', z2, z3, by omega, a5.trans z5 a4, a6.trans z6⟩
