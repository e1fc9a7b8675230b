/-! the text of steps -/
theorem ch_t : ∀ ch, ch < 127 → ((sIx LET (nI ch) < 0 ∧ f_directionOf (nI ch) = -1) ∨ (¬ sIx LET (nI ch) < 0 ∧ ¬ f_directionOf (nI ch) < 0 ∧ f_directionOf (nI ch) < 4 ∧ sIx LET (nI ch) &&& 3 = f_directionOf (nI ch) ∧ decide (4 ≤ sIx LET (nI ch)) = decide (nI ch < 97) ∧ (ch < 48 ∨ 57 < ch))) ∧ f_in (nI ch) 48 57 = some (bI (decide (48 ≤ ch) && decide (ch ≤ 57))) ∧ f_in (nI ch) 49 57 = some (bI (decide (49 ≤ ch) && decide (ch ≤ 57))) ∧ digF (nI ch) 0 = (decide (49 ≤ ch) && decide (ch ≤ 57)) ∧ digF (nI ch) 1 = (decide (48 ≤ ch) && decide (ch ≤ 57)) ∧ digF (nI ch) 2 = false := by decide +kernel
theorem g80 {k : Nat} (h : k < 80) : ¬ (80 : Int32) ≤ nI k := nI_ge (b := 80) h (by decide)
theorem len0 {len : Nat} (h : len ≤ 80) (z : len ≠ 0) : ¬ nI len = (0 : Int32) := nI_ne (a := len) (b := 0) (by omega) (by decide) z
theorem iAt_k (f : Nat → Int32) {k : Nat} (h : k < 80) : iAt f (nI k) = f k := by
  unfold iAt
  rw [if_neg (nI_pos (by omega)), if_neg (g80 h), nI_clamp (by omega)]
/-- a text of steps in the model -/
def TX (f : Nat → Int32) (len : Nat) (t : xT) : Prop := len ≤ 80 ∧ ∀ i, i < len → ra t 5 i = f i ∧ ∃ ch, ch < 127 ∧ f i = nI ch
theorem fs_stage {t : xT} {f : Nat → Int32} {len : Nat} (h : TX f len t) (h11 : rs t 11 = nI len) {N F m : Nat} (ih : ∀ k n, n ≤ m → k + n = len → 1 ≤ n → f_stepsFault_L N F (nI k) t = some (fsL f (nI len) n k 0)) (j n d : Nat) (hj : j + (n + 1) = len) (hn : n ≤ m) (hd : digF (f j) (nI d) = false) : (if nI j = rs t 11 then some (nI j) else if inB (nI j) 80 = true then (if 0 ≤ f_directionOf (ra t 5 (Int32.toNatClampNeg (nI j))) then (if nI j + 1 < rs t 11 then f_stepsFault_L N F (nI j + 1) t else some (-1 : Int32)) else some (nI j)) else none) = some (fsL f (nI len) (n + 1) j (nI d)) := by
  obtain ⟨hl, hT⟩ := h
  obtain ⟨e5, ch, c1, c2⟩ := hT j (by omega)
  have ct := (ch_t ch c1).1
  rw [h11, if_neg (nI_ne (by omega) (by omega) (by omega)), if_pos (inB_nI (show j < 80 by omega) (by decide)), nI_clamp (by omega), e5]
  unfold fsL
  rw [iAt_k f (by omega)]
  rcases ct with ⟨s1, s2⟩ | ⟨s1, s2, _⟩
  · rw [c2] at hd ⊢
    rw [s2, if_pos s1, hd, if_neg (by decide), if_neg (by decide)]
  · rw [c2, if_neg s1, if_pos (Int32.not_lt.mp s2), nI_1]
    by_cases z : n = 0
    · subst z
      rw [if_neg (show ¬ nI (j + 1) < nI len by rw [show j + 1 = len by omega]; exact Int32.lt_irrefl)]
      unfold fsL
      rw [if_neg (len0 hl (by omega)), if_pos le00]
    · rw [if_pos (nI_lt (by omega) (by omega))]
      exact ih (j + 1) n hn (by omega) (by omega)
theorem fs_ok {t : xT} {f : Nat → Int32} {len : Nat} (h : TX f len t) (h11 : rs t 11 = nI len) {N r : Nat} : ∀ m n k, n ≤ m → k + n = len → (1 ≤ n ∨ len = 0) → f_stepsFault_L N (r + 1 + m) (nI k) t = some (fsL f (nI len) n k 0) := by
  intro m
  have hl := h.1
  induction m with
  | zero =>
    intro n k hn hk hz
    have : len = 0 := by omega
    subst this
    have : n = 0 := by omega
    subst this
    have : k = 0 := by omega
    subst this
    rw [Nat.add_zero, u_stepsFault_2, h11, if_pos (show nI 0 ≤ nI 0 by decide), Option.bind_some, if_pos rfl]; rfl
  | succ m ih =>
    intro n k hn hk hz
    have st := fs_stage h h11 (N := N) (F := r + 1 + m) (m := m) fun k n a b c => ih n k a b (Or.inl c)
    rcases Nat.eq_zero_or_pos n with z | z
    · have : len = 0 := by omega
      subst this
      subst z
      have : k = 0 := by omega
      subst this
      rw [← Nat.add_assoc, u_stepsFault_2, h11, if_pos (show nI 0 ≤ nI 0 by decide), Option.bind_some, if_pos rfl]; rfl
    · obtain ⟨n, rfl⟩ : ∃ n', n = n' + 1 := ⟨n - 1, by omega⟩
      obtain ⟨hl, hT⟩ := h
      obtain ⟨e5, ch, c1, c2⟩ := hT k (by omega)
      obtain ⟨ct, i48, i49, d0, d1, d2⟩ := ch_t ch c1
      rw [← Nat.add_assoc, u_stepsFault_2, h11, if_neg (nI_ge (show k < len by omega) (by omega)), if_pos (inB_nI (show k < 80 by omega) (by decide)), nI_clamp (by omega), e5, c2, i49, Option.bind_some, nI_1]
      cases hdg : (decide (49 ≤ ch) && decide (ch ≤ 57)) with
      | false =>
        rw [if_pos (show bI false = 0 from rfl), Option.bind_some]
        have := st k n 0 (by omega) (by omega) (by rw [c2]; show digF (nI ch) 0 = false; rw [d0, hdg])
        rw [h11] at this
        exact this
      | true =>
        rw [hdg] at d0
        have hdg' := hdg
        rw [and_t, decide_eq_true_iff, decide_eq_true_iff] at hdg'
        have sx : sIx LET (nI ch) < 0 := by
          rcases ct with ⟨s, _⟩ | ⟨_, _, _, _, _, s⟩
          · exact s
          · omega
        have cl1 : fsL f (nI len) (n + 1) k 0 = fsL f (nI len) n (k + 1) 1 := by
          conv => lhs; unfold fsL
          rw [iAt_k f (by omega), c2, if_pos sx, d0, if_pos rfl]; rfl
        rw [cl1, if_neg (show ¬ bI true = 0 by decide)]
        by_cases w : n = 0
        · subst w
          have ek : k + 1 = len := by omega
          rw [if_pos (nI_le (show len ≤ k + 1 by omega) (by omega)), Option.bind_some, Option.bind_some]
          have e0 : nI (k + 1) + 0 = nI len := by rw [ek]; exact Int32.add_zero _
          rw [e0, if_pos rfl]
          unfold fsL
          rw [if_neg (len0 hl (by omega)), if_neg (show ¬ (1 : Int32) ≤ 0 by decide)]
        · obtain ⟨n, rfl⟩ : ∃ n', n = n' + 1 := ⟨n - 1, by omega⟩
          obtain ⟨f5, ch', c1', c2'⟩ := hT (k + 1) (by omega)
          obtain ⟨ct', i48', _, _, d1', d2'⟩ := ch_t ch' c1'
          rw [if_neg (nI_ge (show k + 1 < len by omega) (by omega)), if_pos (inB_nI (show k + 1 < 80 by omega) (by decide)), nI_clamp (by omega), f5, c2', i48', Option.bind_some]
          cases hdg2 : (decide (48 ≤ ch') && decide (ch' ≤ 57)) with
          | false =>
            rw [if_pos (show bI false = 0 from rfl), Option.bind_some, Option.bind_some, show nI (k + 1) + 0 = nI (k + 1) from Int32.add_zero _]
            have := st (k + 1) n 1 (by omega) (by omega) (by rw [c2']; show digF (nI ch') 1 = false; rw [d1', hdg2])
            rw [h11] at this
            exact this
          | true =>
            rw [hdg2] at d1'
            have hdg2' := hdg2
            rw [and_t, decide_eq_true_iff, decide_eq_true_iff] at hdg2'
            have sx' : sIx LET (nI ch') < 0 := by
              rcases ct' with ⟨s, _⟩ | ⟨_, _, _, _, _, s⟩
              · exact s
              · omega
            have cl2 : fsL f (nI len) (n + 1) (k + 1) 1 = fsL f (nI len) n (k + 1 + 1) 2 := by
              conv => lhs; unfold fsL
              rw [iAt_k f (by omega), c2', if_pos sx', d1', if_pos rfl]; rfl
            rw [cl2, if_neg (show ¬ bI true = 0 by decide), Option.bind_some, Option.bind_some, nI_1]
            by_cases w : n = 0
            · subst w
              rw [show k + 1 + 1 = len by omega, if_pos rfl]
              unfold fsL
              rw [if_neg (len0 hl (by omega)), if_neg (show ¬ (2 : Int32) ≤ 0 by decide)]
            · obtain ⟨n, rfl⟩ : ∃ n', n = n' + 1 := ⟨n - 1, by omega⟩
              obtain ⟨_, ch2, c12, c22⟩ := hT (k + 1 + 1) (by omega)
              have := st (k + 1 + 1) n 2 (by omega) (by omega) (by rw [c22]; exact (ch_t ch2 c12).2.2.2.2.2)
              rw [h11] at this
              exact this
