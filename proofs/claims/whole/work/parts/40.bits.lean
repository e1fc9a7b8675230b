/-! bits of longs -/
def tb (s : Int64) (c : Nat) : Bool := s.toBitVec.getLsbD c
theorem tb_and (a b : Int64) (c : Nat) : tb (a &&& b) c = (tb a c && tb b c) := by
  simp [tb, Int64.toBitVec_and]
theorem tb_or (a b : Int64) (c : Nat) : tb (a ||| b) c = (tb a c || tb b c) := by
  simp [tb, Int64.toBitVec_or]
theorem tb_big {s : Int64} {c : Nat} (h : 64 ≤ c) : tb s c = false := by
  unfold tb; exact BitVec.getLsbD_of_ge _ _ h
theorem tb_lt {s : Int64} {c : Nat} (h : tb s c = true) : c < 64 := by
  rcases Nat.lt_or_ge c 64 with q | q
  · exact q
  · rw [tb_big q] at h; cases h
theorem tb_m1 {c : Nat} (h : c < 64) : tb (-1) c = true := by
  have : ∀ c, c < 64 → tb (-1) c = true := by decide +kernel
  exact this c h
theorem tb_not (a : Int64) {c : Nat} (h : c < 64) : tb (a ^^^ (-1)) c = !tb a c := by
  have e := tb_m1 h
  unfold tb at e ⊢
  rw [Int64.toBitVec_xor, BitVec.getLsbD_xor, e]
  cases a.toBitVec.getLsbD c <;> rfl
theorem tb_0 (c : Nat) : tb 0 c = false := by
  simp [tb]
theorem tb_ext {a b : Int64} (h : ∀ c, c < 64 → tb a c = tb b c) : a = b := by
  apply Int64.toBitVec_inj.mp
  apply BitVec.eq_of_getLsbD_eq
  intro i hi
  exact h i hi
theorem tb_eq0 {a : Int64} : a = 0 ↔ ∀ c, c < 64 → tb a c = false := by
  constructor
  · intro h c _; rw [h]; exact tb_0 c
  · intro h; exact tb_ext fun c hc => by rw [h c hc, tb_0]
theorem tb_ne0 {a : Int64} : ¬ a = 0 ↔ ∃ c, c < 64 ∧ tb a c = true := by
  rw [tb_eq0]
  constructor
  · intro h
    exact Classical.byContradiction fun q => h fun c hc => by
      cases e : tb a c with
      | false => rfl
      | true => exact absurd ⟨c, hc, e⟩ q
  · intro ⟨c, hc, h⟩ q
    rw [q c hc] at h; cases h
theorem sm_64 : ∀ k, k < 64 → (((nI k).toInt64 &&& 63).toBitVec.smod 64).toNat = k := by decide +kernel
theorem us_64 : ∀ k, k < 64 → ((nI k).toInt64.toUInt64 &&& Int64.toUInt64 63).toNat % 64 = k := by decide +kernel
theorem tb_shl (s : Int64) {k c : Nat} (hk : k < 64) (hc : c < 64) : tb (jshl s (nI k)) c = (decide (k ≤ c) && tb s (c - k)) := by
  unfold tb jshl
  have e := sm_64 k hk
  simp only [Int64.toBitVec_shiftLeft, BitVec.shiftLeft_eq', BitVec.getLsbD_shiftLeft]
  rw [e]
  by_cases q : k ≤ c
  · simp [q, hc, Nat.not_lt.mpr q]
  · simp [q, hc, Nat.lt_of_not_le q]
theorem tb_shr (s : Int64) {k : Nat} (c : Nat) (hk : k < 64) : tb (jushr s (nI k)) c = tb s (k + c) := by
  unfold tb jushr
  have e := us_64 k hk
  have e2 : (s.toUInt64 >>> ((nI k).toInt64.toUInt64 &&& Int64.toUInt64 63)).toInt64.toBitVec = s.toBitVec >>> k := by
    apply BitVec.eq_of_toNat_eq
    show (s.toUInt64 >>> ((nI k).toInt64.toUInt64 &&& Int64.toUInt64 63)).toNat = _
    rw [UInt64.toNat_shiftRight, e, BitVec.toNat_ushiftRight]
    rfl
  rw [e2, BitVec.getLsbD_ushiftRight]
theorem tb_bit {k c : Nat} (hk : k < 64) (hc : c < 64) : tb (jshl 1 (nI k)) c = decide (c = k) := by
  have : ∀ k, k < 64 → ∀ c, c < 64 → tb (jshl 1 (nI k)) c = decide (c = k) := by decide +kernel
  exact this k hk c hc
/-! the lowest one -/
theorem tb_neg (s : Int64) {c : Nat} (hc : c < 64) : tb (-s) c = (tb s c ^^ decide (∃ j, j < c ∧ tb s j = true)) := by
  unfold tb
  rw [Int64.toBitVec_neg, BitVec.getLsbD_neg]
  simp [hc]
theorem low_bit {s : Int64} {k : Nat} (h : tb s k = true) (hl : ∀ j, j < k → tb s j = false) : s &&& (-s) = jshl 1 (nI k) := by
  have hk := tb_lt h
  apply tb_ext
  intro c hc
  rw [tb_and, tb_neg _ hc, tb_bit hk hc]
  by_cases q : c = k
  · subst q
    have : ¬ ∃ j, j < c ∧ tb s j = true := fun ⟨j, hj, hb⟩ => by rw [hl j hj] at hb; cases hb
    simp [h, this]
  · rcases Nat.lt_or_ge c k with q2 | q2
    · simp [hl c q2, q]
    · have : ∃ j, j < c ∧ tb s j = true := ⟨k, by omega, h⟩
      simp [this, q]
theorem low_tab : ∀ k, k < 64 → bcF (jshl 1 (nI k) - 1) = nI k := by decide +kernel
theorem low_of {s : Int64} {k : Nat} (h : tb s k = true) (hl : ∀ j, j < k → tb s j = false) : lowF s = nI k := by
  unfold lowF
  rw [low_bit h hl, low_tab k (tb_lt h)]
theorem low_ex {s : Int64} (h : ¬ s = 0) : ∃ k, k < 64 ∧ tb s k = true ∧ (∀ j, j < k → tb s j = false) ∧ lowF s = nI k ∧ s &&& (-s) = jshl 1 (nI k) := by
  obtain ⟨c, hc, hb⟩ := tb_ne0.mp h
  obtain ⟨i, hi, h1, h2⟩ := fb_first (p := fun j => tb s j = true) (n := 64) ⟨c, hc, hb⟩
  have h2 : ∀ j, j < i → tb s j = false := fun j hj => by
    have := h2 j hj
    cases e : tb s j with
    | false => rfl
    | true => exact absurd e this
  exact ⟨i, hi, h1, h2, low_of h1 h2, low_bit h1 h2⟩
theorem low_0 : lowF 0 = 64 := by decide +kernel
theorem low_one {k : Nat} (hk : k < 64) : lowF (jshl 1 (nI k)) = nI k := by
  refine low_of (by rw [tb_bit hk hk]; simp) fun j hj => ?_
  rw [tb_bit hk (by omega)]; simp; omega
theorem has_tb (s : Int64) {k : Nat} (hk : k < 64) : hasF s (nI k) = tb s k := by
  unfold hasF
  rw [if_neg (nI_pos (by omega)), if_neg (by have := nI_ge hk (by decide); exact this)]
  by_cases q : tb s k = true
  · rw [q]
    have : ¬ (s &&& jshl 1 (nI k)) = 0 := tb_ne0.mpr ⟨k, hk, by rw [tb_and, q, tb_bit hk hk]; simp⟩
    simp [this]
  · have : (s &&& jshl 1 (nI k)) = 0 := tb_eq0.mpr fun c hc => by
      rw [tb_and, tb_bit hk hc]
      by_cases e : c = k
      · subst e; simp [q]
      · simp [e]
    simp [this]
    cases e : tb s k with
    | false => rfl
    | true => exact absurd e q
theorem has_out (s : Int64) {x : Int32} (h : ∀ k, k < 64 → ¬ x = nI k) : hasF s x = false := by
  unfold hasF
  by_cases a : x < 0
  · rw [if_pos a]
  · rw [if_neg a]
    by_cases b : 64 ≤ x
    · rw [if_pos b]
    · obtain ⟨j, hj, e⟩ := nI_of a
      refine absurd e (h j ?_)
      rw [e] at b
      rcases Nat.lt_or_ge j 64 with q | q
      · exact q
      · exact absurd (nI_le q hj) b
theorem has_iff (s : Int64) (x : Int32) : hasF s x = true ↔ ∃ k, k < 64 ∧ x = nI k ∧ tb s k = true := by
  constructor
  · intro h
    refine Classical.byContradiction fun q => ?_
    have : hasF s x = false := by
      by_cases e : ∃ k, k < 64 ∧ x = nI k
      · obtain ⟨k, hk, rfl⟩ := e
        rw [has_tb s hk]
        cases e : tb s k with
        | false => rfl
        | true => exact absurd ⟨k, hk, rfl, e⟩ q
      · exact has_out s fun k hk hx => e ⟨k, hk, hx⟩
    rw [this] at h; cases h
  · rintro ⟨k, hk, rfl, h⟩
    rw [has_tb s hk, h]
