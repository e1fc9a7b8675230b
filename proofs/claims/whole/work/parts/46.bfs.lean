/-! going through cells with a queue -/
abbrev bX : Type := (Nat → Nat) × Nat × (Nat → Nat)
def bfS (adj : Nat → Nat → Nat) (c d : Nat) (X : bX) : bX := if adj c d < 64 ∧ X.2.2 (adj c d) = 99 then (fun j => if j = X.2.1 then adj c d else X.1 j, X.2.1 + 1, fun x => if x = adj c d then X.2.2 c + 1 else X.2.2 x) else X
def bfD (adj : Nat → Nat → Nat) (c : Nat) : Nat → Nat → bX → bX
  | 0, _, X => X
  | k + 1, d, X => bfD adj c k (d + 1) (bfS adj c d X)
def bfL (adj : Nat → Nat → Nat) : Nat → Nat → bX → bX
  | 0, _, X => X
  | f + 1, i, X => if i < X.2.1 then bfL adj f (i + 1) (bfD adj (X.1 i) 4 0 X) else X
def bf0 (a : Nat) : bX := (fun _ => a, 1, fun x => if x = a then 0 else 99)
def bfR (adj : Nat → Nat → Nat) (a : Nat) : bX := bfL adj 65 0 (bf0 a)
/-- what holds on the way: i places are done, and d directions of the next -/
def bI1 (a : Nat) (X : bX) : Prop := 0 < X.2.1 ∧ X.1 0 = a ∧ X.2.2 a = 0 ∧ (∀ j, j < X.2.1 → X.1 j < 64 ∧ X.2.2 (X.1 j) ≤ j) ∧ (∀ j k, j < k → k < X.2.1 → ¬ X.1 j = X.1 k) ∧ (∀ c, X.2.2 c = 99 ∨ ∃ j, j < X.2.1 ∧ X.1 j = c) ∧ (∀ j k, j < k → k < X.2.1 → X.2.2 (X.1 j) ≤ X.2.2 (X.1 k))
def bI2 (adj : Nat → Nat → Nat) (a i d : Nat) (X : bX) : Prop := (∀ j, j < X.2.1 → X.1 j = a ∨ ∃ m e, m < X.2.1 ∧ e < 4 ∧ adj (X.1 m) e = X.1 j ∧ X.2.2 (X.1 j) = X.2.2 (X.1 m) + 1) ∧ (∀ j e, j < X.2.1 → e < 4 → (j < i ∨ (j = i ∧ e < d)) → adj (X.1 j) e < 64 → X.2.2 (adj (X.1 j) e) ≤ X.2.2 (X.1 j) + 1) ∧ (∀ j, j < X.2.1 → i < X.2.1 → X.2.2 (X.1 j) ≤ X.2.2 (X.1 i) + 1)
theorem bI1.n64 {a : Nat} {X : bX} (h : bI1 a X) : X.2.1 ≤ 64 := fb_holes 64 X.2.1 X.1 (fun i hi => (h.2.2.2.1 i hi).1) h.2.2.2.2.1
theorem bfS_ok {adj : Nat → Nat → Nat} {a i d : Nat} {X : bX} (h1 : bI1 a X) (h2 : bI2 adj a i d X) (hi : i < X.2.1) (hd : d < 4) : bI1 a (bfS adj (X.1 i) d X) ∧ bI2 adj a i (d + 1) (bfS adj (X.1 i) d X) ∧ X.2.1 ≤ (bfS adj (X.1 i) d X).2.1 ∧ (bfS adj (X.1 i) d X).1 i = X.1 i := by
  obtain ⟨q, n, s⟩ := X
  obtain ⟨a1, a2, a3, a4, a5, a6, a7⟩ := h1
  obtain ⟨b1, b2, b3⟩ := h2
  simp only at *
  have nn : n ≤ 64 := fb_holes 64 n q (fun i hi => (a4 i hi).1) a5
  unfold bfS
  simp only
  by_cases hc : adj (q i) d < 64 ∧ s (adj (q i) d) = 99
  · rw [if_pos hc]
    obtain ⟨e1, e2⟩ := hc
    generalize hx : adj (q i) d = x at e1 e2
    have ne : ∀ j, j < n → ¬ q j = x := fun j hj z => by
      have := (a4 j hj).2; rw [z, e2] at this; omega
    have sq : ∀ j, j < n → (if q j = x then s (q i) + 1 else s (q j)) = s (q j) := fun j hj => if_neg (ne j hj)
    have qn : ∀ j, j < n → (if j = n then x else q j) = q j := fun j hj => if_neg (by omega)
    have ii := (a4 i hi).2
    refine ⟨⟨by simp only; omega, ?_, ?_, ?_, ?_, ?_, ?_⟩, ⟨?_, ?_, ?_⟩, by simp only; omega, by simp only; exact qn i hi⟩
    · simp only; rw [qn 0 a1]; exact a2
    · simp only
      have := sq 0 a1
      rw [a2] at this; rw [this]; exact a3
    · intro j hj
      simp only at hj ⊢
      by_cases z : j = n
      · subst z; simp only [if_true]; exact ⟨e1, by omega⟩
      · rw [qn j (by omega), sq j (by omega)]; exact a4 j (by omega)
    · intro j k hjk hk
      simp only at hk ⊢
      rw [qn j (by omega)]
      by_cases z : k = n
      · rw [if_pos z]; exact ne j (by omega)
      · rw [qn k (by omega)]; exact a5 j k hjk (by omega)
    · intro c
      simp only
      by_cases z : c = x
      · exact Or.inr ⟨n, by omega, by rw [if_pos rfl]; exact z.symm⟩
      · rw [if_neg z]
        rcases a6 c with w | ⟨j, hj, w⟩
        · exact Or.inl w
        · exact Or.inr ⟨j, by omega, by rw [qn j hj]; exact w⟩
    · intro j k hjk hk
      simp only at hk ⊢
      rw [qn j (by omega), sq j (by omega)]
      by_cases z : k = n
      · rw [if_pos z, if_pos rfl]; exact b3 j (by omega) hi
      · rw [qn k (by omega), sq k (by omega)]; exact a7 j k hjk (by omega)
    · intro j hj
      simp only at hj ⊢
      by_cases z : j = n
      · refine Or.inr ⟨i, d, by omega, hd, ?_⟩
        rw [if_pos z, qn i hi, sq i hi, if_pos rfl]
        exact ⟨hx, rfl⟩
      · rw [qn j (by omega), sq j (by omega)]
        rcases b1 j (by omega) with w | ⟨m, e, w1, w2, w3, w4⟩
        · exact Or.inl w
        · refine Or.inr ⟨m, e, by omega, w2, ?_⟩
          rw [qn m w1, sq m w1]; exact ⟨w3, w4⟩
    · intro j e hj he hw hl
      simp only at hj hl ⊢
      by_cases z : j = n
      · rcases hw with w | ⟨w, _⟩ <;> omega
      · have hj : j < n := by omega
        rw [qn j hj] at hl ⊢
        rw [sq j hj]
        by_cases v : adj (q j) e = x
        · rw [if_pos v]
          rcases hw with w | ⟨w, _⟩
          · have := b2 j e hj he (Or.inl w) hl
            rw [v, e2] at this
            have := (a4 j hj).2
            omega
          · rw [w]; exact Nat.le_refl _
        · rw [if_neg v]
          rcases hw with w | ⟨w, w2⟩
          · exact b2 j e hj he (Or.inl w) hl
          · rcases Nat.eq_or_lt_of_le (Nat.le_of_lt_succ w2) with u | u
            · rw [w, u] at v; exact absurd hx v
            · exact b2 j e hj he (Or.inr ⟨w, u⟩) hl
    · intro j hj _
      simp only at hj ⊢
      rw [qn i hi, sq i hi]
      by_cases z : j = n
      · rw [if_pos z, if_pos rfl]; exact Nat.le_refl _
      · rw [qn j (by omega), sq j (by omega)]; exact b3 j (by omega) hi
  · rw [if_neg hc]
    refine ⟨⟨a1, a2, a3, a4, a5, a6, a7⟩, ⟨b1, ?_, b3⟩, Nat.le_refl _, rfl⟩
    intro j e hj he hw hl
    simp only at hj hl ⊢
    rcases hw with w | ⟨w, w2⟩
    · exact b2 j e hj he (Or.inl w) hl
    · rcases Nat.eq_or_lt_of_le (Nat.le_of_lt_succ w2) with u | u
      · subst w; subst u
        have : ¬ s (adj (q j) e) = 99 := fun z => hc ⟨hl, z⟩
        rcases a6 (adj (q j) e) with v | ⟨m, hm, v⟩
        · exact absurd v this
        · rw [← v]; exact b3 m hm hj
      · exact b2 j e hj he (Or.inr ⟨w, u⟩) hl
theorem bfD_ok {adj : Nat → Nat → Nat} {a i c : Nat} : ∀ (k d : Nat) (X : bX), bI1 a X → bI2 adj a i d X → i < X.2.1 → d + k = 4 → X.1 i = c → bI1 a (bfD adj c k d X) ∧ bI2 adj a i 4 (bfD adj c k d X) ∧ X.2.1 ≤ (bfD adj c k d X).2.1 := by
  intro k
  induction k with
  | zero =>
    intro d X h1 h2 hi hd _
    have : d = 4 := by omega
    subst this
    exact ⟨h1, h2, Nat.le_refl _⟩
  | succ k ih =>
    intro d X h1 h2 hi hd hq
    obtain ⟨s1, s2, s3, s4⟩ := bfS_ok h1 h2 hi (by omega)
    rw [hq] at s1 s2 s3 s4
    obtain ⟨t1, t2, t3⟩ := ih (d + 1) _ s1 s2 (Nat.lt_of_lt_of_le hi s3) (by omega) s4
    exact ⟨t1, t2, Nat.le_trans s3 t3⟩
theorem bI2.next {adj : Nat → Nat → Nat} {a i : Nat} {X : bX} (h1 : bI1 a X) (h : bI2 adj a i 4 X) : bI2 adj a (i + 1) 0 X := by
  obtain ⟨b1, b2, b3⟩ := h
  refine ⟨b1, fun j e hj he hw hl => b2 j e hj he (by omega) hl, fun j hj hi => ?_⟩
  have := b3 j hj (by omega)
  have := h1.2.2.2.2.2.2 i (i + 1) (by omega) hi
  omega
theorem bfL_ok {adj : Nat → Nat → Nat} {a : Nat} : ∀ (f i : Nat) (X : bX), bI1 a X → bI2 adj a i 0 X → 65 ≤ f + i → bI1 a (bfL adj f i X) ∧ ∃ m, (bfL adj f i X).2.1 ≤ m ∧ bI2 adj a m 0 (bfL adj f i X) := by
  intro f
  induction f with
  | zero =>
    intro i X h1 h2 hf
    have := h1.n64
    exact ⟨h1, i, by show X.2.1 ≤ i; omega, h2⟩
  | succ f ih =>
    intro i X h1 h2 hf
    unfold bfL
    by_cases hi : i < X.2.1
    · rw [if_pos hi]
      obtain ⟨t1, t2, t3⟩ := bfD_ok 4 0 X h1 h2 hi rfl rfl
      exact ih (i + 1) _ t1 (t2.next t1) (by omega)
    · rw [if_neg hi]
      exact ⟨h1, i, by omega, h2⟩
theorem bf0_ok {adj : Nat → Nat → Nat} {a : Nat} (ha : a < 64) : bI1 a (bf0 a) ∧ bI2 adj a 0 0 (bf0 a) := by
  unfold bf0
  refine ⟨⟨by simp, rfl, by simp, fun j hj => ?_, fun j k h hk => ?_, fun c => ?_, fun j k h hk => ?_⟩, fun j hj => Or.inl rfl, fun j e hj he hw => ?_, fun j hj h => ?_⟩
  · simp; exact ha
  · simp only at hk; omega
  · by_cases z : c = a
    · exact Or.inr ⟨0, by simp, z.symm⟩
    · exact Or.inl (by simp [z])
  · simp only at hk; omega
  · omega
  · simp only at *; omega
/-- an edge of adj -/
def EA (adj : Nat → Nat → Nat) (p c : Nat) : Prop := c < 64 ∧ ∃ d, d < 4 ∧ adj p d = c
theorem bfR_ok {adj : Nat → Nat → Nat} {a : Nat} (ha : a < 64) : bI1 a (bfR adj a) ∧ Cert (EA adj) a (bfR adj a).2.2 := by
  obtain ⟨z1, z2⟩ := bf0_ok (adj := adj) ha
  obtain ⟨h1, m, hm, h2⟩ := bfL_ok 65 0 (bf0 a) z1 z2 (by omega)
  refine ⟨h1, ?_⟩
  have h1' := h1
  obtain ⟨a1, a2, a3, a4, a5, a6, a7⟩ := h1
  obtain ⟨b1, b2, b3⟩ := h2
  have n64 := h1'.n64
  refine ⟨a3, fun c hc => ?_, fun p c hp hpc => ?_, fun c => ?_⟩
  · rcases a6 c with w | ⟨j, hj, w⟩
    · unfold bfR at hc; omega
    · rcases b1 j hj with v | ⟨k, e, k1, k2, k3, k4⟩
      · exact Or.inl (w.symm.trans v)
      · refine Or.inr ⟨_, ?_, ⟨?_, e, k2, k3.trans w⟩, ?_⟩
        · exact Nat.lt_of_le_of_lt (a4 k k1).2 (Nat.lt_of_lt_of_le k1 n64)
        · rw [← w]; exact (a4 j hj).1
        · rw [← w]; exact k4
  · obtain ⟨hc, d, hd, e⟩ := hpc
    rcases a6 p with w | ⟨j, hj, w⟩
    · unfold bfR at hp; omega
    · have := b2 j d hj hd (Or.inl (Nat.lt_of_lt_of_le hj hm)) (by rw [w, e]; exact hc)
      rw [w, e] at this
      exact this
  · rcases a6 c with w | ⟨j, hj, w⟩
    · exact Or.inr w
    · refine Or.inl ?_
      rw [← w]
      exact Nat.lt_of_le_of_lt (a4 j hj).2 (Nat.lt_of_lt_of_le hj n64)
theorem Cert.congr {A B : Nat → Nat → Prop} {a : Nat} {s : Nat → Nat} (h : ∀ p c, s p < 64 → (A p c ↔ B p c)) (q : Cert A a s) : Cert B a s := by
  obtain ⟨h0, h1, h2, h3⟩ := q
  refine ⟨h0, fun c hc => ?_, fun p c hp hpc => h2 p c hp ((h p c hp).mpr hpc), h3⟩
  rcases h1 c hc with w | ⟨p, w1, w2, w3⟩
  · exact Or.inl w
  · exact Or.inr ⟨p, w1, (h p c w1).mp w2, w3⟩
