/-! the search's slots -/
theorem and_2047 (x : Int32) : x &&& 2047 = nI (x.toBitVec.toNat % 2048) := by
  apply Int32.toBitVec_inj.mp
  apply BitVec.eq_of_toNat_eq
  rw [Int32.toBitVec_and, BitVec.toNat_and]
  have e1 : (2047 : Int32).toBitVec.toNat = 2 ^ 11 - 1 := rfl
  rw [e1, Nat.and_two_pow_sub_one_eq_mod]
  have e2 : ∀ k, (nI k).toBitVec.toNat = k % 2 ^ 32 := fun k => rfl
  rw [e2]
  omega
theorem slot_all (f : Int32) {s : Nat} (hs : s < 2048) : ∃ j, j < 2048 ∧ (f + nI j) &&& 2047 = nI s := by
  refine ⟨(s + (2048 - f.toBitVec.toNat % 2048)) % 2048, by omega, ?_⟩
  rw [and_2047, Int32.toBitVec_add, BitVec.toNat_add]
  have e2 : ∀ k, (nI k).toBitVec.toNat = k % 2 ^ 32 := fun k => rfl
  rw [e2]
  congr 1
  omega
theorem slot_lt (f : Int32) (j : Nat) : ∃ s, s < 2048 ∧ (f + nI j) &&& 2047 = nI s := ⟨_, Nat.mod_lt _ (by decide), and_2047 _⟩
/-- where looking for a place ends -/
def Sto (q : SeT) (b : Int64) (p x : Int32) : Prop := intAtF 2048 (sT q) x - 1 < 0 ∨ (longAtF 1000 (sB q) (intAtF 2048 (sT q) x - 1) = b ∧ intAtF 1000 (sP q) (intAtF 2048 (sT q) x - 1) = p)
theorem slL_spec (q : SeT) (b : Int64) (p f : Int32) : ∀ n k, (∃ j, k ≤ j ∧ j < k + n ∧ slL q b p f n k = (f + nI j) &&& 2047 ∧ Sto q b p ((f + nI j) &&& 2047) ∧ ∀ i, k ≤ i → i < j → ¬ Sto q b p ((f + nI i) &&& 2047)) ∨ ∀ i, k ≤ i → i < k + n → ¬ Sto q b p ((f + nI i) &&& 2047) := by
  intro n
  induction n with
  | zero => intro k; exact Or.inr fun i a c => by omega
  | succ n ih =>
    intro k
    by_cases h : Sto q b p ((f + nI k) &&& 2047)
    · refine Or.inl ⟨k, Nat.le_refl k, by omega, ?_, h, fun i a c => by omega⟩
      unfold slL
      rcases h with h | ⟨h1, h2⟩
      · rw [if_pos h]
      · by_cases z : intAtF 2048 (sT q) ((f + nI k) &&& 2047) - 1 < 0
        · rw [if_pos z]
        · rw [if_neg z, if_pos h1, if_pos h2]
    · have e : slL q b p f (n + 1) k = slL q b p f n (k + 1) := by
        show (if _ then _ else _) = _
        rw [if_neg (fun z => h (Or.inl z))]
        by_cases y : longAtF 1000 (sB q) (intAtF 2048 (sT q) ((f + nI k) &&& 2047) - 1) = b
        · rw [if_pos y, if_neg (fun z => h (Or.inr ⟨y, z⟩))]
        · rw [if_neg y]
      have prev : ∀ i, k ≤ i → i < k + 1 → ¬ Sto q b p ((f + nI i) &&& 2047) := fun i a c => by rw [show i = k by omega]; exact h
      rcases ih (k + 1) with ⟨j, a1, a2, a3, a4, a5⟩ | a
      · refine Or.inl ⟨j, by omega, by omega, e.trans a3, a4, fun i b1 b2 => ?_⟩
        by_cases z : i = k
        · rw [z]; exact h
        · exact a5 i (by omega) b2
      · refine Or.inr fun i b1 b2 => ?_
        by_cases z : i = k
        · rw [z]; exact h
        · exact a i (by omega) (by omega)
def hsh (b : Int64) (p : Int32) : Int32 := (jushr (b * (-7046029254386353131)) 53).toInt32 + p
theorem slF_spec {M : Nat} (hM : M = 2048) (q : SeT) (b : Int64) (p : Int32) {j : Nat} (hj : j < M) (h1 : Sto q b p ((hsh b p + nI j) &&& 2047)) (h2 : ∀ i, i < j → ¬ Sto q b p ((hsh b p + nI i) &&& 2047)) : slF q b p = (hsh b p + nI j) &&& 2047 := by
  unfold slF
  rw [← hM]
  rcases slL_spec q b p (hsh b p) M 0 with ⟨i, a1, a2, a3, a4, a5⟩ | a
  · rcases Nat.lt_trichotomy i j with z | z | z
    · exact absurd a4 (h2 i z)
    · rw [← z]; exact a3
    · exact absurd h1 (a5 j (Nat.zero_le _) z)
  · exact absurd h1 (a j (Nat.zero_le _) (by omega))
/-- the table of the nodes found -/
def HT (q : SeT) (n : Nat) : Prop := sN q = nI n ∧ n ≤ 1000 ∧ (∀ s, s < 2048 → sT q s = 0 ∨ ∃ i, i < n ∧ sT q s = nI (i + 1)) ∧ fb_ct (fun s => !decide (sT q s = 0)) 2048 = n ∧ ∀ i, i < n → ∃ j, j < 2048 ∧ intAtF 2048 (sT q) ((hsh (sB q i) (sP q i) + nI j) &&& 2047) = nI (i + 1) ∧ ∀ i', i' < j → ¬ Sto q (sB q i) (sP q i) ((hsh (sB q i) (sP q i) + nI i') &&& 2047)
theorem ent_m1 {i : Nat} (h : i < 2 ^ 20) : nI (i + 1) - 1 = nI i ∧ ¬ nI (i + 1) = (0 : Int32) := ⟨by rw [show nI (i + 1) - 1 = nI (i + 1 - 1) from pk_sub (b := 1) (by omega)]; rfl, nI_ne (b := 0) (by omega) (by decide) (by omega)⟩
theorem HT.hit {q : SeT} {n : Nat} (h : HT q n) {i : Nat} (hi : i < n) (par pu : Int32) : adS q (sB q i) (sP q i) par pu = q := by
  obtain ⟨_, h2, _, _, h5⟩ := h
  obtain ⟨j, j1, j2, j3⟩ := h5 i hi
  obtain ⟨m1, m2⟩ := ent_m1 (show i < 2 ^ 20 by omega)
  have st : Sto q (sB q i) (sP q i) ((hsh (sB q i) (sP q i) + nI j) &&& 2047) := by
    refine Or.inr ⟨?_, ?_⟩
    · rw [j2, m1, longAt_at (show i < 1000 by omega) (by decide)]
    · rw [j2, m1, intAt_at (show i < 1000 by omega) (by decide)]
  have := slF_spec (M := 2048) rfl q (sB q i) (sP q i) j1 st j3
  unfold adS
  rw [this, j2, if_neg m2]
theorem ct_full {p : Nat → Bool} : ∀ n, (∀ s, s < n → p s = true) → fb_ct p n = n := by
  intro n
  induction n with
  | zero => intro _; rfl
  | succ n ih =>
    intro h
    rw [fb_ct_succ, ih (fun s hs => h s (by omega)), h n (by omega), if_pos rfl]
theorem HT.empty {q : SeT} {n : Nat} (h : HT q n) {M : Nat} (hM : M = 2048) : ∃ s, s < M ∧ sT q s = 0 := by
  obtain ⟨_, h2, _, h4, _⟩ := h
  rw [← hM] at h4
  refine Classical.byContradiction fun z => ?_
  have := ct_full (p := fun s => !decide (sT q s = 0)) M (fun s hs => by
    have : ¬ sT q s = 0 := fun y => z ⟨s, hs, y⟩
    show (!decide (sT q s = 0)) = true
    rw [decide_eq_false this]; rfl)
  omega
theorem least {P : Nat → Prop} : ∀ n, P n → ∃ j, j ≤ n ∧ P j ∧ ∀ i, i < j → ¬ P i := by
  intro n
  induction n using Nat.strongRecOn with
  | ind n ih =>
    intro h
    by_cases z : ∃ i, i < n ∧ P i
    · obtain ⟨i, a, b⟩ := z
      obtain ⟨j, c, d, e⟩ := ih i a b
      exact ⟨j, by omega, d, e⟩
    · exact ⟨n, Nat.le_refl n, h, fun i a b => z ⟨i, a, b⟩⟩
/-- a node that is not there yet finds an empty place -/
theorem HT.miss {q : SeT} {n : Nat} (h : HT q n) {b : Int64} {p : Int32} (hb : ∀ i, i < n → ¬ (sB q i = b ∧ sP q i = p)) : ∃ j s, j < 2048 ∧ s < 2048 ∧ (hsh b p + nI j) &&& 2047 = nI s ∧ slF q b p = nI s ∧ sT q s = 0 ∧ ∀ i, i < j → ¬ Sto q b p ((hsh b p + nI i) &&& 2047) := by
  have h' := h
  obtain ⟨h1, h2, h3, h4, h5⟩ := h'
  obtain ⟨s0, s1, s2⟩ := h.empty (M := 2048) rfl
  obtain ⟨j0, j1, j2⟩ := slot_all (hsh b p) s1
  have st0 : Sto q b p ((hsh b p + nI j0) &&& 2047) := Or.inl (by rw [j2, intAt_at s1 (by decide), s2]; decide)
  obtain ⟨j, a1, a2, a3⟩ := least (P := fun j => Sto q b p ((hsh b p + nI j) &&& 2047)) j0 st0
  obtain ⟨s, t1, t2⟩ := slot_lt (hsh b p) j
  have hs := slF_spec (M := 2048) rfl q b p (show j < 2048 by omega) a2 a3
  refine ⟨j, s, by omega, t1, t2, hs.trans t2, ?_, a3⟩
  rcases h3 s t1 with z | ⟨i, i1, i2⟩
  · exact z
  · exfalso
    have a2 : Sto q b p ((hsh b p + nI j) &&& 2047) := a2
    unfold Sto at a2
    rw [t2, intAt_at t1 (by decide), i2, (ent_m1 (show i < 2 ^ 20 by omega)).1, longAt_at (show i < 1000 by omega) (by decide), intAt_at (show i < 1000 by omega) (by decide)] at a2
    rcases a2 with y | y
    · exact nI_pos (by omega) y
    · exact hb i i1 y
