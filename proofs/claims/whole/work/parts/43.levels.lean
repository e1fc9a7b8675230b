/-! what is reached in at most k steps -/
def Lv (A : Nat → Nat → Prop) (S : Nat → Prop) : Nat → Nat → Prop
  | 0, c => S c
  | k + 1, c => Lv A S k c ∨ ∃ p, Lv A S k p ∧ A p c
theorem Lv.up {A : Nat → Nat → Prop} {S : Nat → Prop} {k m c : Nat} (h : k ≤ m) (q : Lv A S k c) : Lv A S m c := by
  induction m with
  | zero => have : k = 0 := by omega
            subst this; exact q
  | succ m ih =>
    rcases Nat.eq_or_lt_of_le h with e | e
    · subst e; exact q
    · exact Or.inl (ih (by omega))
theorem Lv.mono {A : Nat → Nat → Prop} {S T : Nat → Prop} (h : ∀ c, S c → T c) : ∀ {k c : Nat}, Lv A S k c → Lv A T k c := by
  intro k
  induction k with
  | zero => intro c q; exact h c q
  | succ k ih =>
    intro c q
    rcases q with q | ⟨p, q, a⟩
    · exact Or.inl (ih q)
    · exact Or.inr ⟨p, ih q, a⟩
theorem Lv.congr {A B : Nat → Nat → Prop} {S T : Nat → Prop} (h : ∀ c, S c ↔ T c) (hA : ∀ p c, A p c ↔ B p c) : ∀ {k c : Nat}, Lv A S k c ↔ Lv B T k c := by
  intro k
  induction k with
  | zero => intro c; exact h c
  | succ k ih =>
    intro c
    unfold Lv
    constructor
    · rintro (q | ⟨p, q, a⟩)
      · exact Or.inl (ih.mp q)
      · exact Or.inr ⟨p, ih.mp q, (hA p c).mp a⟩
    · rintro (q | ⟨p, q, a⟩)
      · exact Or.inl (ih.mpr q)
      · exact Or.inr ⟨p, ih.mpr q, (hA p c).mpr a⟩
theorem Lv.add {A : Nat → Nat → Prop} {S : Nat → Prop} {j : Nat} : ∀ {k c : Nat}, Lv A (Lv A S j) k c ↔ Lv A S (j + k) c := by
  intro k
  induction k with
  | zero => intro c; exact Iff.rfl
  | succ k ih =>
    intro c
    show (_ ∨ _) ↔ (_ ∨ _)
    constructor
    · rintro (q | ⟨p, q, a⟩)
      · exact Or.inl (ih.mp q)
      · exact Or.inr ⟨p, ih.mp q, a⟩
    · rintro (q | ⟨p, q, a⟩)
      · exact Or.inl (ih.mpr q)
      · exact Or.inr ⟨p, ih.mpr q, a⟩
theorem Lv.stable {A : Nat → Nat → Prop} {S : Nat → Prop} (h : ∀ c, Lv A S 1 c → S c) : ∀ {k c : Nat}, Lv A S k c ↔ S c := by
  intro k
  induction k with
  | zero => intro c; exact Iff.rfl
  | succ k ih =>
    intro c
    constructor
    · rintro (q | ⟨p, q, a⟩)
      · exact ih.mp q
      · exact h c (Or.inr ⟨p, ih.mp q, a⟩)
    · intro q; exact Or.inl (ih.mpr q)
/-- counted steps from a: 99 where nothing leads -/
def Cert (A : Nat → Nat → Prop) (a : Nat) (s : Nat → Nat) : Prop := s a = 0 ∧ (∀ c, s c < 64 → c = a ∨ ∃ p, s p < 64 ∧ A p c ∧ s c = s p + 1) ∧ (∀ p c, s p < 64 → A p c → s c ≤ s p + 1) ∧ ∀ c, s c < 64 ∨ s c = 99
theorem Cert.lv {A : Nat → Nat → Prop} {a : Nat} {s : Nat → Nat} (h : Cert A a s) : ∀ {k : Nat}, k ≤ 64 → ∀ {c : Nat}, Lv A (fun x => x = a) k c ↔ s c ≤ k := by
  obtain ⟨h0, h1, h2, h3⟩ := h
  intro k
  induction k with
  | zero =>
    intro _ c
    constructor
    · intro q; rw [show c = a from q]; omega
    · intro q
      rcases h1 c (by omega) with e | ⟨p, _, _, e⟩
      · exact e
      · omega
  | succ k ih =>
    intro hk c
    have ih := fun {c : Nat} => ih (by omega) (c := c)
    constructor
    · rintro (q | ⟨p, q, a⟩)
      · have := ih.mp q; omega
      · have q1 := ih.mp q
        have := h2 p c (by omega) a
        omega
    · intro q
      rcases Nat.lt_or_ge k (s c) with e | e
      · have e2 : s c = k + 1 := by omega
        have e3 : s c < 64 := by rcases h3 c with z | z <;> omega
        rcases h1 c e3 with z | ⟨p, p1, p2, p3⟩
        · subst z; omega
        · exact Or.inr ⟨p, ih.mpr (by omega), p2⟩
      · exact Or.inl (ih.mpr e)
theorem Cert.one {A : Nat → Nat → Prop} {a : Nat} {s t : Nat → Nat} (h : Cert A a s) (h2 : Cert A a t) (c : Nat) : s c = t c := by
  have e : ∀ k, k ≤ 64 → (s c ≤ k ↔ t c ≤ k) := fun k hk => (h.lv hk).symm.trans (h2.lv hk)
  rcases h.2.2.2 c with a1 | a1 <;> rcases h2.2.2.2 c with a2 | a2
  · have := (e (s c) (by omega)).mp (Nat.le_refl _)
    have := (e (t c) (by omega)).mpr (Nat.le_refl _)
    omega
  · have := (e (s c) (by omega)).mp (Nat.le_refl _); omega
  · have := (e (t c) (by omega)).mpr (Nat.le_refl _); omega
  · omega
/-- exact numbers of steps -/
def Wk (A : Nat → Nat → Prop) : Nat → Nat → Nat → Prop
  | 0, a, c => a = c
  | k + 1, a, c => ∃ p, Wk A k a p ∧ A p c
theorem Lv.wk {A : Nat → Nat → Prop} {a : Nat} : ∀ {k c : Nat}, Lv A (fun x => x = a) k c ↔ ∃ j, j ≤ k ∧ Wk A j a c := by
  intro k
  induction k with
  | zero =>
    intro c
    constructor
    · intro q; exact ⟨0, Nat.le_refl 0, Eq.symm q⟩
    · rintro ⟨j, hj, q⟩
      have : j = 0 := by omega
      subst this; exact Eq.symm q
  | succ k ih =>
    intro c
    constructor
    · rintro (q | ⟨p, q, b⟩)
      · obtain ⟨j, hj, w⟩ := ih.mp q; exact ⟨j, by omega, w⟩
      · obtain ⟨j, hj, w⟩ := ih.mp q; exact ⟨j + 1, by omega, p, w, b⟩
    · rintro ⟨j, hj, q⟩
      rcases Nat.lt_or_ge k j with e | e
      · have : j = k + 1 := by omega
        subst this
        obtain ⟨p, w, b⟩ := q
        exact Or.inr ⟨p, ih.mpr ⟨k, Nat.le_refl k, w⟩, b⟩
      · exact Or.inl (ih.mpr ⟨j, e, q⟩)
theorem Wk.front {A : Nat → Nat → Prop} : ∀ {k a c : Nat}, Wk A (k + 1) a c ↔ ∃ p, A a p ∧ Wk A k p c := by
  intro k
  induction k with
  | zero =>
    intro a c
    constructor
    · rintro ⟨p, q, b⟩
      cases (show a = p from q)
      exact ⟨c, b, rfl⟩
    · rintro ⟨p, b, q⟩
      cases (show p = c from q)
      exact ⟨a, rfl, b⟩
  | succ k ih =>
    intro a c
    constructor
    · rintro ⟨p, q, b⟩
      obtain ⟨r, b2, q2⟩ := ih.mp q
      exact ⟨r, b2, p, q2, b⟩
    · rintro ⟨r, b2, p, q2, b⟩
      exact ⟨p, ih.mpr ⟨r, b2, q2⟩, b⟩
theorem Wk.rev {A B : Nat → Nat → Prop} {P : Nat → Prop} (h : ∀ p c, A p c → P p ∧ P c) (h2 : ∀ p c, P p → P c → (A p c ↔ B c p)) : ∀ {k a c : Nat}, P a → P c → Wk A k a c → Wk B k c a := by
  intro k
  induction k with
  | zero => intro a c _ _ q; exact Eq.symm q
  | succ k ih =>
    rintro a c ha hc ⟨p, q, b⟩
    exact Wk.front.mpr ⟨p, (h2 p c (h p c b).1 hc).mp b, ih ha (h p c b).1 q⟩
/-! the class's sets of cells -/
theorem bool_iff {a b : Bool} (h : a = true ↔ b = true) : a = b := by cases a <;> cases b <;> simp_all
theorem and_t {a b : Bool} : (a && b) = true ↔ a = true ∧ b = true := by simp
theorem or_t {a b : Bool} : (a || b) = true ↔ a = true ∨ b = true := by simp
theorem bs_tb {g : gT} {R C : Nat} (h : GOk g R C) {s : Int64} (hs : Sub R C s) (c : Nat) : tb (gBs g s) c = true ↔ tb (gO g) c = true ∧ ∃ d, d < 4 ∧ tb s (nb R C c d) = true := by
  unfold gBs
  rw [tb_or, tb_or, tb_or, show (0 : Int32) = nI 0 from rfl, show (1 : Int32) = nI 1 from rfl, show (2 : Int32) = nI 2 from rfl, show (3 : Int32) = nI 3 from rfl]
  rw [mv_tb h hs (by decide), mv_tb h hs (by decide), mv_tb h hs (by decide), mv_tb h hs (by decide)]
  show ((((tb (gO g) c && tb s (nb R C c 2)) || (tb (gO g) c && tb s (nb R C c 3))) || (tb (gO g) c && tb s (nb R C c 0))) || (tb (gO g) c && tb s (nb R C c 1))) = true ↔ _
  simp only [and_t, or_t]
  constructor
  · rintro (((⟨a, b⟩ | ⟨a, b⟩) | ⟨a, b⟩) | ⟨a, b⟩)
    · exact ⟨a, 2, by decide, b⟩
    · exact ⟨a, 3, by decide, b⟩
    · exact ⟨a, 0, by decide, b⟩
    · exact ⟨a, 1, by decide, b⟩
  · rintro ⟨a, d, hd, b⟩
    match d, hd with
    | 0, _ => exact Or.inl (Or.inr ⟨a, b⟩)
    | 1, _ => exact Or.inr ⟨a, b⟩
    | 2, _ => exact Or.inl (Or.inl (Or.inl ⟨a, b⟩))
    | 3, _ => exact Or.inl (Or.inl (Or.inr ⟨a, b⟩))
    | d + 4, hd => omega
theorem bs_sub {g : gT} {R C : Nat} (h : GOk g R C) (s : Int64) : Sub R C (gBs g s) := by
  unfold gBs
  exact (((mv_sub h s _).or (mv_sub h s _)).or (mv_sub h s _)).or (mv_sub h s _)
/-- a step over the cells of a set -/
def AS (g : gT) (R C : Nat) (over : Int64) (p c : Nat) : Prop := tb over c = true ∧ tb (gO g) c = true ∧ ∃ d, d < 4 ∧ nb R C c d = p
theorem bs_as {g : gT} {R C : Nat} (h : GOk g R C) {s : Int64} (hs : Sub R C s) (over : Int64) (c : Nat) : tb (gBs g s &&& over) c = true ↔ ∃ p, tb s p = true ∧ AS g R C over p c := by
  rw [tb_and, and_t, bs_tb h hs]
  constructor
  · rintro ⟨⟨a, d, hd, b⟩, e⟩
    exact ⟨_, b, e, a, d, hd, rfl⟩
  · rintro ⟨p, b, e, a, d, hd, rfl⟩
    exact ⟨⟨a, d, hd, b⟩, e⟩
theorem spL_lv {g : gT} {R C : Nat} (h : GOk g R C) (over : Int64) : ∀ (n : Nat) (r : Int64), Sub R C r → ∀ c, tb (gSpL g over n r) c = true ↔ Lv (AS g R C over) (fun x => tb r x = true) n c := by
  intro n
  induction n with
  | zero => intro r _ c; exact Iff.rfl
  | succ n ih =>
    intro r hr c
    have hr' : Sub R C (r ||| (gBs g r &&& over)) := hr.or ((bs_sub h r).and1 over)
    have e1 : ∀ c, tb (r ||| (gBs g r &&& over)) c = true ↔ Lv (AS g R C over) (fun x => tb r x = true) 1 c := by
      intro c
      rw [tb_or, or_t, bs_as h hr over c]
      exact Iff.rfl
    unfold gSpL
    split
    · rename_i q
      exact (Lv.stable (fun c z => by
        have z2 := (e1 c).mpr z
        rw [q] at z2; exact z2)).symm
    · rw [ih _ hr' c, Lv.congr e1 (fun _ _ => Iff.rfl), Lv.add, Nat.add_comm]
theorem sp_lv {g : gT} {R C : Nat} (h : GOk g R C) {start : Int64} (hs : Sub R C start) (over : Int64) (c : Nat) : tb (gSp g start over) c = true ↔ Lv (AS g R C over) (fun x => tb start x = true ∧ tb over x = true) 64 c := by
  unfold gSp
  rw [spL_lv h over 64 _ (hs.and1 over) c]
  exact Lv.congr (fun c => by rw [tb_and, and_t]) (fun _ _ => Iff.rfl)
theorem bit_eq {R C k : Nat} (h : RC R C) (hk : k < R * C) (x : Nat) : tb (jshl 1 (nI k)) x = true ↔ x = k := by
  have hk := Nat.lt_of_lt_of_le hk h.le
  by_cases q : x < 64
  · rw [tb_bit hk q]; simp
  · rw [tb_big (by omega)]
    constructor
    · intro z; cases z
    · intro z; omega
/-- from one cell of the set -/
theorem sp_cert {g : gT} {R C : Nat} (h : GOk g R C) {over : Int64} {a : Nat} (ha : a < R * C) (ho : tb over a = true) {s : Nat → Nat} (hc : Cert (AS g R C over) a s) (c : Nat) : tb (gSp g (jshl 1 (nI a)) over) c = decide (s c < 64) := by
  apply bool_iff
  rw [sp_lv h (Sub.bit h.rc ha) over c, decide_eq_true_iff]
  rw [Lv.congr (B := AS g R C over) (T := fun x => x = a) (fun x => by
    rw [bit_eq h.rc ha]
    constructor
    · intro z; exact z.1
    · intro z; exact ⟨z, by rw [z]; exact ho⟩) (fun _ _ => Iff.rfl), hc.lv (Nat.le_refl 64)]
  rcases hc.2.2.2 c with z | z <;> omega
