/-! distances, dead cells, frozen boxes of the class -/
theorem tb_anz {a t : Int64} : ¬ (a &&& t) = 0 ↔ ∃ c, tb a c = true ∧ tb t c = true := by
  rw [tb_ne0]
  constructor
  · rintro ⟨c, hc, h⟩
    rw [tb_and, and_t] at h; exact ⟨c, h⟩
  · rintro ⟨c, h1, h2⟩
    exact ⟨c, tb_lt h1, by rw [tb_and, h1, h2]; rfl⟩
theorem tb_az {a t : Int64} : (a &&& t) = 0 ↔ ∀ c, tb a c = true → tb t c = false := by
  constructor
  · intro h c h1
    cases e : tb t c with
    | false => rfl
    | true => exact absurd h (tb_anz.mpr ⟨c, h1, e⟩)
  · intro h
    refine Classical.byContradiction fun q => ?_
    obtain ⟨c, h1, h2⟩ := tb_anz.mp q
    rw [h c h1] at h2; cases h2
theorem leL_hit {g : gT} {s t : Int64} {m : Nat} : ∀ (n k : Nat), k ≤ m → m < k + n → ¬ (ly (gLp g) s m).1 &&& t = 0 → (∀ j, k ≤ j → j < m → (ly (gLp g) s j).1 &&& t = 0 ∧ ¬ (ly (gLp g) s j).1 = 0) → gLeL g t n k (ly (gLp g) s k).1 (ly (gLp g) s k).2 = nI m := by
  intro n
  induction n with
  | zero => intro k h1 h2; omega
  | succ n ih =>
    intro k h1 h2 h3 h4
    unfold gLeL
    rcases Nat.eq_or_lt_of_le h1 with e | e
    · subst e
      have : ¬ (ly (gLp g) s k).1 = 0 := fun z => h3 (by rw [z]; exact tb_az.mpr fun c hc => by rw [tb_0] at hc; cases hc)
      rw [if_neg this, if_neg h3]
    · obtain ⟨a, b⟩ := h4 k (Nat.le_refl _) e
      rw [if_neg b, if_pos a]
      exact ih (k + 1) e (by omega) h3 fun j h5 h6 => h4 j (by omega) h6
theorem leL_none {g : gT} {s t : Int64} : ∀ (n k : Nat), (∀ j, k ≤ j → j < k + n → (ly (gLp g) s j).1 &&& t = 0) → gLeL g t n k (ly (gLp g) s k).1 (ly (gLp g) s k).2 = -1 := by
  intro n
  induction n with
  | zero => intro k _; rfl
  | succ n ih =>
    intro k h
    unfold gLeL
    by_cases a : (ly (gLp g) s k).1 = 0
    · rw [if_pos a]
    · rw [if_neg a, if_pos (h k (Nat.le_refl _) (by omega))]
      exact ih (k + 1) fun j h1 h2 => h j (by omega) (by omega)
theorem lp_hN {g : gT} {R C : Nat} (h : GOk g R C) : ∀ a, Sub R C a → (∀ c, tb (gLp g a) c = true ↔ ∃ p, tb a p = true ∧ APush g R C p c) := fun a _ c => lp_tb h a c
theorem le_hit {g : gT} {R C a m : Nat} (h : GOk g R C) (ha : a < R * C) {s : Nat → Nat} (hc : Cert (APush g R C) a s) {t : Int64} (hm : m < 64) (h1 : ∃ c, tb t c = true ∧ s c = m) (h2 : ∀ c, tb t c = true → m ≤ s c) : gLe g (jshl 1 (nI a)) t = nI m := by
  have crt := fun {k : Nat} (hk : k < 64) c => ly_cert h.rc (lp_hN h) (lp_sub h) ha hc hk c
  obtain ⟨c, hc1, hc2⟩ := h1
  have hz : ¬ (ly (gLp g) (jshl 1 (nI a)) m).1 &&& t = 0 := tb_anz.mpr ⟨c, by rw [crt hm c]; simp [hc2], hc1⟩
  refine leL_hit (s := jshl 1 (nI a)) 64 0 (by omega) (by omega) hz fun j _ hj => ⟨tb_az.mpr fun x hx => ?_, fun q => ?_⟩
  · rw [crt (by omega) x] at hx
    have hx := of_decide_eq_true hx
    cases e : tb t x with
    | false => rfl
    | true => have := h2 x e; omega
  · have := ly_nil h.rc (lp_hN h) (lp_sub h) (Sub.bit h.rc ha) q m (by omega)
    rw [this] at hz
    exact hz (tb_az.mpr fun c hc => by rw [tb_0] at hc; cases hc)
theorem le_none {g : gT} {R C a : Nat} (h : GOk g R C) (ha : a < R * C) {s : Nat → Nat} (hc : Cert (APush g R C) a s) {t : Int64} (h2 : ∀ c, tb t c = true → 64 ≤ s c) : gLe g (jshl 1 (nI a)) t = -1 := by
  refine leL_none (s := jshl 1 (nI a)) 64 0 fun j _ hj => tb_az.mpr fun x hx => ?_
  rw [ly_cert h.rc (lp_hN h) (lp_sub h) ha hc (by omega) x] at hx
  have hx := of_decide_eq_true hx
  cases e : tb t x with
  | false => rfl
  | true => have := h2 x e; omega
/-! dead cells -/
theorem od_t : ∀ k, k < 4 → (nI k + 2) &&& 3 = nI (opd k) := by decide +kernel
theorem plS_tb {g : gT} {R C : Nat} (h : GOk g R C) {q : Int64} (hq : Sub R C q) (c : Nat) : tb (gPlS g q) c = true ↔ tb q c = true ∨ ∃ p, tb q p = true ∧ APull g R C p c := by
  have e : gPlS g q = q ||| (gMv g q (nI (opd 0)) &&& gMv g (gO g) (nI 0)) ||| (gMv g q (nI (opd 1)) &&& gMv g (gO g) (nI 1)) ||| (gMv g q (nI (opd 2)) &&& gMv g (gO g) (nI 2)) ||| (gMv g q (nI (opd 3)) &&& gMv g (gO g) (nI 3)) := by
    unfold gPlS
    simp only [gPlI]
    rw [od_t 0 (by decide), od_t 1 (by decide), od_t 2 (by decide), od_t 3 (by decide)]
  have one : ∀ d, d < 4 → (tb (gMv g q (nI (opd d)) &&& gMv g (gO g) (nI d)) c = true ↔ tb q (nb R C c d) = true ∧ tb (gO g) c = true ∧ tb (gO g) (nb R C c (opd d)) = true) := by
    intro d hd
    rw [tb_and, and_t, mv_tb h hq (opd_lt d), mv_tb h h.sub_open hd, and_t, and_t, opd_opd hd]
    constructor
    · rintro ⟨⟨a, b⟩, _, e⟩; exact ⟨b, a, e⟩
    · rintro ⟨b, a, e⟩; exact ⟨⟨a, b⟩, a, e⟩
  have o0 := one 0 (by decide); have o1 := one 1 (by decide); have o2 := one 2 (by decide); have o3 := one 3 (by decide)
  rw [e, tb_or, tb_or, tb_or, tb_or]
  simp only [or_t]
  constructor
  · rintro ((((a | a) | a) | a) | a)
    · exact Or.inl a
    · obtain ⟨x, y, z⟩ := o0.mp a; exact Or.inr ⟨_, x, 0, by decide, rfl, y, z⟩
    · obtain ⟨x, y, z⟩ := o1.mp a; exact Or.inr ⟨_, x, 1, by decide, rfl, y, z⟩
    · obtain ⟨x, y, z⟩ := o2.mp a; exact Or.inr ⟨_, x, 2, by decide, rfl, y, z⟩
    · obtain ⟨x, y, z⟩ := o3.mp a; exact Or.inr ⟨_, x, 3, by decide, rfl, y, z⟩
  · rintro (a | ⟨p, x, d, hd, rfl, y, z⟩)
    · exact Or.inl (Or.inl (Or.inl (Or.inl a)))
    · match d, hd with
      | 0, _ => exact Or.inl (Or.inl (Or.inl (Or.inr (o0.mpr ⟨x, y, z⟩))))
      | 1, _ => exact Or.inl (Or.inl (Or.inr (o1.mpr ⟨x, y, z⟩)))
      | 2, _ => exact Or.inl (Or.inr (o2.mpr ⟨x, y, z⟩))
      | 3, _ => exact Or.inr (o3.mpr ⟨x, y, z⟩)
      | d + 4, hd => omega
theorem plS_sub {g : gT} {R C : Nat} (h : GOk g R C) {q : Int64} (hq : Sub R C q) : Sub R C (gPlS g q) := fun c hc => by
  rcases (plS_tb h hq c).mp hc with a | ⟨p, _, d, _, _, a, _⟩
  · exact hq c a
  · exact h.open_lt a
theorem plL_lv {g : gT} {R C : Nat} (h : GOk g R C) : ∀ (n : Nat) (r : Int64), Sub R C r → ∀ c, tb (gPlL g n r) c = true ↔ Lv (APull g R C) (fun x => tb r x = true) n c := by
  intro n
  induction n with
  | zero => intro r _ c; exact Iff.rfl
  | succ n ih =>
    intro r hr c
    have e1 : ∀ c, tb (gPlS g r) c = true ↔ Lv (APull g R C) (fun x => tb r x = true) 1 c := fun c => plS_tb h hr c
    unfold gPlL
    split
    · rename_i q
      exact (Lv.stable (fun c z => by
        have z2 := (e1 c).mpr z
        rw [q] at z2; exact z2)).symm
    · rw [ih _ (plS_sub h hr) c, Lv.congr e1 (fun _ _ => Iff.rfl), Lv.add, Nat.add_comm]
theorem Lv.any {A : Nat → Nat → Prop} {S : Nat → Prop} : ∀ {k c : Nat}, Lv A S k c ↔ ∃ e, S e ∧ Lv A (fun x => x = e) k c := by
  intro k
  induction k with
  | zero =>
    intro c
    constructor
    · intro q; exact ⟨c, q, rfl⟩
    · rintro ⟨e, q, z⟩; rw [show c = e from z]; exact q
  | succ k ih =>
    intro c
    constructor
    · rintro (q | ⟨p, q, a⟩)
      · obtain ⟨e, a, b⟩ := ih.mp q; exact ⟨e, a, Or.inl b⟩
      · obtain ⟨e, b, z⟩ := ih.mp q; exact ⟨e, b, Or.inr ⟨p, z, a⟩⟩
    · rintro ⟨e, a, (b | ⟨p, b, z⟩)⟩
      · exact Or.inl (ih.mpr ⟨e, a, b⟩)
      · exact Or.inr ⟨p, ih.mpr ⟨e, a, b⟩, z⟩
/-- dead: from no goal can it be pulled -/
theorem dead_tb {g : gT} {R C : Nat} (h : GOk g R C) {S : Nat → Nat → Nat} (hS : ∀ e, tb (gG g) e = true → Cert (APull g R C) e (S e)) (c : Nat) : tb (gD g) c = true ↔ tb (gO g) c = true ∧ ∀ e, tb (gG g) e = true → 64 ≤ S e c := by
  rw [h.2.2.2.2.2.2.2, tb_and, and_t]
  constructor
  · rintro ⟨a, b⟩
    refine ⟨a, fun e he => ?_⟩
    rcases Nat.lt_or_ge (S e c) 64 with q | q
    · exfalso
      rw [tb_not _ (tb_lt a)] at b
      have : tb (gPl g (gG g)) c = true := (plL_lv h 64 _ h.sub_goal c).mpr (Lv.any.mpr ⟨e, he, ((hS e he).lv (Nat.le_refl 64)).mpr (by omega)⟩)
      rw [this] at b; cases b
    · exact q
  · rintro ⟨a, b⟩
    refine ⟨a, ?_⟩
    rw [tb_not _ (tb_lt a)]
    cases z : tb (gPl g (gG g)) c with
    | false => rfl
    | true =>
      obtain ⟨e, he, q⟩ := Lv.any.mp ((plL_lv h 64 _ h.sub_goal c).mp z)
      have := ((hS e he).lv (Nat.le_refl 64)).mp q
      have := b e he
      rcases (hS e he).2.2.2 c with w | w <;> omega
/-! frozen boxes -/
def fre (g : gT) (q : Nat → Bool) (x : Nat) : Bool := tb (gO g) x && !q x
def blk (g : gT) (R C : Nat) (q : Nat → Bool) (c d : Nat) : Bool := !(fre g q (nb R C c d) && fre g q (nb R C c (opd d))) || (tb (gD g) (nb R C c d) && tb (gD g) (nb R C c (opd d)))
/-- each of the set is blocked in both lines -/
def SB (g : gT) (R C : Nat) (X : Nat → Bool) : Prop := ∀ c, X c = true → blk g R C X c 0 = true ∧ blk g R C X c 1 = true
theorem blk_mono {g : gT} {R C : Nat} {X Y : Nat → Bool} (h : ∀ c, X c = true → Y c = true) {c d : Nat} (q : blk g R C X c d = true) : blk g R C Y c d = true := by
  have f : ∀ x, fre g Y x = true → fre g X x = true := fun x hx => by
    unfold fre at hx ⊢
    rw [and_t] at hx ⊢
    refine ⟨hx.1, ?_⟩
    cases ex : X x with
    | false => rfl
    | true => have := hx.2; rw [h x ex] at this; exact this
  unfold blk at q ⊢
  have f1 := f (nb R C c d)
  have f2 := f (nb R C c (opd d))
  cases e1 : fre g Y (nb R C c d) <;> cases e2 : fre g Y (nb R C c (opd d)) <;> simp_all
theorem fe_tb (g : gT) (q : Int64) (x : Nat) : tb (gFe g q) x = fre g (tb q) x := by
  unfold gFe fre
  rw [tb_and]
  by_cases h : x < 64
  · rw [tb_not _ h]
  · rw [tb_big (s := gO g) (by omega)]; rfl
theorem dd_sub {g : gT} {R C : Nat} (h : GOk g R C) : Sub R C (gD g) := by
  rw [h.2.2.2.2.2.2.2]; exact h.sub_open.and1 _
theorem fzS_tb {g : gT} {R C : Nat} (h : GOk g R C) {q : Int64} (hq : ∀ c, tb q c = true → tb (gO g) c = true) (c : Nat) : tb (gFzS g q) c = true ↔ tb q c = true ∧ blk g R C (tb q) c 0 = true ∧ blk g R C (tb q) c 1 = true := by
  have hf : Sub R C (gFe g q) := h.sub_open.and1 _
  have key : ∀ c, tb (gO g) c = true → (tb (gBr g q) c = blk g R C (tb q) c 1) ∧ (tb (gBc g q) c = blk g R C (tb q) c 0) := by
    intro c ho
    have hc : c < 64 := tb_lt ho
    have e : ∀ d, d < 4 → tb (gMv g (gFe g q) (nI d)) c = fre g (tb q) (nb R C c (opd d)) := fun d hd => by
      rw [mv_tb h hf hd, ho, Bool.true_and, fe_tb]
    have e2 : ∀ d, d < 4 → tb (gMv g (gD g) (nI d)) c = tb (gD g) (nb R C c (opd d)) := fun d hd => by
      rw [mv_tb h (dd_sub h) hd, ho, Bool.true_and]
    unfold gBr gBc gDr gDc
    rw [tb_or, tb_or, tb_not _ hc, tb_not _ hc, tb_and, tb_and, tb_and, tb_and, show (0 : Int32) = nI 0 from rfl, show (1 : Int32) = nI 1 from rfl, show (2 : Int32) = nI 2 from rfl, show (3 : Int32) = nI 3 from rfl]
    rw [e 0 (by decide), e 1 (by decide), e 2 (by decide), e 3 (by decide), e2 0 (by decide), e2 1 (by decide), e2 2 (by decide), e2 3 (by decide)]
    unfold blk
    show _ = (!(fre g (tb q) (nb R C c 1) && fre g (tb q) (nb R C c 3)) || (tb (gD g) (nb R C c 1) && tb (gD g) (nb R C c 3))) ∧ _ = (!(fre g (tb q) (nb R C c 0) && fre g (tb q) (nb R C c 2)) || (tb (gD g) (nb R C c 0) && tb (gD g) (nb R C c 2)))
    show ((tb (gD g) (nb R C c 1) && tb (gD g) (nb R C c 3)) || !(fre g (tb q) (nb R C c 1) && fre g (tb q) (nb R C c 3))) = _ ∧ ((tb (gD g) (nb R C c 2) && tb (gD g) (nb R C c 0)) || !(fre g (tb q) (nb R C c 2) && fre g (tb q) (nb R C c 0))) = _
    exact ⟨Bool.or_comm _ _, by rw [Bool.or_comm, Bool.and_comm (tb (gD g) (nb R C c 2)), Bool.and_comm (fre g (tb q) (nb R C c 2))]⟩
  unfold gFzS
  rw [tb_and, tb_and, and_t, and_t]
  constructor
  · rintro ⟨⟨a, b⟩, e⟩
    obtain ⟨k1, k2⟩ := key c (hq c a)
    exact ⟨a, by rw [← k2]; exact e, by rw [← k1]; exact b⟩
  · rintro ⟨a, b, e⟩
    obtain ⟨k1, k2⟩ := key c (hq c a)
    exact ⟨⟨a, by rw [k1]; exact e⟩, by rw [k2]; exact b⟩
theorem ct_lt {p q : Nat → Bool} {n : Nat} (h : ∀ k, k < n → p k = true → q k = true) (h2 : ∃ k, k < n ∧ q k = true ∧ p k = false) : fb_ct p n < fb_ct q n := by
  induction n with
  | zero => obtain ⟨k, hk, _⟩ := h2; omega
  | succ n ih =>
    rw [fb_ct_succ, fb_ct_succ]
    have le := fb_ct_sub (p := p) (q := q) (n := n) fun k hk => h k (by omega)
    obtain ⟨k, hk, hq, hp⟩ := h2
    rcases Nat.eq_or_lt_of_le (Nat.le_of_lt_succ hk) with e | e
    · subst e; rw [hq, hp]; simp; omega
    · have := ih (fun k hk => h k (by omega)) ⟨k, e, hq, hp⟩
      have := h n (by omega)
      cases e1 : p n <;> cases e2 : q n <;> simp_all <;> omega
theorem fzL_ok {g : gT} {R C : Nat} (h : GOk g R C) : ∀ (n : Nat) (q : Int64), (∀ c, tb q c = true → tb (gO g) c = true) → fb_ct (tb q) 64 ≤ n → (∀ c, tb (gFzL g n q) c = true → tb q c = true) ∧ SB g R C (tb (gFzL g n q)) ∧ ∀ X : Nat → Bool, (∀ c, X c = true → tb q c = true) → SB g R C X → ∀ c, X c = true → tb (gFzL g n q) c = true := by
  intro n
  induction n with
  | zero =>
    intro q hq hn
    have z : ∀ k, k < 64 → tb q k = false := fb_ct_zero.mp (by omega)
    have z2 : ∀ c, ¬ tb q c = true := fun c hc => by rw [z c (tb_lt hc)] at hc; cases hc
    exact ⟨fun c hc => hc, fun c hc => absurd hc (z2 c), fun X hX _ c hc => absurd (hX c hc) (z2 c)⟩
  | succ n ih =>
    intro q hq hn
    unfold gFzL
    by_cases e : gFzS g q = q
    · rw [if_pos e]
      refine ⟨fun c hc => hc, fun c hc => ?_, fun X hX _ c hc => hX c hc⟩
      have : tb (gFzS g q) c = true := by rw [e]; exact hc
      exact ((fzS_tb h hq c).mp this).2
    · rw [if_neg e]
      have sub : ∀ c, tb (gFzS g q) c = true → tb q c = true := fun c hc => ((fzS_tb h hq c).mp hc).1
      have less : fb_ct (tb (gFzS g q)) 64 < fb_ct (tb q) 64 := by
        refine ct_lt (fun k _ => sub k) ?_
        refine Classical.byContradiction fun z => e (tb_ext fun c hc => ?_)
        apply bool_iff
        refine ⟨sub c, fun w => ?_⟩
        cases v : tb (gFzS g q) c with
        | true => rfl
        | false => exact absurd ⟨c, hc, w, v⟩ z
      obtain ⟨i1, i2, i3⟩ := ih (gFzS g q) (fun c hc => hq c (sub c hc)) (by omega)
      refine ⟨fun c hc => sub c (i1 c hc), i2, fun X hX hB c hc => i3 X (fun c hc => ?_) hB c hc⟩
      exact (fzS_tb h hq c).mpr ⟨hX c hc, blk_mono hX (hB c hc).1, blk_mono hX (hB c hc).2⟩
theorem fz_ok {g : gT} {R C : Nat} (h : GOk g R C) {b : Int64} (hb : ∀ c, tb b c = true → tb (gO g) c = true) : (∀ c, tb (gFz g b) c = true → tb b c = true) ∧ SB g R C (tb (gFz g b)) ∧ ∀ X : Nat → Bool, (∀ c, X c = true → tb b c = true) → SB g R C X → ∀ c, X c = true → tb (gFz g b) c = true := fzL_ok h 64 b hb (fb_ct_le _ _)
