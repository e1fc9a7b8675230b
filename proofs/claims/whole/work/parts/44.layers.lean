/-! layers: what is reached in just k steps -/
def ly (N : Int64 → Int64) (s : Int64) : Nat → Int64 × Int64
  | 0 => (s, s)
  | k + 1 => (N (ly N s k).1 &&& ((ly N s k).2 ^^^ (-1)), (ly N s k).2 ||| (N (ly N s k).1 &&& ((ly N s k).2 ^^^ (-1))))
theorem ly_lv {N : Int64 → Int64} {A : Nat → Nat → Prop} {R C : Nat} (hRC : RC R C) (hN : ∀ a, Sub R C a → (∀ c, tb (N a) c = true ↔ ∃ p, tb a p = true ∧ A p c)) (hS : ∀ a, Sub R C (N a)) {s : Int64} (hs : Sub R C s) : ∀ k : Nat, Sub R C (ly N s k).1 ∧ (∀ c, tb (ly N s k).2 c = true ↔ Lv A (fun x => tb s x = true) k c) ∧ (∀ c, tb (ly N s k).1 c = true ↔ Lv A (fun x => tb s x = true) k c ∧ (∀ j, j < k → ¬ Lv A (fun x => tb s x = true) j c)) := by
  intro k
  induction k with
  | zero =>
    refine ⟨hs, fun c => Iff.rfl, fun c => ⟨fun q => ⟨q, fun j hj => by omega⟩, fun q => q.1⟩⟩
  | succ k ih =>
    obtain ⟨i1, i2, i3⟩ := ih
    have e : ∀ c, tb (N (ly N s k).1 &&& ((ly N s k).2 ^^^ (-1))) c = true ↔ Lv A (fun x => tb s x = true) (k + 1) c ∧ ¬ Lv A (fun x => tb s x = true) k c := by
      intro c
      rw [tb_and, and_t, hN _ i1]
      constructor
      · rintro ⟨⟨p, a, b⟩, q⟩
        have hc : c < 64 := tb_lt q
        refine ⟨Or.inr ⟨p, ((i3 p).mp a).1, b⟩, fun z => ?_⟩
        rw [tb_not _ hc, (i2 c).mpr z] at q
        cases q
      · rintro ⟨a, b⟩
        rcases a with a | ⟨p, a, q⟩
        · exact absurd a b
        · have hp : tb (ly N s k).1 p = true := by
            refine (i3 p).mpr ⟨a, fun j hj z => b ?_⟩
            exact Lv.up (show j + 1 ≤ k by omega) (Or.inr ⟨p, z, q⟩)
          have hc : c < 64 := Nat.lt_of_lt_of_le (hS _ c ((hN _ i1 c).mpr ⟨p, hp, q⟩)) hRC.le
          refine ⟨⟨p, hp, q⟩, ?_⟩
          rw [tb_not _ hc]
          cases z : tb (ly N s k).2 c with
          | false => rfl
          | true => exact absurd ((i2 c).mp z) b
    refine ⟨(hS _).and1 _, fun c => ?_, fun c => ?_⟩
    · show tb ((ly N s k).2 ||| _) c = true ↔ _
      rw [tb_or, or_t, i2 c, e c]
      constructor
      · rintro (a | a)
        · exact Or.inl a
        · exact a.1
      · intro a
        by_cases z : Lv A (fun x => tb s x = true) k c
        · exact Or.inl z
        · exact Or.inr ⟨a, z⟩
    · show tb (N (ly N s k).1 &&& ((ly N s k).2 ^^^ (-1))) c = true ↔ _
      rw [e c]
      constructor
      · rintro ⟨a, b⟩
        exact ⟨a, fun j hj z => b (z.up (by omega))⟩
      · rintro ⟨a, b⟩
        exact ⟨a, b k (by omega)⟩
theorem ly_nil {N : Int64 → Int64} {A : Nat → Nat → Prop} {R C : Nat} (hRC : RC R C) (hN : ∀ a, Sub R C a → (∀ c, tb (N a) c = true ↔ ∃ p, tb a p = true ∧ A p c)) (hS : ∀ a, Sub R C (N a)) {s : Int64} (hs : Sub R C s) {k : Nat} (h : (ly N s k).1 = 0) : ∀ m, k ≤ m → (ly N s m).1 = 0 := by
  intro m hm
  induction m with
  | zero => have : k = 0 := by omega
            subst this; exact h
  | succ m ih =>
    rcases Nat.eq_or_lt_of_le hm with e | e
    · rw [← e]; exact h
    · have ih := ih (by omega)
      apply tb_eq0.mpr
      intro c _
      cases z : tb (ly N s (m + 1)).1 c with
      | false => rfl
      | true =>
        have z : tb (N (ly N s m).1 &&& ((ly N s m).2 ^^^ (-1))) c = true := z
        rw [tb_and, and_t, hN _ (ly_lv hRC hN hS hs m).1] at z
        obtain ⟨⟨p, a, _⟩, _⟩ := z
        rw [ih, tb_0] at a; cases a
/-- one start cell: layer k has the cells at k -/
theorem ly_cert {N : Int64 → Int64} {A : Nat → Nat → Prop} {R C : Nat} (hRC : RC R C) (hN : ∀ a, Sub R C a → (∀ c, tb (N a) c = true ↔ ∃ p, tb a p = true ∧ A p c)) (hS : ∀ a, Sub R C (N a)) {a : Nat} (ha : a < R * C) {s : Nat → Nat} (hc : Cert A a s) {k : Nat} (hk : k < 64) (c : Nat) : tb (ly N (jshl 1 (nI a)) k).1 c = decide (s c = k) := by
  apply bool_iff
  rw [(ly_lv hRC hN hS (Sub.bit hRC ha) k).2.2 c, decide_eq_true_iff]
  have e : ∀ j, j ≤ 64 → (Lv A (fun x => tb (jshl 1 (nI a)) x = true) j c ↔ s c ≤ j) := fun j hj => by
    rw [Lv.congr (B := A) (T := fun x => x = a) (fun x => bit_eq hRC ha x) (fun _ _ => Iff.rfl), hc.lv hj]
  rw [e k (by omega)]
  constructor
  · rintro ⟨a1, a2⟩
    rcases Nat.lt_or_ge (s c) k with q | q
    · exact absurd ((e (s c) (by omega)).mpr (Nat.le_refl _)) (a2 _ q)
    · omega
  · intro q
    refine ⟨by omega, fun j hj z => ?_⟩
    have := (e j (by omega)).mp z
    omega
theorem setL_at {f : Nat → Int64} {k : Nat} (hk : k < 64) (a : Int64) : setLongF 64 f (nI k) a = vp_updL f k a := by
  unfold setLongF
  rw [if_neg (nI_pos (by omega)), if_neg (nI_ge hk (by decide)), nI_clamp (by omega)]
theorem longAt_at {f : Nat → Int64} {n k : Nat} (hk : k < n) (hn : n < 2 ^ 31) : longAtF n f (nI k) = f k := by
  unfold longAtF
  rw [if_neg (nI_pos (by omega)), if_neg (nI_ge hk hn), nI_clamp (by omega)]
theorem intAt_at {f : Nat → Int32} {n k : Nat} (hk : k < n) (hn : n < 2 ^ 31) : intAtF n f (nI k) = f k := by
  unfold intAtF
  rw [if_neg (nI_pos (by omega)), if_neg (nI_ge hk hn), nI_clamp (by omega)]
theorem intAt_out {f : Nat → Int32} {n k : Nat} (hk : n ≤ k) (hn : k < 2 ^ 31) : intAtF n f (nI k) = 0 := by
  unfold intAtF
  rw [if_neg (nI_pos (by omega)), if_pos (nI_le hk hn)]
theorem setI_at {f : Nat → Int32} {n k : Nat} (hk : k < n) (hn : n < 2 ^ 31) (a : Int32) : setIntF n f (nI k) a = upd f k a := by
  unfold setIntF
  rw [if_neg (nI_pos (by omega)), if_neg (nI_ge hk hn), nI_clamp (by omega)]
theorem setI_out {f : Nat → Int32} {n k : Nat} (hk : n ≤ k) (hn : k < 2 ^ 31) (a : Int32) : setIntF n f (nI k) a = f := by
  unfold setIntF
  rw [if_neg (nI_pos (by omega)), if_pos (nI_le hk hn)]
theorem setLn_at {f : Nat → Int64} {n k : Nat} (hk : k < n) (hn : n < 2 ^ 31) (a : Int64) : setLongF n f (nI k) a = vp_updL f k a := by
  unfold setLongF
  rw [if_neg (nI_pos (by omega)), if_neg (nI_ge hk hn), nI_clamp (by omega)]
/-- the steps' layers -/
def yN (g : gT) (over : Int64) (a : Int64) : Int64 := gBs g a &&& over
theorem yLa_ly (g : gT) (over s : Int64) : ∀ (n k : Nat) (f : Nat → Int64), k + n ≤ 64 → ∃ f' z, yLa g over n k (ly (yN g over) s k).1 (ly (yN g over) s k).2 f = (f', z) ∧ k ≤ z ∧ z ≤ k + n ∧ (∀ i, i < k → f' i = f i) ∧ (∀ i, k ≤ i → i < z → f' i = (ly (yN g over) s i).1 ∧ ¬ (ly (yN g over) s i).1 = 0) ∧ (z < k + n → (ly (yN g over) s z).1 = 0) := by
  intro n
  induction n with
  | zero => intro k f _; exact ⟨f, k, rfl, Nat.le_refl _, Nat.le_refl _, fun _ _ => rfl, fun i h1 h2 => by omega, fun h => by omega⟩
  | succ n ih =>
    intro k f hk
    unfold yLa
    by_cases q : (ly (yN g over) s k).1 = 0
    · rw [if_pos q]
      exact ⟨f, k, rfl, Nat.le_refl _, by omega, fun _ _ => rfl, fun i h1 h2 => by omega, fun _ => q⟩
    · rw [if_neg q, setL_at (by omega)]
      obtain ⟨f', z, h1, h2, h3, h4, h5, h6⟩ := ih (k + 1) (vp_updL f k (ly (yN g over) s k).1) (by omega)
      refine ⟨f', z, h1, by omega, by omega, fun i hi => ?_, fun i a b => ?_, fun h => h6 (by omega)⟩
      · rw [h4 i (by omega)]; exact pk_uLn (by omega)
      · rcases Nat.eq_or_lt_of_le a with e | e
        · subst e
          exact ⟨by rw [h4 k (by omega)]; exact pk_uLs, q⟩
        · exact h5 i (by omega) b
theorem yN_hN {g : gT} {R C : Nat} (h : GOk g R C) (over : Int64) : ∀ a, Sub R C a → (∀ c, tb (yN g over a) c = true ↔ ∃ p, tb a p = true ∧ AS g R C over p c) := fun _ ha c => bs_as h ha over c
theorem yN_sub {g : gT} {R C : Nat} (h : GOk g R C) (over : Int64) (a : Int64) : Sub R C (yN g over a) := (bs_sub h a).and1 over
/-- layers from one cell, as they are read -/
theorem yLay_at {g : gT} {R C : Nat} (h : GOk g R C) (over : Int64) {a : Nat} (ha : a < R * C) {s : Nat → Nat} (hc : Cert (AS g R C over) a s) (f : Nat → Int64) : (yLay g (jshl 1 (nI a)) over f).2 ≤ 64 ∧ (∀ i c, i < 64 → tb (yAt (yLay g (jshl 1 (nI a)) over f).1 (nI (yLay g (jshl 1 (nI a)) over f).2) (nI i)) c = decide (s c = i)) ∧ (∀ c, s c < 64 → s c < (yLay g (jshl 1 (nI a)) over f).2) := by
  obtain ⟨f', z, h1, h2, h3, h4, h5, h6⟩ := yLa_ly g over (jshl 1 (nI a)) 64 0 f (by omega)
  have e : yLay g (jshl 1 (nI a)) over f = (f', z) := h1
  rw [e]
  have nil := fun {k : Nat} => ly_nil h.rc (yN_hN h over) (yN_sub h over) (Sub.bit h.rc ha) (k := k)
  have crt := fun {k : Nat} (hk : k < 64) c => ly_cert h.rc (yN_hN h over) (yN_sub h over) ha hc hk c
  refine ⟨by show z ≤ 64; omega, fun i c hi => ?_, fun c hs => ?_⟩
  · show tb (yAt f' (nI z) (nI i)) c = _
    unfold yAt
    by_cases q : z ≤ i
    · rw [if_pos (nI_le q (by omega)), tb_0, ← crt hi c, nil (h6 (by omega)) i q, tb_0]
    · rw [if_neg (nI_ge (by omega) (by omega)), longAt_at hi (by decide), (h5 i (by omega) (by omega)).1, crt hi c]
  · show s c < z
    rcases Nat.lt_or_ge (s c) z with q | q
    · exact q
    · have := nil (h6 (by omega)) (s c) q
      have e2 := crt hs c
      rw [this, tb_0] at e2
      simp at e2
/-! lone pushes -/
def APush (g : gT) (R C : Nat) (p c : Nat) : Prop := ∃ d, d < 4 ∧ nb R C c (opd d) = p ∧ tb (gO g) c = true ∧ tb (gO g) p = true ∧ tb (gO g) (nb R C p (opd d)) = true
def APull (g : gT) (R C : Nat) (p c : Nat) : Prop := ∃ d, d < 4 ∧ nb R C c d = p ∧ tb (gO g) c = true ∧ tb (gO g) (nb R C c (opd d)) = true
theorem gLpL_eq (g : gT) (s : Int64) : gLp g s = 0 ||| gMv g (s &&& gMv g (gO g) 0) 0 ||| gMv g (s &&& gMv g (gO g) 1) 1 ||| gMv g (s &&& gMv g (gO g) 2) 2 ||| gMv g (s &&& gMv g (gO g) 3) 3 := rfl
theorem Sub.zero {R C : Nat} : Sub R C 0 := fun c hc => by rw [tb_0] at hc; cases hc
theorem lp_sub {g : gT} {R C : Nat} (h : GOk g R C) (s : Int64) : Sub R C (gLp g s) := by
  rw [gLpL_eq]
  exact Sub.or (Sub.or (Sub.or (Sub.or Sub.zero (mv_sub h _ _)) (mv_sub h _ _)) (mv_sub h _ _)) (mv_sub h _ _)
theorem lp_tb {g : gT} {R C : Nat} (h : GOk g R C) (s : Int64) (c : Nat) : tb (gLp g s) c = true ↔ ∃ p, tb s p = true ∧ APush g R C p c := by
  have one : ∀ d, d < 4 → (tb (gMv g (s &&& gMv g (gO g) (nI d)) (nI d)) c = true ↔ tb s (nb R C c (opd d)) = true ∧ tb (gO g) c = true ∧ tb (gO g) (nb R C c (opd d)) = true ∧ tb (gO g) (nb R C (nb R C c (opd d)) (opd d)) = true) := by
    intro d hd
    rw [mv_tb h ((mv_sub h _ _).and2 s) hd, and_t, tb_and, and_t, mv_tb h h.sub_open hd, and_t]
    constructor
    · rintro ⟨a, b, e, f⟩; exact ⟨b, a, e, f⟩
    · rintro ⟨b, a, e, f⟩; exact ⟨a, b, e, f⟩
  have o0 := one 0 (by decide); have o1 := one 1 (by decide); have o2 := one 2 (by decide); have o3 := one 3 (by decide)
  rw [gLpL_eq, tb_or, tb_or, tb_or, tb_or, tb_0, Bool.false_or]
  simp only [or_t]
  constructor
  · rintro (((a | a) | a) | a)
    · obtain ⟨x, y, z, w⟩ := o0.mp a; exact ⟨_, x, 0, by decide, rfl, y, z, w⟩
    · obtain ⟨x, y, z, w⟩ := o1.mp a; exact ⟨_, x, 1, by decide, rfl, y, z, w⟩
    · obtain ⟨x, y, z, w⟩ := o2.mp a; exact ⟨_, x, 2, by decide, rfl, y, z, w⟩
    · obtain ⟨x, y, z, w⟩ := o3.mp a; exact ⟨_, x, 3, by decide, rfl, y, z, w⟩
  · rintro ⟨p, x, d, hd, rfl, y, z, w⟩
    match d, hd with
    | 0, _ => exact Or.inl (Or.inl (Or.inl (o0.mpr ⟨x, y, z, w⟩)))
    | 1, _ => exact Or.inl (Or.inl (Or.inr (o1.mpr ⟨x, y, z, w⟩)))
    | 2, _ => exact Or.inl (Or.inr (o2.mpr ⟨x, y, z, w⟩))
    | 3, _ => exact Or.inr (o3.mpr ⟨x, y, z, w⟩)
    | d + 4, hd => omega
theorem push_pull {g : gT} {R C : Nat} (h : GOk g R C) {p c : Nat} (hp : tb (gO g) p = true) (hc : tb (gO g) c = true) : APush g R C p c ↔ APull g R C c p := by
  have hpl := h.open_lt hp
  have hcl := h.open_lt hc
  have hle := h.rc.le
  constructor
  · rintro ⟨d, hd, a, _, _, b⟩
    have := nb_back h.rc hcl (opd_lt d) a (by omega)
    rw [opd_opd hd] at this
    exact ⟨d, hd, this.1, hp, b⟩
  · rintro ⟨d, hd, a, _, b⟩
    have := nb_back h.rc hpl hd a (by omega)
    exact ⟨d, hd, this.1, hc, hp, b⟩
theorem push_open {g : gT} {R C : Nat} {p c : Nat} (h : APush g R C p c) : tb (gO g) p = true ∧ tb (gO g) c = true := by
  obtain ⟨d, hd, _, a, b, _⟩ := h
  exact ⟨b, a⟩
/-- pulling back from an open cell is pushing to it -/
theorem pull_back {g : gT} {R C : Nat} (h : GOk g R C) {p c k : Nat} (hp : tb (gO g) p = true) (hc : tb (gO g) c = true) : Wk (APush g R C) k p c ↔ Wk (APull g R C) k c p := by
  constructor
  · exact Wk.rev (P := fun x => tb (gO g) x = true) (fun _ _ q => push_open q) (fun _ _ => push_pull h) hp hc
  · induction k generalizing p with
    | zero => intro q; exact Eq.symm q
    | succ k ih =>
      rintro ⟨r, q, b⟩
      have hr : tb (gO g) r = true ∨ k = 0 := by
        cases k with
        | zero => exact Or.inr rfl
        | succ k =>
          obtain ⟨_, _, d, hd, _, a, _⟩ := q
          exact Or.inl a
      have hr : tb (gO g) r = true := by
        rcases hr with z | z
        · exact z
        · subst z; cases (show c = r from q); exact hc
      exact Wk.front.mpr ⟨r, (push_pull h hp hr).mpr b, ih hr q⟩
