/-! the search's slots: one more node -/
theorem adS_new (q : SeT) (b : Int64) (p par pu : Int32) (h0 : intAtF 2048 (sT q) (slF q b p) = 0) (hl : sN q < sM q) : adS q b p par pu = (setLongF 1000 (sB q) (sN q) b, setIntF 1000 (sP q) (sN q) p, setIntF 1000 (sF q) (sN q) par, setIntF 1000 (sU q) (sN q) pu, setIntF 2048 (sT q) (slF q b p) (sN q + 1), sM q, sW q, sN q + 1, sV q, sY q) := by
  unfold adS
  rw [if_pos h0, if_pos hl]
  generalize slF q b p = s
  obtain ⟨q1, q2, q3, q4, q5, q6, q7, q8, q9, q10⟩ := q
  rfl
theorem adS_full (q : SeT) (b : Int64) (p par pu : Int32) (h0 : intAtF 2048 (sT q) (slF q b p) = 0) (hl : ¬ sN q < sM q) : adS q b p par pu = adY q := by
  unfold adS
  rw [if_pos h0, if_neg hl]
def nwS (q : SeT) (n s : Nat) (b : Int64) (p par pu : Int32) : SeT := (vp_updL (sB q) n b, upd (sP q) n p, upd (sF q) n par, upd (sU q) n pu, upd (sT q) s (nI (n + 1)), sM q, sW q, nI (n + 1), sV q, sY q)
theorem setLo_at {f : Nat → Int64} {n k : Nat} (hk : k < n) (hn : n < 2 ^ 31) (a : Int64) : setLongF n f (nI k) a = vp_updL f k a := by
  unfold setLongF
  rw [if_neg (nI_pos (by omega)), if_neg (nI_ge hk hn), nI_clamp (by omega)]
theorem adS_nw {q : SeT} {n : Nat} (hn : sN q = nI n) (h1 : n < 1000) {s : Nat} (hs : s < 2048) {b : Int64} {p : Int32} (e : slF q b p = nI s) (h0 : sT q s = 0) (hl : sN q < sM q) (par pu : Int32) : adS q b p par pu = nwS q n s b p par pu := by
  rw [adS_new q b p par pu (by rw [e, intAt_at hs (by decide), h0]) hl, e, hn, setLo_at h1 (by decide), setI_at h1 (by decide), setI_at h1 (by decide), setI_at h1 (by decide), setI_at hs (by decide), nI_1]
  rfl
theorem updL_at (f : Nat → Int64) (k : Nat) (x : Int64) (j : Nat) : vp_updL f k x j = if j = k then x else f j := by
  unfold vp_updL
  rfl
theorem HT.add {q : SeT} {n : Nat} (h : HT q n) (h1 : n < 1000) {j s : Nat} {b : Int64} {p : Int32} (hj : j < 2048) (hs : s < 2048) (hp : (hsh b p + nI j) &&& 2047 = nI s) (h0 : sT q s = 0) (hl : ∀ i, i < j → ¬ Sto q b p ((hsh b p + nI i) &&& 2047)) (par pu : Int32) : HT (nwS q n s b p par pu) (n + 1) := by
  obtain ⟨a1, a2, a3, a4, a5⟩ := h
  have eT : ∀ x, sT (nwS q n s b p par pu) x = if x = s then nI (n + 1) else sT q x := fun x => upd_at (sT q) s (nI (n + 1)) x
  have eB : ∀ i, sB (nwS q n s b p par pu) i = if i = n then b else sB q i := fun i => updL_at (sB q) n b i
  have eP : ∀ i, sP (nwS q n s b p par pu) i = if i = n then p else sP q i := fun i => upd_at (sP q) n p i
  have st0 : ∀ b' p', Sto q b' p' (nI s) := fun b' p' => Or.inl (by rw [intAt_at hs (by decide), h0]; decide)
  have same : ∀ b' p' x, x < 2048 → ¬ Sto q b' p' (nI x) → ¬ Sto (nwS q n s b p par pu) b' p' (nI x) := fun b' p' x hx no yes => by
    have xs : x ≠ s := fun z => no (by rw [z]; exact st0 b' p')
    have ee : intAtF 2048 (sT (nwS q n s b p par pu)) (nI x) = sT q x := by rw [intAt_at hx (by decide), eT, if_neg xs]
    unfold Sto at yes
    rw [ee] at yes
    apply no
    unfold Sto
    rw [intAt_at hx (by decide)]
    rcases a3 x hx with z | ⟨i, i1, i2⟩
    · exact Or.inl (by rw [z]; decide)
    · rw [i2, (ent_m1 (show i < 2 ^ 20 by omega)).1] at yes ⊢
      rw [longAt_at (show i < 1000 by omega) (by decide), intAt_at (show i < 1000 by omega) (by decide), eB, eP, if_neg (by omega), if_neg (by omega)] at yes
      rw [longAt_at (show i < 1000 by omega) (by decide), intAt_at (show i < 1000 by omega) (by decide)]
      exact yes
  have same' : ∀ b' p' f i, ¬ Sto q b' p' ((f + nI i) &&& 2047) → ¬ Sto (nwS q n s b p par pu) b' p' ((f + nI i) &&& 2047) := fun b' p' f i no => by
    obtain ⟨x, x1, x2⟩ := slot_lt f i
    rw [x2] at no ⊢
    exact same b' p' x x1 no
  refine ⟨rfl, by omega, fun x hx => ?_, ?_, fun i hi => ?_⟩
  · rw [eT]
    by_cases z : x = s
    · rw [if_pos z]; exact Or.inr ⟨n, by omega, rfl⟩
    · rw [if_neg z]
      rcases a3 x hx with y | ⟨i, i1, i2⟩
      · exact Or.inl y
      · exact Or.inr ⟨i, by omega, i2⟩
  · have u := fb_ct_upd (fun x => !decide (sT q x = 0)) true (i := s) (n := 2048) hs
    have e : (fun x => !decide (sT (nwS q n s b p par pu) x = 0)) = fun k => if k = s then true else !decide (sT q k = 0) := funext fun x => by
      rw [eT]
      by_cases z : x = s
      · rw [if_pos z, if_pos z, decide_eq_false (ent_m1 (show n < 2 ^ 20 by omega)).2]; rfl
      · rw [if_neg z, if_neg z]
    have z0 : (!decide (sT q s = 0)) = false := by rw [h0]; rfl
    rw [e]
    have z0' : (fun x => !decide (sT q x = 0)) s = false := z0
    rw [if_neg (show ¬ (fun x => !decide (sT q x = 0)) s = true by rw [z0']; decide), if_pos rfl, a4] at u
    rw [Nat.add_zero] at u
    exact u
  · by_cases z : i = n
    · subst z
      refine ⟨j, hj, ?_, fun i' hi' => ?_⟩
      · rw [eB, eP, if_pos rfl, if_pos rfl, hp, intAt_at hs (by decide), eT, if_pos rfl]
      · rw [eB, eP, if_pos rfl, if_pos rfl]
        exact same' _ _ _ _ (hl i' hi')
    · obtain ⟨j', j1, j2, j3⟩ := a5 i (by omega)
      refine ⟨j', j1, ?_, fun i' hi' => ?_⟩
      · rw [eB, eP, if_neg z, if_neg z]
        obtain ⟨x, x1, x2⟩ := slot_lt (hsh (sB q i) (sP q i)) j'
        rw [x2] at j2 ⊢
        rw [intAt_at x1 (by decide)] at j2 ⊢
        rw [eT, if_neg (fun y => by rw [y, h0] at j2; exact (ent_m1 (show i < 2 ^ 20 by omega)).2 j2.symm)]
        exact j2
      · rw [eB, eP, if_neg z, if_neg z]
        exact same' _ _ _ _ (j3 i' hi')
theorem zeL_at : ∀ n k (f : Nat → Int32), k + n ≤ 2048 → ∀ j, zeL n k f j = if k ≤ j ∧ j < k + n then 0 else f j := by
  intro n
  induction n with
  | zero => intro k f _ j; rw [if_neg (by omega)]; rfl
  | succ n ih =>
    intro k f hk j
    show zeL n (k + 1) (setIntF 2048 f (nI k) 0) j = _
    rw [ih (k + 1) _ (by omega), setI_at (show k < 2048 by omega) (by decide), upd_at]
    by_cases z : j = k
    · rw [if_neg (by omega), if_pos z, if_pos (by omega)]
    · by_cases y : k + 1 ≤ j ∧ j < k + 1 + n
      · rw [if_pos y, if_pos (by omega)]
      · rw [if_neg y, if_neg z, if_neg (by omega)]
theorem ct_none {p : Nat → Bool} : ∀ n, (∀ s, s < n → p s = false) → fb_ct p n = 0 := by
  intro n
  induction n with
  | zero => intro _; rfl
  | succ n ih =>
    intro h
    rw [fb_ct_succ, ih (fun s hs => h s (by omega)), h n (by omega), if_neg (by decide)]
theorem HT.start (q : SeT) (lim : Int32) (wt : Bool) {M : Nat} (hM : M = 2048) : HT (ru0 q lim wt (zeL M 0 (sT q))) 0 := by
  have z : ∀ s, s < M → sT (ru0 q lim wt (zeL M 0 (sT q))) s = 0 := fun s hs => by
    show zeL M 0 (sT q) s = 0
    rw [zeL_at M 0 _ (by omega), if_pos (by omega)]
  refine ⟨rfl, by decide, fun s hs => Or.inl (z s (by omega)), ?_, fun i hi => absurd hi (Nat.not_lt_zero i)⟩
  rw [← hM]
  exact ct_none M fun s hs => by rw [z s hs]; rfl
