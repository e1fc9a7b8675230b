/-! the search: what is kept -/
theorem adS_cases {q : SeT} {n lim : Nat} (h : HT q n) (hM : sM q = nI lim) (hl : lim ≤ 1000) (b : Int64) (x par pu : Int32) : adS q b x par pu = q ∨ adS q b x par pu = adY q ∨ ∃ s, adS q b x par pu = nwS q n s b x par pu := by
  by_cases z : ∃ i, i < n ∧ sB q i = b ∧ sP q i = x
  · obtain ⟨i, i1, i2, i3⟩ := z
    rw [← i2, ← i3]
    exact Or.inl (h.hit i1 par pu)
  · obtain ⟨j, s, j1, s1, p1, e1, z1, l1⟩ := h.miss (b := b) (p := x) (fun i hi w => z ⟨i, hi, w⟩)
    by_cases y : sN q < sM q
    · have y' := y
      rw [h.1, hM] at y'
      have hn : n < lim := by
        rcases Nat.lt_or_ge n lim with w | w
        · exact w
        · exact absurd y' (Int32.not_lt.mpr (nI_le w (by have := h.2.1; omega)))
      exact Or.inr (Or.inr ⟨s, adS_nw h.1 (by omega) s1 e1 z1 y par pu⟩)
    · exact Or.inr (Or.inl (adS_full q b x par pu (by rw [e1, intAt_at s1 (by decide), z1]) y))
/-- a node is a push behind another -/
def Ed (g : gT) (q : SeT) (j c d : Nat) (b : Int64) (px : Int32) : Prop := d < 4 ∧ tb (sB q j) c = true ∧ pPr g (sB q j) (sP q j) (nI c) (nI d) = 0 ∧ b = lkA g (sB q j) (nI c) (nI d) ∧ px = lowF (pAr g b (nI c))
/-- the nodes are positions, each behind an earlier one -/
def NV (g : gT) (q : SeT) (n : Nat) : Prop := ∀ i, i < n → (∃ l, sP q i = nI l ∧ PV g (sB q i) l) ∧ ((i = 0 ∧ sF q i = -1) ∨ ∃ j c d, j < i ∧ sF q i = nI j ∧ sU q i = nI (4 * c + d) ∧ Ed g q j c d (sB q i) (sP q i)) ∧ ∃ v, v < 256 ∧ sU q i = nI v
/-- nothing old is changed -/
def Kp (q q' : SeT) (n : Nat) : Prop := (∀ i, i < n → sB q' i = sB q i ∧ sP q' i = sP q i ∧ sF q' i = sF q i ∧ sU q' i = sU q i) ∧ sM q' = sM q ∧ sW q' = sW q ∧ sV q' = sV q
theorem Kp.rf {q : SeT} {n : Nat} : Kp q q n := ⟨fun _ _ => ⟨rfl, rfl, rfl, rfl⟩, rfl, rfl, rfl⟩
theorem Kp.trans {q q' q2 : SeT} {n n' : Nat} (h : Kp q q' n) (h2 : Kp q' q2 n') (hn : n ≤ n') : Kp q q2 n := by
  refine ⟨fun i hi => ?_, h2.2.1.trans h.2.1, h2.2.2.1.trans h.2.2.1, h2.2.2.2.trans h.2.2.2⟩
  obtain ⟨a1, a2, a3, a4⟩ := h.1 i hi
  obtain ⟨b1, b2, b3, b4⟩ := h2.1 i (by omega)
  exact ⟨b1.trans a1, b2.trans a2, b3.trans a3, b4.trans a4⟩
theorem ad_keep {g : gT} {q : SeT} {n n' lim : Nat} (h : HT q n) (hM : sM q = nI lim) (hl : lim ≤ 1000) (nv : NV g q n) {b : Int64} {x j c d : Nat} (pv : PV g b x) (hj : j < n) (hv : 4 * c + d < 256) (hE : Ed g q j c d b (nI x)) (h' : HT (adS q b (nI x) (nI j) (nI (4 * c + d))) n') : NV g (adS q b (nI x) (nI j) (nI (4 * c + d))) n' ∧ Kp q (adS q b (nI x) (nI j) (nI (4 * c + d))) n := by
  have n1 := h.2.1
  have n2 := h'.2.1
  rcases adS_cases h hM hl b (nI x) (nI j) (nI (4 * c + d)) with e | e | ⟨s, e⟩
  · rw [e] at h' ⊢
    have : n' = n := (nI_eq (by omega) (by omega)).mp (h'.1.symm.trans h.1)
    rw [this]; exact ⟨nv, Kp.rf⟩
  · rw [e] at h' ⊢
    have e1 : sN (adY q) = nI n := h.1
    have : n' = n := (nI_eq (by omega) (by omega)).mp (h'.1.symm.trans e1)
    rw [this]
    exact ⟨nv, fun _ _ => ⟨rfl, rfl, rfl, rfl⟩, rfl, rfl, rfl⟩
  · rw [e] at h' ⊢
    have e1 : sN (nwS q n s b (nI x) (nI j) (nI (4 * c + d))) = nI (n + 1) := rfl
    have : n' = n + 1 := (nI_eq (by omega) (by omega)).mp (h'.1.symm.trans e1)
    rw [this]
    have eB : ∀ i, sB (nwS q n s b (nI x) (nI j) (nI (4 * c + d))) i = if i = n then b else sB q i := fun i => updL_at (sB q) n b i
    have eP : ∀ i, sP (nwS q n s b (nI x) (nI j) (nI (4 * c + d))) i = if i = n then nI x else sP q i := fun i => upd_at (sP q) n _ i
    have eF : ∀ i, sF (nwS q n s b (nI x) (nI j) (nI (4 * c + d))) i = if i = n then nI j else sF q i := fun i => upd_at (sF q) n _ i
    have eU : ∀ i, sU (nwS q n s b (nI x) (nI j) (nI (4 * c + d))) i = if i = n then nI (4 * c + d) else sU q i := fun i => upd_at (sU q) n _ i
    refine ⟨fun i hi => ?_, fun i hi => ?_, rfl, rfl, rfl⟩
    · rw [eB, eP, eF, eU]
      by_cases z : i = n
      · simp only [z, if_true]
        refine ⟨⟨x, rfl, pv⟩, Or.inr ⟨j, c, d, hj, rfl, rfl, ?_⟩, 4 * c + d, hv, rfl⟩
        unfold Ed
        rw [eB, eP, if_neg (show ¬ j = n by omega), if_neg (show ¬ j = n by omega)]; exact hE
      · simp only [z, if_false]
        obtain ⟨y1, y2, y3⟩ := nv i (by omega)
        refine ⟨y1, ?_, y3⟩
        rcases y2 with y | ⟨j', c', d', w1, w2, w3, w4⟩
        · exact Or.inl y
        · refine Or.inr ⟨j', c', d', w1, w2, w3, ?_⟩
          unfold Ed
          rw [eB, eP, if_neg (show ¬ j' = n by omega), if_neg (show ¬ j' = n by omega)]; exact w4
    · rw [eB, eP, eF, eU]
      have z : ¬ i = n := by omega
      simp only [z, if_false, and_self]
theorem low_pv {g : gT} {R C : Nat} (ok : GOk g R C) {b : Int64} {p : Nat} (pv : PV g b p) : ∃ l, lowF (pAr g b (nI p)) = nI l ∧ PV g b l := by
  have le := ok.rc.le
  have hp := pv.2.1
  have hpo : p < R * C := pv.rc ok
  have area := area_tb ok hp
  have at0 : (bfR (adjW g R C b) p).2.2 p < 64 := by
    have := (wk_cert (b := b) ok hpo).1
    omega
  have nz : ¬ pAr g b (nI p) = 0 := tb_ne0.mpr ⟨p, by omega, by unfold pAr; rw [area, decide_eq_true_iff]; exact at0⟩
  obtain ⟨l, l1, l2, l3, l4, _⟩ := low_ex nz
  refine ⟨l, l4, pv.1, ?_, pv.2.2⟩
  have dl : (bfR (adjW g R C b) p).2.2 l < 64 := by
    have := l2; unfold pAr at this; rw [area, decide_eq_true_iff] at this; exact this
  rcases (wk_cert (b := b) ok hpo).2.1 l dl with z | ⟨_, _, z, _⟩
  · rw [z]; exact hp
  · exact z.1
