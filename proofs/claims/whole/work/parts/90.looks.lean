/-! the search: one push from a position -/
theorem m_finds {t : xT} {g : gT} {R C : Nat} {b : Int64} (ok : GOk g R C) (hM : GR (ra t 1) g R C) (hB : GB (ra t 1) b) (hb : ∀ c, tb b c = true → c < R * C) {p : Nat} (h3 : ra t 1 3 = nI p) (hp : tb (pFr g b) p = true) {q : SeT} {n lim : Nat} (h : SR q n lim t) (par pu pv : Int32) (hpu : 1 ≤ n → pv = pu) {N : Nat} (hN : 10000 ≤ N) : ∃ u n', f_finds N t par pv (nI lim) = some u ∧ SR (adS q b (lowF (pAr g b (nI p))) par pu) n' lim u ∧ n ≤ n' ∧ FrB [6, 7, 15, 16, 17] [16, 31, 35] t u := by
  obtain ⟨u0, l, e1, f1, e2, _, _⟩ := m_lowestHere ok hM hB h3 hp hN
  have s0 := h.frm f1 (f1.a 15 rfl) (f1.a 16 rfl) (f1.a 17 rfl) (f1.s 31 rfl) (f1.s 35 rfl)
  have hn : n ≤ 1000 := h.1.2.1
  obtain ⟨u, n', q1, q2, q3, q4⟩ := fn_loop (N := N) s0 b l par pu pv hpu n 0 (N - 1 - n) (Nat.zero_add _) (fun i hi => absurd hi (Nat.not_lt_zero i))
  rw [show N - 1 - n + 1 + n = N by omega] at q1
  refine ⟨u, n', ?_, by rw [e2]; exact q2, q3, (f1.toB.up (by decide) (by decide)).trans (q4.up (by decide) (by decide))⟩
  unfold f_finds
  rw [m_boxSet ok.rc hM hB hb hN, Option.bind_some, e1, Option.bind_some]
  exact q1
/-- when the class pushes on -/
theorem lk_iff {g : gT} {R C : Nat} (ok : GOk g R C) (b : Int64) {c d : Nat} (hc : c < R * C) (hd : d < 4) (p : Int32) : pPr g b p (nI c) (nI d) = 0 ↔ ¬ lkT g b (nI c) (nI d) = 0 ∧ ¬ (gMv g (jshl 1 (nI c)) ((nI d + 2) &&& 3) &&& pAr g b p = 0) := by
  have eT : lkT g b (nI c) (nI d) = gMv g (jshl 1 (nI c)) (nI d) &&& (b ^^^ (-1)) := rfl
  unfold pPr
  have eB : pBe g (nI c) (nI d) = gMv g (jshl 1 (nI c)) ((nI d + 2) &&& 3) := rfl
  rw [eB, eT, mv_bit ok hc hd, pBr_eq ok b hc hd]
  by_cases z : gMv g (jshl 1 (nI c)) ((nI d + 2) &&& 3) &&& pAr g b p = 0
  · rw [if_pos z]
    exact ⟨fun y => absurd y (by decide), fun y => absurd z y.2⟩
  · rw [if_neg z]
    by_cases o : tb (gO g) (nb R C c d) = true
    · have l64 := tb_lt o
      have nz : ¬ jshl 1 (nI (nb R C c d)) &&& (b ^^^ (-1)) = 0 ↔ tb b (nb R C c d) = false := by
        have := bit_and l64 (b ^^^ (-1))
        rw [this, tb_not b l64]
        cases tb b (nb R C c d) <;> decide
      rw [if_pos o, if_pos o, nz]
      cases e : tb b (nb R C c d) with
      | false => exact ⟨fun _ => ⟨rfl, z⟩, fun _ => rfl⟩
      | true => exact ⟨fun y => absurd y (by decide), fun y => Bool.noConfusion y.1⟩
    · have zz : (0 : Int64) &&& (b ^^^ (-1)) = 0 := Int64.zero_and
      rw [if_neg o, if_neg o, zz]
      exact ⟨fun y => absurd y (by decide), fun y => absurd rfl y.1⟩
/-- the boxes behind a push -/
theorem lkA_tb {g : gT} {R C : Nat} (ok : GOk g R C) {b : Int64} {c d : Nat} (hc : c < R * C) (hd : d < 4) (o1 : tb (gO g) (nb R C c d) = true) (o2 : tb b (nb R C c d) = false) (x : Nat) : tb (lkA g b (nI c) (nI d)) x = if x = nb R C c d then true else if x = c then false else tb b x := by
  have le := ok.rc.le
  have l64 := tb_lt o1
  have eT : lkT g b (nI c) (nI d) = jshl 1 (nI (nb R C c d)) := by
    unfold lkT
    rw [mv_bit ok hc hd, if_pos o1]
    refine tb_ext fun y hy => ?_
    rw [tb_and, tb_not b hy, tb_bit l64 hy]
    by_cases w : y = nb R C c d
    · rw [decide_eq_true w, w, o2]; rfl
    · rw [decide_eq_false w]; rfl
  unfold lkA
  rw [eT]
  apply bool_iff
  by_cases hx : x < 64
  · rw [tb_or, or_t, tb_and, and_t, tb_not _ hx, tb_bit (show c < 64 by omega) hx, tb_bit l64 hx]
    by_cases w : x = nb R C c d
    · rw [if_pos w, decide_eq_true w]; exact ⟨fun _ => rfl, fun _ => Or.inr rfl⟩
    · rw [if_neg w, decide_eq_false w]
      by_cases v : x = c
      · rw [if_pos v, decide_eq_true v]
        exact ⟨fun y => y.elim (fun y => Bool.noConfusion y.2) fun y => Bool.noConfusion y, fun y => Bool.noConfusion y⟩
      · rw [if_neg v, decide_eq_false v]
        exact ⟨fun y => y.elim (fun y => y.1) fun y => Bool.noConfusion y, fun y => Or.inl ⟨y, rfl⟩⟩
  · rw [tb_big (by omega), if_neg (by omega), if_neg (by omega), tb_big (by omega)]
theorem lkA_pv {g : gT} {R C : Nat} (ok : GOk g R C) {b : Int64} {p c d : Nat} (pv : PV g b p) (hb : tb b c = true) (hd : d < 4) (o1 : tb (gO g) (nb R C c d) = true) (o2 : tb b (nb R C c d) = false) : PV g (lkA g b (nI c) (nI d)) c := by
  have co := pv.1 c hb
  have hc := ok.open_lt co
  have at' := lkA_tb ok hc hd o1 o2
  have ne : c ≠ nb R C c d := fun z => by rw [← z, hb] at o2; exact ff o2
  refine ⟨fun x hx => ?_, ?_, ?_⟩
  · rw [at'] at hx
    by_cases w : x = nb R C c d
    · rw [w]; exact o1
    · rw [if_neg w] at hx
      by_cases v : x = c
      · rw [v]; exact co
      · rw [if_neg v] at hx; exact pv.1 x hx
  · rw [pf_tb, co, at', if_neg ne, if_pos rfl]; rfl
  · rw [ct_move hb o2 (tb_lt o1) at']; exact pv.2.2
