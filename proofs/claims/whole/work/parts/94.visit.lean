/-! the search: a visit as the class makes it -/
theorem m_visits {g : gT} {R C : Nat} (ok : GOk g R C) {q : SeT} {n lim i : Nat} {t : xT} (h : VS g R C q n lim t) (hi : i < n) {wt : Bool} (hw : sW q = wt) (hs : ¬ sB q i &&& (gG g ^^^ (-1)) = 0) {N : Nat} (hN : 10000 ≤ N) : ∃ u n', f_visits N t (nI i) (nI lim) (bI wt) = some u ∧ VS g R C (viS g q (nI i)) n' lim u ∧ n ≤ n' ∧ Kp q (viS g q (nI i)) n ∧ FrB [1, 6, 7, 10, 15, 16, 17] [16, 21, 26, 31, 35] t u := by
  have le := ok.rc.le
  have hn : n ≤ 1000 := h.2.2.1.1.2.1
  have h1000 : i < 1000 := by omega
  have la : longAtF 1000 (sB q) (nI i) = sB q i := longAt_at h1000 (by decide)
  have lp : intAtF 1000 (sP q) (nI i) = sP q i := intAt_at h1000 (by decide)
  obtain ⟨⟨l, l1, pv⟩, _, _⟩ := h.2.2.2.1 i hi
  have vs : viS g q (nI i) = viC g (nI i) (pAr g (sB q i) (sP q i)) (sB q i) 64 0 q := by
    unfold viS
    rw [la, lp, if_neg hs, ar_eq]
  have cut : viC g (nI i) (pAr g (sB q i) (sP q i)) (sB q i) 64 0 q = viC g (nI i) (pAr g (sB q i) (sP q i)) (sB q i) (R * C) 0 q := by
    obtain ⟨e, he⟩ : ∃ e, 64 = R * C + e := ⟨64 - R * C, by omega⟩
    have : viC g (nI i) (pAr g (sB q i) (sP q i)) (sB q i) (R * C + e) 0 q = viC g (nI i) (pAr g (sB q i) (sP q i)) (sB q i) (R * C) 0 q := by
      rw [viC_add]
      exact viC_none e _ _ fun c a b => by
        rw [has_tb _ (by omega)]
        cases z : tb (sB q i) c with
        | false => rfl
        | true => have := ok.open_lt (pv.1 c z); omega
    rw [← he] at this
    exact this
  obtain ⟨u, n', a1, a2, a3, a4, a5⟩ := vc_ok ok hN (R * C) 0 q n t N (Nat.zero_add _) (by omega) h hi rfl rfl hw
  rw [vs, cut]
  exact ⟨u, n', a1, a2, a3, a4, a5⟩
