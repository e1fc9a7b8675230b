/-! the search as a whole -/
theorem se_ok {g : gT} {R C : Nat} (ok : GOk g R C) {b : Int64} {p : Nat} {t : xT} (hM : GR (ra t 1) g R C) (hB : GB (ra t 1) b) (h3 : ra t 1 3 = nI p) (pv : PV g b p) (q : SeT) {lim : Nat} (hl : lim ≤ 1000) (wt : Bool) {M Z : Nat} (hM1 : M = 1000) (hZ : Z = 2048) (p0 : Nat → Int32) {N : Nat} (hN : 10000 ≤ N) : ∃ r u n', f_searches N t (nI lim) (bI wt) = some (r, u) ∧ (∀ k, k < 602 → ra u 1 k = ra t 1 k) ∧ NV g (ruN M Z g b (nI p) q (nI lim) wt) n' ∧ sN (ruN M Z g b (nI p) q (nI lim) wt) = nI n' ∧ n' ≤ 1000 ∧ (0 < n' → sB (ruN M Z g b (nI p) q (nI lim) wt) 0 = b ∧ sP (ruN M Z g b (nI p) q (nI lim) wt) 0 = lowF (pAr g b (nI p))) ∧
    (((r = 3 ∧ sY (ruN M Z g b (nI p) q (nI lim) wt) = true ∨ r = 4 ∧ sY (ruN M Z g b (nI p) q (nI lim) wt) = false ∧ sV (ruN M Z g b (nI p) q (nI lim) wt) = -1) ∧ FrB [1, 3, 6, 7, 8, 9, 10, 15, 16, 17] [16, 21, 26, 31, 35] t u) ∨
    (r = 0 ∧ sY (ruN M Z g b (nI p) q (nI lim) wt) = false ∧ FrB [1, 3, 6, 7, 8, 9, 10, 15, 16, 17, 18] [16, 21, 26, 31, 35, 33, 34] t u ∧ ∃ j d, j < n' ∧ sV (ruN M Z g b (nI p) q (nI lim) wt) = nI j ∧ dpL (sF (ruN M Z g b (nI p) q (nI lim) wt)) M 0 (sF (ruN M Z g b (nI p) q (nI lim) wt) j) = d ∧ d ≤ j ∧ rs u 33 = nI d ∧ rs u 34 = nI n' ∧ ∀ x, x < d → ra u 18 x = kpL (sF (ruN M Z g b (nI p) q (nI lim) wt)) (sU (ruN M Z g b (nI p) q (nI lim) wt)) d (nI j) p0 x)) := by
  unfold ruN f_searches
  obtain ⟨u1, e1, f1, c1⟩ := s_remembers t hN
  rw [e1, Option.bind_some]
  have g1 : ra u1 1 = ra t 1 := f1.a 1 rfl
  obtain ⟨u2, e2, f2, c2⟩ := s_dies (t := u1) ok (by rw [g1]; exact hM) hN
  rw [e2, Option.bind_some, Option.bind_some, Option.bind_some]
  have g2 : ra (ws (ws u2 31 0) 35 0) 1 = ra t 1 := (f2.a 1 rfl).trans g1
  have fx : FrB [1, 3, 6, 7, 8, 9, 10, 15, 16, 17] [16, 21, 26, 31, 35] t (ws (ws u2 31 0) 35 0) := (f1.toB.up (by decide) (by decide)).trans ((f2.toB.up (by decide) (by decide)).trans (Frm.ws (A := []) (K := [31, 35]) (Frm.ws (A := []) (K := [31, 35]) Frm.rf (by decide) 0) (by decide) 0 |>.toB.up (by decide) (by decide)))
  obtain ⟨u3, n1, e3, vs, f3, v3, w3, r3⟩ := st_ok ok (t := ws (ws u2 31 0) 35 0) (by rw [g2]; exact hM) (by rw [g2]; exact hB) (by rw [g2]; exact h3) pv c2 rfl rfl q hl wt hZ hN
  rw [e3, Option.bind_some]
  obtain ⟨u4, n', j, F', v4, e4, F4, vs4, le4, f4, c4, k4⟩ := ru_ok ok (M := M) hN hM1 M 0 _ n1 u3 N (by omega) (by omega) vs v3 w3
  have e4 : f_searches_L N N 30 (nI lim) (bI wt) 0 0 0 0 u3 = srEnd N F' (nI j) v4 u4 := e4
  rw [e4]
  have n0 : n1 = 0 → n' = 0 := fun z => by
    have hh := vs4.2.2.1.1.1
    have hq := vs.2.2.1.1.1
    have hb := vs4.2.2.1.1.2.1
    obtain ⟨M', rfl⟩ : ∃ M', M = M' + 1 := ⟨M - 1, by omega⟩
    have st : ∀ q : SeT, sN q = nI 0 → ruL g (M' + 1) 0 q = q := fun q e => by
      show (if sN q ≤ nI 0 then q else _) = q
      rw [e, if_pos (Int32.le_refl _)]
    rw [z] at hq
    rw [st _ hq, hq] at hh
    exact ((nI_eq (by omega) (by omega)).mp hh).symm
  generalize ruL g M 0 (adS (ru0 q (nI lim) wt (zeL Z 0 (sT q))) b (lowF (pAr g b (nI p))) (-1) 0) = Q at *
  obtain ⟨_, _, sr4, nv4, _⟩ := vs4
  have hn' : n' ≤ 1000 := sr4.1.2.1
  have c3 : ∀ k, k < 602 → ra u4 3 k = ra t 1 k := fun k hk => by
    rw [f4.1 3 (by decide), f3.1 3 (by decide)]
    show ra u2 3 k = _
    rw [f2.a 3 rfl, c1 k hk]
  obtain ⟨u5, e5, f5, c5⟩ := s_goesBack u4 hN
  have sr5 : SR Q n' lim u5 := ⟨sr4.1, sr4.2.1, sr4.2.2.1, sr4.2.2.2.1, by rw [f5.s 31 rfl]; exact sr4.2.2.2.2.1, by rw [f5.s 35 rfl]; exact sr4.2.2.2.2.2.1, fun i hi => by rw [f5.2.2.1, f5.a 15 rfl, f5.a 16 rfl, f5.a 17 rfl]; exact sr4.2.2.2.2.2.2 i hi⟩
  have F5 : FrB [1, 3, 6, 7, 8, 9, 10, 15, 16, 17] [16, 21, 26, 31, 35] t u5 := fx.trans ((f3.up (by decide) (by decide)).trans ((f4.up (by decide) (by decide)).trans (f5.toB.up (by decide) (by decide))))
  have back : ∀ k, k < 602 → ra u5 1 k = ra t 1 k := fun k hk => (c5 k hk).trans (c3 k hk)
  have root : 0 < n' → sB Q 0 = b ∧ sP Q 0 = lowF (pAr g b (nI p)) := fun h0 => by
    rcases Nat.eq_zero_or_pos n1 with z | z
    · have := n0 z; omega
    · exact ⟨(k4 0 z).1.trans (r3 z).1, (k4 0 z).2.trans (r3 z).2⟩
  unfold srEnd
  rw [e5, Option.bind_some]
  rcases c4 with ⟨rfl, vm⟩ | ⟨rfl, hj, vj, yj⟩
  · rw [if_pos rfl, sr5.2.2.2.2.2.1]
    cases hY : sY Q with
    | true =>
      rw [if_pos (show bI true = 1 from rfl), Option.bind_some]
      exact ⟨3, u5, n', rfl, back, nv4, sr4.1.1, hn', root, Or.inl ⟨Or.inl ⟨rfl, rfl⟩, F5⟩⟩
    | false =>
      rw [if_neg (show ¬ bI false = 1 by decide), Option.bind_some]
      exact ⟨4, u5, n', rfl, back, nv4, sr4.1.1, hn', root, Or.inl ⟨Or.inr ⟨rfl, rfl, vm⟩, F5⟩⟩
  · rw [if_neg (show ¬ (1 : Int32) = 0 by decide), sr5.2.2.2.2.1, Option.bind_some, Option.bind_some]
    have fw : Frm [] [33, 34] u5 (ws (ws u5 34 (nI n')) 33 0) := Frm.ws (Frm.ws Frm.rf (by decide) _) (by decide) 0
    have sr6 : SR Q n' lim (ws (ws u5 34 (nI n')) 33 0) := sr5.frm fw rfl rfl rfl rfl rfl
    obtain ⟨F2, d, x1, x2, x3, x4⟩ := dp_ok (N := N) (v3 := nI j) (g := g) j hj M 0 (ws (ws u5 34 (nI n')) 33 0) F' (by omega) (by omega) (by omega) sr6 nv4 rfl
    rw [x4]
    rw [Nat.zero_add] at x2 ⊢
    have fw7 : Frm [] [33, 34] u5 (ws (ws (ws u5 34 (nI n')) 33 0) 33 (nI d)) := Frm.ws fw (by decide) _
    have sr7 : SR Q n' lim (ws (ws (ws u5 34 (nI n')) 33 0) 33 (nI d)) := sr5.frm fw7 rfl rfl rfl rfl rfl
    obtain ⟨u8, y1, y2, y3⟩ := wy_ok (N := N) (g := g) j hj d M p0 (ws (ws (ws u5 34 (nI n')) 33 0) 33 (nI d)) F2 (by omega) x2 (by omega) sr7 nv4
    refine ⟨0, u8, n', y1, fun k hk => by rw [y2.a 1 rfl]; exact back k hk, nv4, sr4.1.1, hn', root, Or.inr ⟨rfl, yj, (F5.up (by decide) (by decide)).trans ((fw7.toB.up (by decide) (by decide)).trans (y2.toB.up (by decide) (by decide))), j, d, hj, vj, x2, x3, ?_, ?_, fun x hx => y3 x (Or.inl hx)⟩⟩
    · rw [y2.s 33 rfl]; rfl
    · rw [y2.s 34 rfl]; rfl
