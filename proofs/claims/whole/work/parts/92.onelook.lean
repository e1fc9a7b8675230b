/-! the search: one look in the model -/
def lkB (N : Nat) (t : xT) (v1 v2 v3 v4 v5 r_43 : Int32) : Option xT := if r_43 = 0 then (some t)
            else (Option.bind (f_reasonForPush N t v4 v5) fun r_54 =>
              if r_54.1 ≤ 0 then (if inB (74 + v4) 602 = true then (Option.bind (some (wa r_54.2 1 (upd (ra r_54.2 1) (Int32.toNatClampNeg (74 + v4)) 0))) fun t_73 =>
                Option.bind (f_beside t_73 v4 v5) fun r_85 =>
                if inB (74 + r_85) 602 = true then (Option.bind (some (wa t_73 1 (upd (ra t_73 1) (Int32.toNatClampNeg (74 + r_85)) 1))) fun t_90 =>
                Option.bind (some (wa t_90 1 (upd (ra t_90 1) (Int32.toNatClampNeg 3) v4))) fun t_98 =>
                if v3 = 0 then (Option.bind (f_finds N t_98 v1 ((4 * v4) + v5) v2) fun r_120 =>
                  some r_120)
                else (Option.bind (f_stuckFor N t_98) fun r_104 =>
                  if r_104.1 = 0 then (Option.bind (f_finds N r_104.2 v1 ((4 * v4) + v5) v2) fun r_120 =>
                    some r_120)
                  else (some r_104.2))) else none) else none)
              else (some r_54.2))
def VS (g : gT) (R C : Nat) (q : SeT) (n lim : Nat) (t : xT) : Prop := GR (ra t 1) g R C ∧ (∃ b0, GB (ra t 1) b0 ∧ ∀ c, tb b0 c = true → c < R * C) ∧ SR q n lim t ∧ NV g q n ∧ ∀ x, x < R * C → ra t 9 x = bI (tb (gD g) x)
theorem ar_eq (g : gT) (b : Int64) (c : Int32) : gSp g (jshl 1 c) (gO g &&& (b ^^^ (-1))) = pAr g b c := rfl
theorem lk_ok {g : gT} {R C : Nat} (ok : GOk g R C) {q : SeT} {n lim : Nat} {t : xT} (h : VS g R C q n lim t) {i : Nat} (hi : i < n) {c d : Nat} (hc : c < R * C) (hd : d < 4) {N : Nat} (hN : 10000 ≤ N) : ∃ u0 u n', f_takes N t (nI i) = some u0 ∧ f_isBox u0 (nI c) = some (bI (tb (sB q i) c)) ∧ lkB N u0 (nI i) (nI lim) (bI (sW q)) (nI c) (nI d) (bI (tb (sB q i) c)) = some u ∧ VS g R C (if tb (sB q i) c = true then lkS g q (nI i) (pAr g (sB q i) (sP q i)) (nI c) (nI d) else q) n' lim u ∧ n ≤ n' ∧ Kp q (if tb (sB q i) c = true then lkS g q (nI i) (pAr g (sB q i) (sP q i)) (nI c) (nI d) else q) n ∧ FrB [1, 6, 7, 10, 15, 16, 17] [16, 21, 26, 31, 35] t u := by
  obtain ⟨hM, ⟨b0, hB0, hb0⟩, sr, nv, hD⟩ := h
  have le := ok.rc.le
  have hn : n ≤ 1000 := sr.1.2.1
  have h1000 : i < 1000 := by omega
  obtain ⟨⟨l, l1, pv⟩, _, _⟩ := nv i hi
  obtain ⟨s1, s2, _, _⟩ := sr.2.2.2.2.2.2 i hi
  have sub : ∀ x, tb (sB q i) x = true → x < R * C := fun x hx => ok.open_lt (pv.1 x hx)
  obtain ⟨u0, e0, f0, gr, gb, g3, _⟩ := m_takes ok.rc hM hB0 hb0 h1000 (by rw [s1]; exact sub) hN
  rw [s1] at gb
  rw [s2, l1] at g3
  have sr0 := sr.frm f0 (f0.a 15 rfl) (f0.a 16 rfl) (f0.a 17 rfl) (f0.s 31 rfl) (f0.s 35 rfl)
  have hD0 : ∀ x, x < R * C → ra u0 9 x = bI (tb (gD g) x) := fun x hx => by rw [f0.a 9 rfl]; exact hD x hx
  have hb := m_boxI gb (show c < 64 by omega)
  have vs0 : VS g R C q n lim u0 := ⟨gr, ⟨sB q i, gb, sub⟩, sr0, nv, hD0⟩
  have ff0 : FrB [1, 6, 7, 10, 15, 16, 17] [16, 21, 26, 31, 35] t u0 := f0.toB.up (by decide) (by decide)
  cases hbc : tb (sB q i) c with
  | false =>
    rw [hbc] at hb
    exact ⟨u0, u0, n, e0, hb, rfl, vs0, Nat.le_refl n, Kp.rf, ff0⟩
  | true =>
    rw [hbc] at hb
    obtain ⟨u1, e1, f1, _⟩ := m_rfp ok gr gb g3 pv.2.1 hc hd hN
    have la : longAtF 1000 (sB q) (nI i) = sB q i := longAt_at h1000 (by decide)
    have ff1 : FrB [1, 6, 7, 10, 15, 16, 17] [16, 21, 26, 31, 35] t u1 := ff0.trans (f1.toB.up (by decide) (by decide))
    have gr1 : GR (ra u1 1) g R C := gr.of (f1.a 1 rfl)
    have gb1 : GB (ra u1 1) (sB q i) := gb.of (f1.a 1 rfl)
    have sr1 := sr0.frm f1 (f1.a 15 rfl) (f1.a 16 rfl) (f1.a 17 rfl) (f1.s 31 rfl) (f1.s 35 rfl)
    have hD1 : ∀ x, x < R * C → ra u1 9 x = bI (tb (gD g) x) := fun x hx => by rw [f1.a 9 rfl]; exact hD0 x hx
    have it := lk_iff ok (sB q i) hc hd (nI l)
    rw [if_pos rfl, l1]
    suffices core : ∃ u n', lkB N u0 (nI i) (nI lim) (bI (sW q)) (nI c) (nI d) (bI true) = some u ∧ VS g R C (lkS g q (nI i) (pAr g (sB q i) (nI l)) (nI c) (nI d)) n' lim u ∧ n ≤ n' ∧ Kp q (lkS g q (nI i) (pAr g (sB q i) (nI l)) (nI c) (nI d)) n ∧ FrB [1, 6, 7, 10, 15, 16, 17] [16, 21, 26, 31, 35] t u by
      obtain ⟨u, n', z1, z2, z3, z4, z5⟩ := core
      exact ⟨u0, u, n', e0, hb, z1, z2, z3, z4, z5⟩
    unfold lkB
    rw [if_neg (show ¬ bI true = 0 by decide), e1, Option.bind_some]
    by_cases h0 : pPr g (sB q i) (nI l) (nI c) (nI d) = 0
    · obtain ⟨n1, n2⟩ := it.mp h0
      obtain ⟨_, _, p3, _⟩ := pPr_0 ok pv.2.1 hc hd h0
      obtain ⟨o1, o2⟩ := pBr_0 ok hc hd p3
      have el := tb_lt o1
      have at' := lkA_tb ok hc hd o1 o2
      have pvA := lkA_pv ok pv hbc hd o1 o2
      have k1 : (74 : Int32) + nI c = nI (74 + c) := nI_add 74 c
      have k2 : (74 : Int32) + nI (nb R C c d) = nI (74 + nb R C c d) := nI_add 74 _
      have k4 : (4 : Int32) * nI c + nI d = nI (4 * c + d) := by
        rw [show (4 : Int32) * nI c = nI (4 * c) from pk_mul 4 c, nI_add]
      have lks : lkS g q (nI i) (pAr g (sB q i) (nI l)) (nI c) (nI d) = if sW q = true then (if gSr g (lkA g (sB q i) (nI c) (nI d)) = 0 then adS q (lkA g (sB q i) (nI c) (nI d)) (lowF (pAr g (lkA g (sB q i) (nI c) (nI d)) (nI c))) (nI i) (nI (4 * c + d)) else q) else adS q (lkA g (sB q i) (nI c) (nI d)) (lowF (pAr g (lkA g (sB q i) (nI c) (nI d)) (nI c))) (nI i) (nI (4 * c + d)) := by
        unfold lkS
        rw [la, if_neg n1, if_neg n2, ar_eq, k4]
      rw [h0, if_pos le00, k1, if_pos (inB_nI (show 74 + c < 602 by omega) (by decide)), Option.bind_some, nI_clamp (show 74 + c < 2 ^ 31 by omega)]
      generalize ht : wa u1 1 (upd (ra u1 1) (74 + c) 0) = t1
      have a1 : ∀ j, ra t1 1 j = if j = 74 + c then 0 else ra u1 1 j := fun j => by rw [← ht, ra_wa, if_pos rfl, upd_at]
      have grt : GR (ra t1 1) g R C := ⟨by rw [a1, if_neg (by omega)]; exact gr1.1, by rw [a1, if_neg (by omega)]; exact gr1.2.1, by rw [a1, if_neg (by omega)]; exact gr1.2.2.1, fun x hx => by rw [a1, if_neg (by omega)]; exact gr1.2.2.2 x hx⟩
      have ft : Frm [1] [] u1 t1 := by rw [← ht]; exact Frm.wa Frm.rf (by decide) _
      rw [m_bes ok.rc grt hc hd, Option.bind_some, bz_nI el, k2, if_pos (inB_nI (show 74 + nb R C c d < 602 by omega) (by decide)), Option.bind_some, Option.bind_some, nI_clamp (show 74 + nb R C c d < 2 ^ 31 by omega), cl_3, k4]
      generalize ht2 : wa (wa t1 1 (upd (ra t1 1) (74 + nb R C c d) 1)) 1 (upd (ra (wa t1 1 (upd (ra t1 1) (74 + nb R C c d) 1)) 1) 3 (nI c)) = t2
      have a2 : ∀ j, ra t2 1 j = if j = 3 then nI c else if j = 74 + nb R C c d then 1 else if j = 74 + c then 0 else ra u1 1 j := fun j => by rw [← ht2, ra_wa, if_pos rfl, upd_at, ra_wa, if_pos rfl, upd_at, a1]
      have gr2 : GR (ra t2 1) g R C := ⟨by rw [a2, if_neg (by omega), if_neg (by omega), if_neg (by omega)]; exact gr1.1, by rw [a2, if_neg (by omega), if_neg (by omega), if_neg (by omega)]; exact gr1.2.1, by rw [a2, if_neg (by omega), if_neg (by omega), if_neg (by omega)]; exact gr1.2.2.1, fun x hx => by rw [a2, if_neg (by omega), if_neg (by omega), if_neg (by omega)]; exact gr1.2.2.2 x hx⟩
      have gb2 : GB (ra t2 1) (lkA g (sB q i) (nI c) (nI d)) := fun x hx => by
        rw [a2, if_neg (by omega), at']
        by_cases w : x = nb R C c d
        · rw [if_pos (by omega), if_pos w]; rfl
        · rw [if_neg (by omega), if_neg w]
          by_cases v : x = c
          · rw [if_pos (by omega), if_pos v]; rfl
          · rw [if_neg (by omega), if_neg v]; exact gb1 x hx
      have g32 : ra t2 1 3 = nI c := by rw [a2, if_pos rfl]
      have f2 : Frm [1] [] u1 t2 := by rw [← ht2]; exact (ft.wa (by decide) _).wa (by decide) _
      have sr2 := sr1.frm f2 (f2.a 15 rfl) (f2.a 16 rfl) (f2.a 17 rfl) (f2.s 31 rfl) (f2.s 35 rfl)
      have hD2 : ∀ x, x < R * C → ra t2 9 x = bI (tb (gD g) x) := fun x hx => by rw [f2.a 9 rfl]; exact hD1 x hx
      have ff2 : FrB [1, 6, 7, 10, 15, 16, 17] [16, 21, 26, 31, 35] t t2 := ff1.trans (f2.toB.up (by decide) (by decide))
      have subA : ∀ x, tb (lkA g (sB q i) (nI c) (nI d)) x = true → x < R * C := fun x hx => ok.open_lt (pvA.1 x hx)
      have fin : ∀ t3, Frm [10] [21] t2 t3 → ∃ u n', (Option.bind (f_finds N t3 (nI i) (nI (4 * c + d)) (nI lim)) fun r_120 => some r_120) = some u ∧ VS g R C (adS q (lkA g (sB q i) (nI c) (nI d)) (lowF (pAr g (lkA g (sB q i) (nI c) (nI d)) (nI c))) (nI i) (nI (4 * c + d))) n' lim u ∧ n ≤ n' ∧ Kp q (adS q (lkA g (sB q i) (nI c) (nI d)) (lowF (pAr g (lkA g (sB q i) (nI c) (nI d)) (nI c))) (nI i) (nI (4 * c + d))) n ∧ FrB [1, 6, 7, 10, 15, 16, 17] [16, 21, 26, 31, 35] t u := fun t3 f3 => by
        have sr3 := sr2.frm f3 (f3.a 15 rfl) (f3.a 16 rfl) (f3.a 17 rfl) (f3.s 31 rfl) (f3.s 35 rfl)
        obtain ⟨u, n', z1, z2, z3, z4⟩ := m_finds ok (gr2.of (f3.a 1 rfl)) (gb2.of (f3.a 1 rfl)) subA (by rw [f3.a 1 rfl]; exact g32) pvA.2.1 sr3 (nI i) (nI (4 * c + d)) (nI (4 * c + d)) (fun _ => rfl) hN
        obtain ⟨ll, ll1, ll2⟩ := low_pv ok pvA
        rw [ll1] at z2 ⊢
        obtain ⟨w1, w2⟩ := ad_keep sr.1 sr.2.1 sr.2.2.2.1 nv ll2 hi (show 4 * c + d < 256 by omega) ⟨hd, hbc, by rw [l1]; exact h0, rfl, ll1.symm⟩ z2.1
        have u1e : ra u 1 = ra t2 1 := (z4.1 1 (by decide)).trans (f3.a 1 rfl)
        refine ⟨u, n', by rw [z1]; rfl, ⟨by rw [u1e]; exact gr2, ⟨_, by rw [u1e]; exact gb2, subA⟩, z2, w1, fun x hx => ?_⟩, z3, w2, (ff2.trans (f3.toB.up (by decide) (by decide))).trans (z4.up (by decide) (by decide))⟩
        rw [z4.1 9 (by decide), f3.a 9 rfl]; exact hD2 x hx
      rw [lks]
      cases hW : sW q with
      | false =>
        rw [if_pos (show bI false = 0 from rfl), if_neg (by decide)]
        obtain ⟨u, n', z1, z2, z3, z4, z5⟩ := fin t2 Frm.rf
        exact ⟨u, n', z1, z2, z3, z4, z5⟩
      | true =>
        rw [if_neg (show ¬ bI true = 0 by decide), if_pos rfl]
        obtain ⟨u3, y1, y2, _⟩ := s_stuckFor ok gr2 gb2 pvA.1 hD2 hN
        rw [y1, Option.bind_some]
        by_cases hs : gSr g (lkA g (sB q i) (nI c) (nI d)) = 0
        · rw [if_pos hs, if_pos hs]
          obtain ⟨u, n', z1, z2, z3, z4, z5⟩ := fin u3 y2
          exact ⟨u, n', z1, z2, z3, z4, z5⟩
        · rw [if_neg hs, if_neg hs]
          have sr3 := sr2.frm y2 (y2.a 15 rfl) (y2.a 16 rfl) (y2.a 17 rfl) (y2.s 31 rfl) (y2.s 35 rfl)
          exact ⟨u3, n, rfl, ⟨gr2.of (y2.a 1 rfl), ⟨_, gb2.of (y2.a 1 rfl), subA⟩, sr3, nv, fun x hx => by rw [y2.a 9 rfl]; exact hD2 x hx⟩, Nat.le_refl n, Kp.rf, ff2.trans (y2.toB.up (by decide) (by decide))⟩
    · have lks : lkS g q (nI i) (pAr g (sB q i) (nI l)) (nI c) (nI d) = q := by
        unfold lkS
        rw [la]
        by_cases z : lkT g (sB q i) (nI c) (nI d) = 0
        · rw [if_pos z]
        · rw [if_neg z, if_pos (Classical.byContradiction fun y => h0 (it.mpr ⟨z, y⟩))]
      rw [if_neg ((pPr_or _ _ _ _ _).resolve_left h0), lks]
      exact ⟨u1, n, rfl, ⟨gr1, ⟨_, gb1, sub⟩, sr1, nv, hD1⟩, Nat.le_refl n, Kp.rf, ff1⟩
