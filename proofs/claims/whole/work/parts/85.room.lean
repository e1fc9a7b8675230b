/-! reading a room -/
theorem in_sd (i : Int32) : f_in i 3 8 = some (bI (sdF i)) := by
  unfold sdF
  by_cases a : i < 3
  · rw [in_f (Or.inl a), if_pos a]; rfl
  · rw [if_neg a]
    by_cases b : 8 < i
    · rw [in_f (Or.inr b), if_pos b]; rfl
    · rw [in_t (Int32.not_lt.mp a) (Int32.not_lt.mp b), if_neg b]; rfl
theorem sd_nI {k : Nat} (hk : k < 2 ^ 30) (h : sdF (nI k) = true) : 3 ≤ k ∧ k ≤ 8 := by
  unfold sdF at h
  by_cases a : nI k < 3
  · rw [if_pos a] at h; exact ff h.symm
  · rw [if_neg a] at h
    by_cases b : 8 < nI k
    · rw [if_pos b] at h; exact ff h.symm
    · refine ⟨Nat.le_of_not_lt fun y => a (nI_lt (b := 3) y (by decide)), Nat.le_of_not_lt fun y => b (nI_lt (a := 8) y (by omega))⟩
theorem pm_readRoom {c : cT} {t : xT} (h : ReL c t) {N : Nat} (hN : 10000 ≤ N) : PM [(xAE, 1)] (o_readRoom c) (f_readRoom N t) t := by
  have e0 := h.eat 0
  obtain ⟨hch, len, hl, l2, l11, hT⟩ := h.1
  have lc : (tI c).2.toNatClampNeg = len := by rw [l2, nI_clamp (by omega)]
  have tx : TX (tI c).1 len (ws (ws (ws t 9 0) 13 (-1)) 14 0) := ⟨hl, fun i hi => by
    obtain ⟨a1, ch, _, a3, a4⟩ := hT i hi
    exact ⟨a1, ch, by omega, a4⟩⟩
  obtain ⟨u, f1, f2, f3, f4⟩ := rf_ok (N := N) len 0 rClr 0 0 0 0 0 0 (ws (ws (ws t 9 0) 13 (-1)) 14 0) (N - 1 - len) (Nat.zero_add _) tx l11 SI.clr rfl rfl
  rw [show N - 1 - len + 1 + len = N by omega] at f1
  have hcl : rdL (tI (wI c ((tI c).1, 0))).1 (nI (tI c).2.toNatClampNeg) (tI c).2.toNatClampNeg 0 rClr = rdL (tI c).1 (nI len) len 0 rClr := by rw [lc]; rfl
  have fault : f_roomFault N (ws t 9 0) = some ((rdL (tI c).1 (nI len) len 0 rClr).1, u) := f1
  unfold o_readRoom f_readRoom
  rw [hcl, Option.bind_some, fault, Option.bind_some, Option.bind_some]
  have u11 : rs u 11 = nI len := (f2.s 11 rfl).trans l11
  have fr : Frm [] [13, 14] (ws (ws t 9 0) 11 0) (ws u 11 0) := by
    refine ⟨fun i hi => f2.1 i hi, fun k hk => ?_, f2.2.2.1, f2.2.2.2⟩
    have kk := f2.2.1 k hk
    have k14 : k ≠ 14 := fun q => hk (by rw [q]; decide)
    have k13 : k ≠ 13 := fun q => hk (by rw [q]; decide)
    rw [rs_ws, rs_ws]
    by_cases z : k = 11
    · rw [if_pos z, if_pos z]
    · rw [if_neg z, if_neg z, kk, rs_ws, if_neg k14, rs_ws, if_neg k13]
  have s0 : ∀ x, ReL (wT (wI c ((tI c).1, 0)) x) (ws u 11 0) := fun x => (e0.same (fr.same (by decide) (by decide))).scratch rfl rfl rfl rfl rfl rfl
  have r9 : rs (ws u 11 0) 9 = 0 := f2.s 9 rfl
  have oo : ro (ws u 11 0) = ro t := f2.2.2.2
  generalize hx : rdL (tI c).1 (nI len) len 0 rClr = res at f3 f4
  by_cases hf : res.1 = -1
  · rw [if_pos hf, hf, if_pos (show (-1 : Int32) < 0 by decide), u11]
    obtain ⟨R, C, nb, ng, sx, R1, h14, h13⟩ := f4 hf
    have tx2 : TX (tI c).1 len (ws u 11 0) := tx.frm (f2.a 5 rfl)
    have cr := cr_ok (N := N) len 0 rClr 0 0 0 0 0 0 (ws u 11 0) (N - 1 - len) (Nat.zero_add _) tx2 SI.clr (by rw [hx]; exact hf)
    rw [show N - 1 - len + 1 + len = N by omega, hx] at cr
    have cr' : f_readRoom_L N N (nI len) 0 0 0 0 (ws u 11 0) = f_readRoom_L N (N - 1 - len + 1) (nI len) (rBc res.2) (rGc res.2) (bI (!decide (rP res.2 = -1))) (nI len) (ws u 11 0) := cr
    have g14 : rs (ws u 11 0) 14 = nI R := h14
    have g13 : rs (ws u 11 0) 13 = nI C := h13
    rw [cr', u_readRoom_40, if_pos (Int32.le_refl _), g14, g13, in_sd, in_sd, Option.bind_some, Option.bind_some]
    have sx' := sx
    obtain ⟨⟨a1, a2, a3, a4, a5, a6⟩, ⟨b1, b2, b3, b4, b5, b6⟩, _, _, _, _, _, d5, _⟩ := sx'
    have bad : ∀ {A : mO}, rRoom res.2 = false → PM [(xAE, 1)] (if rRoom (tT (wT (wI c ((tI c).1, 0)) res.2)) = true then A else .inr (xAE, wT (wI c ((tI c).1, 0)) res.2)) (Option.bind (f_fails (ws u 11 0) 1) fun r_169 => some (r_169.1, r_169.2)) t := fun {A} q => by
      rw [if_neg (show ¬ rRoom (tT (wT (wI c ((tI c).1, 0)) res.2)) = true by show ¬ rRoom res.2 = true; rw [q]; decide)]
      exact PM.thr (u := ws (ws u 11 0) 9 1) (r := 0) rfl oo rfl mem0 ((s0 _).same (same9 _))
    have room : rRoom res.2 = if sdF (nI R) = true then (if sdF (nI C) = true then (if rP res.2 = -1 then false else if nI nb ≤ 0 then false else if nI ng < nI nb then false else true) else false) else false := by unfold rRoom; rw [a1, a2, a5, a6]
    cases c1 : sdF (nI R) with
    | false => rw [if_pos (show bI false = 0 from rfl)]; exact bad (by rw [room, c1]; rfl)
    | true =>
    cases c2 : sdF (nI C) with
    | false => rw [if_neg (show ¬ bI true = 0 by decide), if_pos (show bI false = 0 from rfl)]; exact bad (by rw [room, c1, c2]; rfl)
    | true =>
    rw [if_neg (show ¬ bI true = 0 by decide), if_neg (show ¬ bI true = 0 by decide)]
    by_cases hp : rP res.2 = -1
    · rw [if_pos (show bI (!decide (rP res.2 = -1)) = 0 by rw [decide_eq_true hp]; rfl)]
      exact bad (by rw [room, c1, c2, if_pos rfl, if_pos rfl, if_pos hp])
    rw [if_neg (show ¬ bI (!decide (rP res.2 = -1)) = 0 by rw [decide_eq_false hp]; decide)]
    by_cases hb : nb = 0
    · rw [a5, if_pos (show nI nb = (0 : Int32) by rw [hb]; rfl)]
      exact bad (by rw [room, c1, c2, if_pos rfl, if_pos rfl, if_neg hp, if_pos (show nI nb ≤ (0 : Int32) by rw [hb]; decide)])
    rw [a5, if_neg (show ¬ nI nb = (0 : Int32) from nI_ne (b := 0) (by omega) (by decide) hb), a6]
    have nb0 : ¬ nI nb ≤ (0 : Int32) := fun q => Int32.not_lt.mpr q (nI_lt (a := 0) (by omega) (by omega))
    by_cases hg : nb ≤ ng
    · have ok : rRoom res.2 = true := by rw [room, c1, c2, if_pos rfl, if_pos rfl, if_neg hp, if_neg nb0, if_neg (fun q => Int32.not_lt.mpr (nI_le hg (by omega)) q)]
      rw [if_pos (nI_le hg (by omega)), if_pos (show rRoom (tT (wT (wI c ((tI c).1, 0)) res.2)) = true from ok)]
      have rc : RC R C := ⟨sd_nI (by omega) c1, sd_nI (by omega) c2⟩
      have le := rc.le
      have rn : (rR (tT (wT (wI c ((tI c).1, 0)) res.2))).toNatClampNeg = R := by
        show (rR res.2).toNatClampNeg = R
        rw [a1, nI_clamp (by omega)]
      obtain ⟨v, v1, v2, v3, v4, v5, v6⟩ := lz_ok (N := N) (nI len) 602 0 (N - 603) (ws u 11 0) (by omega) (fun j hj => absurd hj (Nat.not_lt_zero j))
      rw [show N - 603 + 1 + 602 = N by omega] at v1
      have lr0 : LR rClr v := by
        refine ⟨fun i hi => ?_, fun i hi => ?_, Or.inl rfl⟩
        · rw [v6 _ (by omega) (by omega), show rO rClr = 0 from rfl, tb_0]; rfl
        · rw [v6 _ (by omega) (by omega), show rB rClr = 0 from rfl, tb_0]; rfl
      obtain ⟨y, y1, y2, y3, y4, y5⟩ := la_ok (N := N) (M := R * C) le len 0 rClr 0 0 0 0 0 0 v (N - 604 - len) (Nat.zero_add _) (tx2.frm (v2.a 5 rfl)) SI.clr (by rw [hx]; exact hf) (by rw [hx]; exact a4) lr0
      rw [show N - 604 - len + 1 + len = N - 603 by omega, hx] at y1
      rw [hx] at y4
      have z1 : f_lays N (ws u 11 0) (nI len) = some (nI (fb_ct (tb (rO res.2)) 64), y) := by
        show f_lays_L N N 2 (nI len) 0 0 0 (ws u 11 0) = _
        exact v1.trans y1
      obtain ⟨p, p1, p2⟩ := bg_ok (q := tG (wT (wI c ((tI c).1, 0)) res.2)) sx rc hp
      have fy : Frm [1] [5, 13, 14] (ws (ws t 9 0) 11 0) y := ((fr.up (by decide) (by decide)).trans (v2.up (by decide) (by decide))).trans (y2.up (by decide) (by decide))
      have y9 : rs y 9 = 0 := fy.s 9 rfl
      rw [z1, Option.bind_some, rn]
      have bc : bcF (rO res.2) = nI (fb_ct (tb (rO res.2)) 64) := pc_all _
      refine PM.ans (r := nI (fb_ct (tb (rO res.2)) 64)) (u := y) rfl fy.2.2.2 (show (Sum.inl (some (Value.int (bcF (rO res.2))), _) : mO) = _ by rw [bc]) y9 ?_
      obtain ⟨i1, i2, i3, _, i5⟩ := e0
      refine ⟨?_, ?_, ?_, Or.inr ⟨R, C, p, 0, p2, by decide, ?_, ?_⟩, ?_⟩
      · show ITx (wI c ((tI c).1, 0)) y
        unfold ITx; rw [fy.s 11 rfl, fy.a 5 rfl]; exact i1
      · show KTx (wI c ((tI c).1, 0)) y
        unfold KTx; rw [fy.s 6 rfl, fy.s 7 rfl, fy.s 8 rfl]; exact i2
      · show OTx (wI c ((tI c).1, 0)) y
        unfold OTx; rw [fy.s 33 rfl, fy.s 34 rfl, fy.a 18 rfl]; exact i3
      · refine ⟨⟨(y5 0 (by decide) (by decide)).trans v3, (y5 1 (by decide) (by decide)).trans (v4.trans g14), (y5 2 (by decide) (by decide)).trans (v5.trans g13), fun i hi => ?_⟩, y4.2.1, ?_, ?_, fun i hi => absurd hi (Nat.not_lt_zero i)⟩
        · rw [y4.1 i hi]; rfl
        · rw [y4.2.2.resolve_left hp]; exact p1
        · rw [y5 4 (by decide) (by decide), v6 4 (by decide) (by decide)]; rfl
      · exact ⟨0, by decide, rfl, y3, fun _ => 0, fun _ => 0, fun _ _ _ q => absurd q (Nat.not_lt_zero _), fun i hi => absurd hi (Nat.not_lt_zero i)⟩
      · show STx (wI c ((tI c).1, 0)) y
        unfold STx; rw [fy.s 3 rfl, fy.a 2 rfl]; exact i5
    · rw [if_neg (nI_ge (show ng < nb by omega) (by omega))]
      exact bad (by rw [room, c1, c2, if_pos rfl, if_pos rfl, if_neg hp, if_neg nb0, if_pos (nI_lt (by omega) (by omega))])
  · rw [if_neg hf, if_neg (f3.resolve_left hf)]
    exact PM.ans (u := ws u 11 0) rfl oo rfl r9 (s0 _)
