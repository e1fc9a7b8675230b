/-! a step that is not refused -/
theorem pSr_0 {g : gT} {R C : Nat} (ok : GOk g R C) {b : Int64} {p d : Nat} (hp : p < R * C) (hd : d < 4) (h : pSr g b (nI p) (nI d) = 0) : tb (gO g) (nb R C p d) = true ∧ (tb b (nb R C p d) = true → tb (gO g) (nb R C (nb R C p d) d) = true ∧ tb b (nb R C (nb R C p d) d) = false) := by
  rw [pSr_eq ok b hp hd] at h
  cases h1 : tb (gO g) (nb R C p d) with
  | false => rw [h1] at h; exact absurd (show (1 : Int32) = 0 from h) (by decide)
  | true =>
    refine ⟨rfl, fun h2 => ?_⟩
    rw [h1, h2] at h
    simp only [if_true] at h
    rw [pBr_eq ok b (ok.open_lt h1) hd] at h
    cases h3 : tb (gO g) (nb R C (nb R C p d) d) with
    | false => rw [h3] at h; exact absurd (show (2 : Int32) = 0 from h) (by decide)
    | true =>
      cases h4 : tb b (nb R C (nb R C p d) d) with
      | false => exact ⟨rfl, rfl⟩
      | true => rw [h3, h4] at h; exact absurd (show (3 : Int32) = 0 from h) (by decide)
theorem upd_at (f : Nat → Int32) (k : Nat) (x : Int32) (j : Nat) : upd f k x j = if j = k then x else f j := by
  by_cases h : j = k
  · rw [if_pos h, h, pk_us]
  · rw [if_neg h, pk_un h]
/-- where the boxes are behind a step -/
theorem pMb_eq {g : gT} {R C : Nat} (ok : GOk g R C) {b : Int64} {p d : Nat} (hp : p < R * C) (hd : d < 4) (h : pSr g b (nI p) (nI d) = 0) (x : Nat) : tb (pMb g b (nI p) (nI d)) x = if tb b (nb R C p d) = true then (if x = nb R C (nb R C p d) d then true else if x = nb R C p d then false else tb b x) else tb b x := by
  obtain ⟨h1, h2⟩ := pSr_0 ok hp hd h
  unfold pMb
  rw [pAh_eq ok hp hd h1]
  have el := ok.open_lt h1
  have e64 := tb_lt h1
  have ba := bit_and e64 b
  cases h3 : tb b (nb R C p d) with
  | false => rw [if_pos (ba.mpr h3)]; rfl
  | true =>
    rw [if_neg (fun z => by rw [ba.mp z] at h3; cases h3)]
    obtain ⟨h4, h5⟩ := h2 h3
    rw [mv_bit ok el hd, if_pos h4]
    simp only [if_true]
    have ne := nb_ne ok.rc el hd
    by_cases hx : x < 64
    · rw [tb_or, tb_andn, tb_bit e64 hx, tb_bit (tb_lt h4) hx]
      by_cases z : x = nb R C (nb R C p d) d
      · rw [if_pos z, decide_eq_true z]; simp
      · rw [if_neg z, decide_eq_false z, Bool.or_false]
        by_cases w : x = nb R C p d
        · rw [if_pos w, decide_eq_true w]; simp
        · rw [if_neg w, decide_eq_false w]; simp
    · rw [tb_big (show 64 ≤ x by omega), if_neg (by have := tb_lt h4; omega), if_neg (by omega), tb_big (show 64 ≤ x by omega)]
theorem PV.step {g : gT} {R C : Nat} (ok : GOk g R C) {b : Int64} {p d : Nat} (h : PV g b p) (hd : d < 4) (hr : pSr g b (nI p) (nI d) = 0) : PV g (pMb g b (nI p) (nI d)) (nb R C p d) := by
  have hp := h.rc ok
  obtain ⟨h1, h2⟩ := pSr_0 ok hp hd hr
  have mb := pMb_eq ok hp hd hr
  obtain ⟨v1, v2, v3⟩ := h
  have el := ok.open_lt h1
  have ne := nb_ne ok.rc el hd
  refine ⟨fun c hc => ?_, ?_, ?_⟩
  · rw [mb c] at hc
    cases h3 : tb b (nb R C p d) with
    | false => rw [h3] at hc; exact v1 c hc
    | true =>
      rw [h3] at hc
      simp only [if_true] at hc
      by_cases z : c = nb R C (nb R C p d) d
      · rw [z]; exact (h2 h3).1
      · rw [if_neg z] at hc
        by_cases w : c = nb R C p d
        · rw [if_pos w] at hc; cases hc
        · rw [if_neg w] at hc; exact v1 c hc
  · rw [pf_tb, h1, mb, Bool.true_and]
    cases h3 : tb b (nb R C p d) with
    | false => simp
    | true => simp only [if_true]; rw [if_neg (fun z => ne z.symm)]; rfl
  · cases h3 : tb b (nb R C p d) with
    | false =>
      have : tb (pMb g b (nI p) (nI d)) = tb b := by funext x; rw [mb x, h3]; rfl
      rw [this]; exact v3
    | true =>
      rw [ct_move h3 (h2 h3).2 (tb_lt (h2 h3).1) fun x => by rw [mb x, h3]; rfl]; exact v3
theorem low_ah {g : gT} {R C : Nat} (ok : GOk g R C) {p d : Nat} (hp : p < R * C) (hd : d < 4) (h : tb (gO g) (nb R C p d) = true) : lowF (pAh g (nI p) (nI d)) = nI (nb R C p d) := by
  rw [pAh_eq ok hp hd h, low_one (tb_lt h)]
theorem codF_t : ∀ d, d < 4 → (codF (nI d) false = nI d ∧ codF (nI d) true = nI (d + 4)) := by decide +kernel
/-- the class's game behind a step -/
theorem GI.step {q : GmT} {R C p n d : Nat} (h : GI q R C p n) (hd : d < 4) (hr : pSr (qG q) (qN q).1 (nI p) (nI d) = 0) (hn : n + 1 < 2 ^ 30) : GI (mkQ q (nI d)) R C (nb R C p d) (n + 1) ∧ (∀ i, i < n → qR (mkQ q (nI d)) i = qR q i) ∧ (n < 400 → qR (mkQ q (nI d)) n = codF (nI d) (tb (qN q).1 (nb R C p d))) := by
  obtain ⟨ok, h1, h2, h3, h4, h5, h6⟩ := h
  have hp := h4.rc ok
  obtain ⟨o1, o2⟩ := pSr_0 ok hp hd hr
  have e1 : (qN (mkQ q (nI d))) = (pMb (qG q) (qN q).1 (nI p) (nI d), lowF (pAh (qG q) (nI p) (nI d))) := by
    show (pMb (qG q) (qN q).1 (qN q).2 (nI d), lowF (pAh (qG q) (qN q).2 (nI d))) = _
    rw [h1]
  have mp := pMp_eq ok (qN q).1 hp hd o1
  have e2 : qR (mkQ q (nI d)) = setIntF 400 (qR q) (nI n) (codF (nI d) (tb (qN q).1 (nb R C p d))) := by
    show setIntF 400 (qR q) (qC q) (codF (nI d) (pMp (qG q) (qN q).1 (qN q).2 (nI d))) = _
    rw [h1, h2, mp]
  have old : ∀ i, i < n → qR (mkQ q (nI d)) i = qR q i := fun i hi => by
    rw [e2]
    rcases Nat.lt_or_ge n 400 with z | z
    · rw [setI_at z (by decide), pk_un (by omega)]
    · rw [setI_out z (by omega)]
  have new : n < 400 → qR (mkQ q (nI d)) n = codF (nI d) (tb (qN q).1 (nb R C p d)) := fun z => by
    rw [e2, setI_at z (by decide), pk_us]
  refine ⟨⟨ok, ?_, ?_, hn, ?_, fun i hi hi4 => ?_, fun hn4 => ?_⟩, old, new⟩
  · rw [e1]; exact low_ah ok hp hd o1
  · show qC q + 1 = _; rw [h2, nI_1]
  · rw [e1]; exact h4.step ok hd hr
  · by_cases z : i = n
    · subst z
      rw [new hi4]
      obtain ⟨c1, c2⟩ := codF_t d hd
      cases tb (qN q).1 (nb R C p d) with
      | false => exact ⟨d, by omega, c1⟩
      | true => exact ⟨d + 4, by omega, c2⟩
    · rw [old i (by omega)]; exact h5 i (by omega) hi4
  · show rp (qG q) (qR (mkQ q (nI d))) (qS q) (n + 1) = _
    unfold rp
    rw [rp_cong n old, h6 (by omega), Option.bind_some, new (by omega), h1]
    obtain ⟨c1, c2, c3, c4, c5⟩ := cd_t d hd
    have key : codF (nI d) (tb (qN q).1 (nb R C p d)) &&& 3 = nI d ∧ decide (4 ≤ codF (nI d) (tb (qN q).1 (nb R C p d))) = tb (qN q).1 (nb R C p d) := by
      unfold codF
      cases tb (qN q).1 (nb R C p d) with
      | false => exact ⟨c1, c3⟩
      | true => exact ⟨c2, c4⟩
    rw [key.1, key.2]
    have pl : pLr (qG q) (qN q).1 (nI p) (nI d) (tb (qN q).1 (nb R C p d)) = 0 := by
      unfold pLr
      rw [if_pos hr, pAh_eq ok hp hd o1]
      have ba := bit_and (tb_lt o1) (qN q).1
      cases h3 : tb (qN q).1 (nb R C p d) with
      | false => rw [if_pos (ba.mpr h3)]; rfl
      | true => rw [if_neg (fun z => by rw [ba.mp z] at h3; cases h3)]; rfl
    rw [if_pos pl, e1]
/-- .. and the model's -/
theorem m_goes {t : xT} {q : GmT} {R C p n d : Nat} (h : GI q R C p n) (hq : RQ (ra t 1) (qG q) R C (qN q).1 p n (qR q)) (hd : d < 4) (hr : pSr (qG q) (qN q).1 (nI p) (nI d) = 0) (hn : n + 1 < 2 ^ 30) : ∃ u, f_goes t (nI d) = some (bI (tb (qN q).1 (nb R C p d)), u) ∧ Frm [1] [] t u ∧ RQ (ra u 1) (qG (mkQ q (nI d))) R C (qN (mkQ q (nI d))).1 (nb R C p d) (n + 1) (qR (mkQ q (nI d))) := by
  obtain ⟨_, oldR, newR⟩ := h.step hd hr hn
  obtain ⟨ok, h1, h2, h3, h4, h5, h6⟩ := h
  have hp := h4.rc ok
  have hle := ok.rc.le
  obtain ⟨o1, o2⟩ := pSr_0 ok hp hd hr
  have mb := pMb_eq ok hp hd hr
  have eb : (qN (mkQ q (nI d))).1 = pMb (qG q) (qN q).1 (nI p) (nI d) := by
    show pMb (qG q) (qN q).1 (qN q).2 (nI d) = _
    rw [h1]
  rw [eb]
  show ∃ u, _ ∧ _ ∧ RQ (ra u 1) (qG q) R C _ _ _ _
  obtain ⟨hM, hB, g3, g4, gr⟩ := hq
  have el := ok.open_lt o1
  have e64 := tb_lt o1
  unfold f_goes
  rw [cl_3, cl_4, g3, m_bes ok.rc hM hp hd, Option.bind_some, bz_nI e64, m_boxI hB e64, Option.bind_some]
  generalize nb R C p d = e at *
  -- what the rest does with a row of boxes
  have rest : ∀ (w : xT), (∀ k, k < 74 ∨ 138 ≤ k → ra w 1 k = ra t 1 k) → GB (ra w 1) (pMb (qG q) (qN q).1 (nI p) (nI d)) → Frm [1] [] t w → ∃ u, (Option.bind (some (wa w 1 (upd (ra w 1) 3 (nI e)))) fun t_62 =>
  Option.bind (if 400 ≤ ((ra t_62 1) 4) then (some t_62)
    else (if inB (202 + ((ra t_62 1) 4)) 602 = true then (Option.bind (some (wa t_62 1 (upd (ra t_62 1) (Int32.toNatClampNeg (202 + ((ra t_62 1) 4))) (nI d + (4 * bI (tb (qN q).1 e)))))) fun t_94 =>
      some t_94) else none)) fun (r_72 : xT) =>
  Option.bind (some (wa r_72 1 (upd (ra r_72 1) 4 (((ra r_72 1) 4) + 1)))) fun t_104 =>
  some (bI (tb (qN q).1 e), t_104)) = some (bI (tb (qN q).1 e), u) ∧ Frm [1] [] t u ∧ RQ (ra u 1) (qG q) R C (pMb (qG q) (qN q).1 (nI p) (nI d)) e (n + 1) (qR (mkQ q (nI d))) := by
    intro w w1 w2 w3
    have w4 : ra (wa w 1 (upd (ra w 1) 3 (nI e))) 1 4 = nI n := by
      rw [ra_wa, if_pos rfl, pk_un (by decide), w1 4 (by omega), g4]
    rw [Option.bind_some, w4]
    have code : nI d + (4 * bI (tb (qN q).1 e)) = codF (nI d) (tb (qN q).1 e) := by
      unfold codF
      cases tb (qN q).1 e with
      | false => show nI d + 0 = _; rw [Int32.add_zero]; rfl
      | true => rfl
    have fin : ∀ (r : xT), ra r 1 = (fun k => if k = 3 then nI e else if k = 202 + n ∧ n < 400 then codF (nI d) (tb (qN q).1 e) else ra w 1 k) → Frm [1] [] t r → ∃ u, (Option.bind (some (wa r 1 (upd (ra r 1) 4 (((ra r 1) 4) + 1)))) fun t_104 =>
  some (bI (tb (qN q).1 e), t_104)) = some (bI (tb (qN q).1 e), u) ∧ Frm [1] [] t u ∧ RQ (ra u 1) (qG q) R C (pMb (qG q) (qN q).1 (nI p) (nI d)) e (n + 1) (qR (mkQ q (nI d))) := by
      intro r hr hf
      have hu : ∀ k, ra (wa r 1 (upd (ra r 1) 4 (((ra r 1) 4) + 1))) 1 k = if k = 4 then nI (n + 1) else if k = 3 then nI e else if k = 202 + n ∧ n < 400 then codF (nI d) (tb (qN q).1 e) else ra w 1 k := fun k => by
        rw [ra_wa, if_pos rfl, upd_at, hr]
        by_cases z : k = 4
        · rw [if_pos z, if_pos z]
          have : ra w 1 4 = nI n := by rw [w1 4 (by omega), g4]
          show (if 4 = 3 then nI e else if 4 = 202 + n ∧ n < 400 then _ else ra w 1 4) + 1 = _
          rw [if_neg (by decide), if_neg (by omega), this, nI_1]
        · rw [if_neg z, if_neg z]
      refine ⟨_, rfl, Frm.wa hf (by decide) _, ⟨?_, ?_, ?_, ?_⟩, ?_, ?_, ?_, ?_⟩
      · rw [hu, if_neg (by decide), if_neg (by decide), if_neg (by omega), w1 0 (by omega)]; exact hM.1
      · rw [hu, if_neg (by decide), if_neg (by decide), if_neg (by omega), w1 1 (by omega)]; exact hM.2.1
      · rw [hu, if_neg (by decide), if_neg (by decide), if_neg (by omega), w1 2 (by omega)]; exact hM.2.2.1
      · intro c hc
        rw [hu, if_neg (by omega), if_neg (by omega), if_neg (by omega), w1 _ (by omega)]; exact hM.2.2.2 c hc
      · intro c hc
        rw [hu, if_neg (by omega), if_neg (by omega), if_neg (by omega)]; exact w2 c hc
      · rw [hu, if_neg (by decide), if_pos rfl]
      · rw [hu, if_pos rfl]
      · intro i hi hi4
        rw [hu, if_neg (by omega), if_neg (by omega)]
        by_cases z : i = n
        · subst z; rw [if_pos ⟨rfl, hi4⟩, newR hi4]
        · rw [if_neg (by omega), w1 _ (by omega), gr i (by omega) hi4, oldR i (by omega)]
    have twentytwo : (202 : Int32) + nI n = nI (202 + n) := nI_add 202 n
    by_cases z : n < 400
    · have zz : ¬ (400 : Int32) ≤ nI n := nI_ge (b := 400) z (by decide)
      rw [if_neg zz, twentytwo, if_pos (inB_nI (by omega) (by decide)), code, nI_clamp (by omega), Option.bind_some, Option.bind_some]
      refine fin _ ?_ (Frm.wa (Frm.wa w3 (by decide) _) (by decide) _)
      funext k
      rw [ra_wa, if_pos rfl, upd_at, ra_wa, if_pos rfl, upd_at]
      by_cases y : k = 202 + n
      · rw [if_pos y, if_neg (by omega), if_pos ⟨y, z⟩]
      · rw [if_neg y]
        by_cases x : k = 3
        · rw [if_pos x, if_pos x]
        · rw [if_neg x, if_neg x, if_neg (fun v => y v.1)]
    · have zz : (400 : Int32) ≤ nI n := nI_le (a := 400) (by omega) (by omega)
      rw [if_pos zz, Option.bind_some]
      refine fin _ ?_ (Frm.wa w3 (by decide) _)
      funext k
      rw [ra_wa, if_pos rfl, upd_at]
      by_cases x : k = 3
      · rw [if_pos x, if_pos x]
      · rw [if_neg x, if_neg x, if_neg (fun v => z v.2)]
  cases hx : tb (qN q).1 e with
  | false =>
    rw [hx] at rest mb
    simp only [b0f, if_true, Option.bind_some]
    rw [if_neg (by decide), Option.bind_some]
    exact rest t (fun _ _ => rfl) (fun c hc => by rw [hB c hc, mb c]; rfl) Frm.rf
  | true =>
    rw [hx] at rest mb
    obtain ⟨o3, o4⟩ := o2 hx
    have f64 := tb_lt o3
    rw [if_neg (show ¬ bI true = 0 by decide), Option.bind_some, if_pos rfl, sfour, if_pos (inB_nI (by omega) (by decide)), nI_clamp (by omega), Option.bind_some]
    have hM1 : GR (ra (wa t 1 (upd (ra t 1) (74 + e) 0)) 1) (qG q) R C := by
      refine ⟨?_, ?_, ?_, fun c hc => ?_⟩
      · rw [ra_wa, if_pos rfl, pk_un (by omega)]; exact hM.1
      · rw [ra_wa, if_pos rfl, pk_un (by omega)]; exact hM.2.1
      · rw [ra_wa, if_pos rfl, pk_un (by omega)]; exact hM.2.2.1
      · rw [ra_wa, if_pos rfl, pk_un (by omega)]; exact hM.2.2.2 c hc
    rw [m_bes ok.rc hM1 el hd, Option.bind_some, bz_nI f64, sfour, if_pos (inB_nI (by omega) (by decide)), nI_clamp (by omega), Option.bind_some, Option.bind_some]
    have hu : ∀ k, ra (wa (wa t 1 (upd (ra t 1) (74 + e) 0)) 1 (upd (ra (wa t 1 (upd (ra t 1) (74 + e) 0)) 1) (74 + nb R C e d) 1)) 1 k = if k = 74 + nb R C e d then 1 else if k = 74 + e then 0 else ra t 1 k := fun k => by
      rw [ra_wa, if_pos rfl, upd_at, ra_wa, if_pos rfl, upd_at]
    refine rest _ (fun k hk => ?_) (fun c hc => ?_) (Frm.wa (Frm.wa Frm.rf (by decide) _) (by decide) _)
    · rw [hu, if_neg (by omega), if_neg (by omega)]
    · rw [hu, mb c]
      simp only [if_true]
      by_cases z : c = nb R C e d
      · rw [if_pos (by omega), if_pos z]; rfl
      · rw [if_neg (by omega), if_neg z]
        by_cases y : c = e
        · rw [if_pos (by omega), if_pos y]; rfl
        · rw [if_neg (by omega), if_neg y]; exact hB c hc
