/-! count, cell, recorded, isReplayed, solution -/
theorem gz_pf {q : GmT} (h : GZ q) : pFr (qG q) (qN q).1 = 0 := by
  unfold pFr
  rw [h.2.2.1]
  exact tb_eq0.mpr fun x _ => by rw [tb_and, tb_0]; rfl
theorem gz_gr (g : gT) (s : Int64) : gGr g 0 = 0 := by
  unfold gGr
  show gGrL g 0 (63 + 1) 0 0 = 0
  unfold gGrL
  rw [if_pos rfl]
theorem gz_hm {g : gT} (h : gG g = 0) : hmL g 64 0 = 0 := by
  have : goF g (nI 0) = 0 := by
    show goL g (nI 0) (63 + 1) (gG g) 0 = 0
    unfold goL
    rw [if_pos h]
  show hmL g (63 + 1) 0 = 0
  unfold hmL
  rw [if_pos this]; rfl
theorem bc_0 : bcF 0 = 0 := by decide +kernel
theorem ps_0 (f : Nat → Int32) : psL f (0 : Int32).toNatClampNeg 0 0 = 0 := rfl
theorem c11 : ¬ ((0 : Int32) < 0) := by decide
theorem pm_count {c : cT} {t : xT} (h : ReL c t) {N : Nat} (hN : 10000 ≤ N) (a : Int32) : PM [(xIAE, 1)] (o_count c a) (f_count N t a) t := by
  have s9 := h.same (same9 (t := t) 0)
  by_cases ha : ∃ w, w ≤ 11 ∧ a = nI w
  · obtain ⟨w, hw, rfl⟩ := ha
    have lo : (0 : Int32) ≤ nI w := nI_pos' (by omega)
    have hi : nI w ≤ 11 := nI_le (b := 11) hw (by decide)
    unfold f_count
    rw [in_t lo hi, Option.bind_some, if_neg n10, Option.bind_some, Option.bind_some, rs_ws, if_pos rfl, if_neg c11]
    unfold o_count
    by_cases w11 : w = 11
    · subst w11
      rw [if_pos (show (11 : Int32) ≤ nI 11 by decide)]
      obtain ⟨_, len, _, l1, l2, _⟩ := h.1
      refine PM.ans (c' := c) (u := ws t 9 0) (r := nI len) ?_ rfl ?_ rfl s9
      · show some (rs (ws t 9 0) 11, ws t 9 0) = _
        rw [show rs (ws t 9 0) 11 = nI len from l2]
      · show Sum.inl (some (Value.int (tI c).2), c) = _
        rw [l1]
    · rw [if_neg (show ¬ (11 : Int32) ≤ nI w from nI_ge (b := 11) (by omega) (by decide))]
      rcases h.room with ⟨r1, gz, r2, _, r4⟩ | ⟨r1, r2, R, C, p, n, hG, hn, hQ, hH⟩
      · have r2' : f_hasRoom (ws t 9 0) = some 0 := r2
        rw [r2', Option.bind_some, if_pos rfl]
        obtain ⟨g1, g2, g3, g4, g5, g6⟩ := gz
        have hz : hZ (tH c) = 0 := by
          rcases h.2.2.2.1 with ⟨_, _, z, _⟩ | ⟨R, C, p, n, z, _⟩
          · exact z
          · have := z.1.2.1
            rw [g1] at this
            have h3 := z.1.1.1
            exact absurd this.symm (nI_ne0 (by omega) (by omega))
        have fin : ∀ o : mO, o = .inl (some (.int 0), c) → PM [(xIAE, 1)] o (some (0, ws t 9 0)) t := fun o ho => PM.ans rfl rfl ho rfl s9
        refine fin _ ?_
        match w, hw with
        | 0, _ => show Sum.inl (some (Value.int (gR (qG (tG c)))), c) = _; rw [g1]
        | 1, _ => show Sum.inl (some (Value.int (gC (qG (tG c)))), c) = _; rw [g2]
        | 2, _ => show Sum.inl (some (Value.int (bcF (qN (tG c)).1)), c) = _; rw [g5, bc_0]
        | 3, _ => show Sum.inl (some (Value.int (bcF (gG (qG (tG c))))), c) = _; rw [g4, bc_0]
        | 4, _ => show Sum.inl (some (Value.int (qN (tG c)).2), c) = _; rw [g5]
        | 5, _ => show Sum.inl (some (Value.int (qC (tG c))), c) = _; rw [g6]
        | 6, _ => show Sum.inl (some (Value.int (psL (qR (tG c)) (qC (tG c)).toNatClampNeg 0 0)), c) = _; rw [g6, ps_0]
        | 7, _ => show Sum.inl (some (Value.int (hZ (tH c))), c) = _; rw [hz]
        | 8, _ => show Sum.inl (some (Value.int (gGr (qG (tG c)) (pFr (qG (tG c)) (qN (tG c)).1))), c) = _; rw [gz_pf ⟨g1, g2, g3, g4, g5, g6⟩, gz_gr _ 0]
        | 9, _ => show Sum.inl (some (Value.int (hmL (qG (tG c)) 64 0)), c) = _; rw [gz_hm g4]
        | 10, _ =>
          show (if decide (0 < gR (qG (tG c))) = true then _ else Sum.inl (some (Value.int 0), c)) = _
          rw [r1]; rfl
        | 11, _ => exact absurd rfl w11
        | w + 12, hw => omega
      · have r2' : f_hasRoom (ws t 9 0) = some 1 := r2
        rw [r2', Option.bind_some, if_neg n10]
        have ok := hG.1
        have pv := hG.2.2.2.2.1
        have hM0 : GR (ra (ws t 9 0) 1) (qG (tG c)) R C := hQ.1
        have hB0 : GB (ra (ws t 9 0) 1) (qN (tG c)).1 := hQ.2.1
        match w, hw with
        | 0, _ =>
          refine PM.ans (c' := c) (u := ws t 9 0) (r := gR (qG (tG c))) ?_ rfl rfl rfl s9
          show some (ra t 1 1, ws t 9 0) = _
          rw [hQ.1.2.1, ok.2.1]
        | 1, _ =>
          refine PM.ans (c' := c) (u := ws t 9 0) (r := gC (qG (tG c))) ?_ rfl rfl rfl s9
          show some (ra t 1 2, ws t 9 0) = _
          rw [hQ.1.2.2.1, ok.2.2.1]
        | 2, _ =>
          refine PM.ans (c' := c) (u := ws t 9 0) (r := bcF (qN (tG c)).1) ?_ rfl rfl rfl s9
          show (Option.bind (f_counted N (ws t 9 0) 1) fun r_116 => some (r_116, ws t 9 0)) = _
          rw [(s_counted ok hM0 hB0 pv.1 hN).1]; rfl
        | 3, _ =>
          refine PM.ans (c' := c) (u := ws t 9 0) (r := bcF (gG (qG (tG c)))) ?_ rfl rfl rfl s9
          show (Option.bind (f_counted N (ws t 9 0) 0) fun r_116 => some (r_116, ws t 9 0)) = _
          rw [(s_counted ok hM0 hB0 pv.1 hN).2]; rfl
        | 4, _ =>
          refine PM.ans (c' := c) (u := ws t 9 0) (r := (qN (tG c)).2) ?_ rfl rfl rfl s9
          show some (ra t 1 3, ws t 9 0) = _
          rw [hQ.2.2.1, hG.2.1]
        | 5, _ =>
          refine PM.ans (c' := c) (u := ws t 9 0) (r := qC (tG c)) ?_ rfl rfl rfl s9
          show some (ra t 1 4, ws t 9 0) = _
          rw [hQ.2.2.2.1, hG.2.2.1]
        | 6, _ =>
          refine PM.ans (c' := c) (u := ws t 9 0) (r := psL (qR (tG c)) (qC (tG c)).toNatClampNeg 0 0) ?_ rfl rfl rfl s9
          show (Option.bind (f_recordedPushes N (ws t 9 0)) fun r_141 => some (r_141, ws t 9 0)) = _
          rw [s_recordedPushes (t := ws t 9 0) hn hQ.2.2.2.1 (fun i hi => hQ.2.2.2.2 i hi (by omega)) hN, hG.2.2.1, nI_clamp (by omega)]; rfl
        | 7, _ =>
          obtain ⟨z, _, e1, e2, _⟩ := hH
          refine PM.ans (c' := c) (u := ws t 9 0) (r := hZ (tH c)) ?_ rfl rfl rfl s9
          show some (rs t 5, ws t 9 0) = _
          rw [e1, e2]
        | 8, _ =>
          obtain ⟨u, e, f⟩ := s_groups ok hM0 hB0 hN
          refine PM.ans (c' := c) (u := u) (r := gGr (qG (tG c)) (pFr (qG (tG c)) (qN (tG c)).1)) ?_ f.2.2.2 rfl (by rw [f.s 9 rfl]; rfl) (s9.same (f.same (by decide) (by decide)))
          show (Option.bind (f_groups N (ws t 9 0)) fun r_151 => some (r_151.1, r_151.2)) = _
          rw [e]; rfl
        | 9, _ =>
          obtain ⟨u, f, e⟩ := s_goalRooms ok hM0 hN (-1)
          have e : f_goalRooms N (ws t 9 0) (-1) = some (hmL (qG (tG c)) 64 0, u) := by
            rcases e with ⟨_, z⟩ | ⟨z, _⟩
            · exact z
            · exact absurd (goF_neg ok (by decide)) z
          refine PM.ans (c' := c) (u := u) (r := hmL (qG (tG c)) 64 0) ?_ f.2.2.2 rfl (by rw [f.s 9 rfl]; rfl) (s9.same (f.same (by decide) (by decide)))
          show (Option.bind (f_goalRooms N (ws t 9 0) (-1)) fun r_151 => some (r_151.1, r_151.2)) = _
          rw [e]; rfl
        | 10, _ =>
          have es := s_isSolved ok hM0 hB0 pv.1 hN
          show PM _ (if decide (0 < gR (qG (tG c))) = true then (if (decide ((qN (tG c)).1 &&& (gG (qG (tG c)) ^^^ (-1)) = 0)) = true then (.inl (some (.int 1), c)) else .inl (some (.int 0), c)) else _) (Option.bind (f_isSolved N (ws t 9 0)) fun r_162 => Option.bind (if r_162 = 0 then (some (0 : Int32)) else (some (1 : Int32))) fun (r_165 : Int32) => some (r_165, ws t 9 0)) t
          rw [r1, if_pos rfl, es, Option.bind_some]
          cases decide ((qN (tG c)).1 &&& (gG (qG (tG c)) ^^^ (-1)) = 0) with
          | false => exact PM.ans (c' := c) (u := ws t 9 0) (r := 0) rfl rfl rfl rfl s9
          | true => exact PM.ans (c' := c) (u := ws t 9 0) (r := 1) rfl rfl rfl rfl s9
        | 11, _ => exact absurd rfl w11
        | w + 12, hw => omega
  · have bad : a < 0 ∨ 11 < a := by
      by_cases y : a < 0
      · exact Or.inl y
      · refine Or.inr (i_le fun w => ?_)
        obtain ⟨k, hk, e⟩ := nI_range (n := 12) y (Int32.lt_of_le_of_lt w (by decide)) (by decide)
        exact ha ⟨k, by omega, e⟩
    have ne : ∀ w, w ≤ 11 → ¬ a = nI w := fun w hw e => ha ⟨w, hw, e⟩
    unfold f_count o_count
    rw [in_f bad]
    have := ne 0 (by decide); have := ne 1 (by decide); have := ne 2 (by decide); have := ne 3 (by decide); have := ne 4 (by decide); have := ne 5 (by decide)
    have := ne 6 (by decide); have := ne 7 (by decide); have := ne 8 (by decide); have := ne 9 (by decide); have := ne 10 (by decide); have := ne 11 (by decide)
    rw [if_neg (show ¬ a = 0 from ne 0 (by decide)), if_neg (show ¬ a = 1 from ne 1 (by decide)), if_neg (show ¬ a = 2 from ne 2 (by decide)), if_neg (show ¬ a = 3 from ne 3 (by decide)), if_neg (show ¬ a = 4 from ne 4 (by decide)), if_neg (show ¬ a = 5 from ne 5 (by decide)), if_neg (show ¬ a = 6 from ne 6 (by decide)), if_neg (show ¬ a = 7 from ne 7 (by decide)), if_neg (show ¬ a = 8 from ne 8 (by decide)), if_neg (show ¬ a = 9 from ne 9 (by decide)), if_neg (show ¬ a = 10 from ne 10 (by decide)), if_neg (show ¬ a = 11 from ne 11 (by decide))]
    exact PM.thr (u := ws t 9 1) rfl rfl rfl mem0 (h.same (same9 _))
