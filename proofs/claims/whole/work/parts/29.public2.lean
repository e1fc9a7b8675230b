/-! the public methods, further -/
def o_cells (t : cT) (i : Int32) : mO :=
  if (decide (0 < gR (qG (tG t)))) = true then (if i = 0 then (.inl (some (.long (gO (qG (tG t)))), t)) else
    if i = 1 then (.inl (some (.long (gG (qG (tG t)))), t)) else
    if i = 2 then (.inl (some (.long (qN (tG t)).1), t)) else
    if i = 3 then (.inl (some (.long (pAr (qG (tG t)) (qN (tG t)).1 (qN (tG t)).2 )), t)) else
    if i = 4 then (.inl (some (.long (gD (qG (tG t)))), t)) else
    if i = 5 then (.inl (some (.long (gFz (qG (tG t)) ((qN (tG t)).1))), t)) else
    if i = 6 then (.inl (some (.long (gTr (qG (tG t)))), t)) else
    if i = 7 then (.inl (some (.long (gTc (qG (tG t)))), t)) else
    if i = 8 then (.inl (some (.long ((qN (tG t)).1 &&& (gG (qG (tG t))))), t)) else
    .inr (xIAE, t)) else
  .inr (xISE, t)
theorem d_X11_cells_0 : decode (mB M_X11_cells) 0 = .ok (.aload_n 0, 1) := by decide +kernel
theorem d_X11_cells_1 : decode (mB M_X11_cells) 1 = .ok (.invokevirtual 139, 3) := by decide +kernel
theorem d_X11_cells_4 : decode (mB M_X11_cells) 4 = .ok (.aload_n 0, 1) := by decide +kernel
theorem d_X11_cells_5 : decode (mB M_X11_cells) 5 = .ok (.getfield 26, 3) := by decide +kernel
theorem d_X11_cells_8 : decode (mB M_X11_cells) 8 = .ok (.getfield 42, 3) := by decide +kernel
theorem d_X11_cells_11 : decode (mB M_X11_cells) 11 = .ok (.astore_n 2, 1) := by decide +kernel
theorem d_X11_cells_12 : decode (mB M_X11_cells) 12 = .ok (.aload_n 0, 1) := by decide +kernel
theorem d_X11_cells_13 : decode (mB M_X11_cells) 13 = .ok (.getfield 26, 3) := by decide +kernel
theorem d_X11_cells_16 : decode (mB M_X11_cells) 16 = .ok (.getfield 158, 3) := by decide +kernel
theorem d_X11_cells_19 : decode (mB M_X11_cells) 19 = .ok (.getfield 162, 3) := by decide +kernel
theorem d_X11_cells_22 : decode (mB M_X11_cells) 22 = .ok (.lstore_n 3, 1) := by decide +kernel
theorem d_X11_cells_23 : decode (mB M_X11_cells) 23 = .ok (.iload_n 1, 1) := by decide +kernel
theorem d_X11_cells_24 : decode (mB M_X11_cells) 24 = .ok (.tableswitch 103 0 8 #[52, 57, 62, 64, 75, 80, 86, 91, 96], 52) := by decide +kernel
theorem d_X11_cells_76 : decode (mB M_X11_cells) 76 = .ok (.aload_n 2, 1) := by decide +kernel
theorem d_X11_cells_77 : decode (mB M_X11_cells) 77 = .ok (.getfield 127, 3) := by decide +kernel
theorem d_X11_cells_80 : decode (mB M_X11_cells) 80 = .ok (.lreturn, 1) := by decide +kernel
theorem d_X11_cells_81 : decode (mB M_X11_cells) 81 = .ok (.aload_n 2, 1) := by decide +kernel
theorem d_X11_cells_82 : decode (mB M_X11_cells) 82 = .ok (.getfield 167, 3) := by decide +kernel
theorem d_X11_cells_85 : decode (mB M_X11_cells) 85 = .ok (.lreturn, 1) := by decide +kernel
theorem d_X11_cells_86 : decode (mB M_X11_cells) 86 = .ok (.lload_n 3, 1) := by decide +kernel
theorem d_X11_cells_87 : decode (mB M_X11_cells) 87 = .ok (.lreturn, 1) := by decide +kernel
theorem d_X11_cells_88 : decode (mB M_X11_cells) 88 = .ok (.aload_n 0, 1) := by decide +kernel
theorem d_X11_cells_89 : decode (mB M_X11_cells) 89 = .ok (.getfield 26, 3) := by decide +kernel
theorem d_X11_cells_92 : decode (mB M_X11_cells) 92 = .ok (.getfield 158, 3) := by decide +kernel
theorem d_X11_cells_95 : decode (mB M_X11_cells) 95 = .ok (.invokevirtual 170, 3) := by decide +kernel
theorem d_X11_cells_98 : decode (mB M_X11_cells) 98 = .ok (.lreturn, 1) := by decide +kernel
theorem d_X11_cells_99 : decode (mB M_X11_cells) 99 = .ok (.aload_n 2, 1) := by decide +kernel
theorem d_X11_cells_100 : decode (mB M_X11_cells) 100 = .ok (.getfield 174, 3) := by decide +kernel
theorem d_X11_cells_103 : decode (mB M_X11_cells) 103 = .ok (.lreturn, 1) := by decide +kernel
theorem d_X11_cells_104 : decode (mB M_X11_cells) 104 = .ok (.aload_n 2, 1) := by decide +kernel
theorem d_X11_cells_105 : decode (mB M_X11_cells) 105 = .ok (.lload_n 3, 1) := by decide +kernel
theorem d_X11_cells_106 : decode (mB M_X11_cells) 106 = .ok (.invokevirtual 177, 3) := by decide +kernel
theorem d_X11_cells_109 : decode (mB M_X11_cells) 109 = .ok (.lreturn, 1) := by decide +kernel
theorem d_X11_cells_110 : decode (mB M_X11_cells) 110 = .ok (.aload_n 2, 1) := by decide +kernel
theorem d_X11_cells_111 : decode (mB M_X11_cells) 111 = .ok (.invokevirtual 181, 3) := by decide +kernel
theorem d_X11_cells_114 : decode (mB M_X11_cells) 114 = .ok (.lreturn, 1) := by decide +kernel
theorem d_X11_cells_115 : decode (mB M_X11_cells) 115 = .ok (.aload_n 2, 1) := by decide +kernel
theorem d_X11_cells_116 : decode (mB M_X11_cells) 116 = .ok (.invokevirtual 184, 3) := by decide +kernel
theorem d_X11_cells_119 : decode (mB M_X11_cells) 119 = .ok (.lreturn, 1) := by decide +kernel
theorem d_X11_cells_120 : decode (mB M_X11_cells) 120 = .ok (.lload_n 3, 1) := by decide +kernel
theorem d_X11_cells_121 : decode (mB M_X11_cells) 121 = .ok (.aload_n 2, 1) := by decide +kernel
theorem d_X11_cells_122 : decode (mB M_X11_cells) 122 = .ok (.getfield 167, 3) := by decide +kernel
theorem d_X11_cells_125 : decode (mB M_X11_cells) 125 = .ok (.land, 1) := by decide +kernel
theorem d_X11_cells_126 : decode (mB M_X11_cells) 126 = .ok (.lreturn, 1) := by decide +kernel
theorem c_cells {E : mEnv} (hE : E.1.stackTraces = false) (m : List mE) (t : cT) (i : Int32)  : Rc E M_X11_cells m [.ref 100, .int i] t (o_cells t i) := by
  refine Rc.of hE rfl pn_X11 (Nat.le_of_ble_eq_true rfl) ?_
  refine g_eq (S' := (0, [some (.ref 100), some (.int i), none, none, none], [], (m, cw t))) rfl ?_
  refine g_aload_n d_X11_cells_0 rfl ?_
  by_cases h_1_0 : (decide (0 < gR (qG (tG t)))) = true
  · have hc : Rt E M_X11_requireRoom 0 [.ref 100] (m, cw t) none (m, cw t) := by have hc := c_room hE m t; rw [show o_room t = .inl (none, t) by simp only [o_room, eq_true h_1_0, ↓reduceIte, Bool.false_eq_true, Bool.true_eq_false, not_true_eq_false, not_false_eq_true]; try rfl] at hc; exact hc
    refine g_callV (As := []) d_X11_cells_1 o_X11_requireRoom l_X11_139 ⟨Nat.le_of_ble_eq_true rfl, Nat.le_of_ble_eq_true rfl⟩ hc (rfl) rfl rfl rfl rfl rfl ?_ (Nat.zero_add _)
    refine g_aload_n d_X11_cells_4 rfl ?_
    refine g_getf d_X11_cells_5 f_X11_26 rfl rfl ?_
    refine g_getf d_X11_cells_8 f_X11_42 rfl rfl ?_
    refine g_astore_n (L' := [some (.ref 100), some (.int i), some (.ref 105), none, none]) d_X11_cells_11 rfl rfl ?_
    refine g_aload_n d_X11_cells_12 rfl ?_
    refine g_getf d_X11_cells_13 f_X11_26 rfl rfl ?_
    refine g_getf d_X11_cells_16 f_X11_158 rfl rfl ?_
    refine g_getf d_X11_cells_19 f_X11_162 rfl rfl ?_
    refine g_lstore_n (L' := [some (.ref 100), some (.int i), some (.ref 105), some (.long ((qN (tG t)).1)), none]) d_X11_cells_22 rfl rfl ?_
    refine g_iload_n d_X11_cells_23 rfl ?_
    by_cases t_24_0 : i = 0
    · refine g_tabIn (off := 52) (tgt := 76) d_X11_cells_24 (by rw [t_24_0]; decide) (by rw [t_24_0]; decide) (by rw [t_24_0]; rfl) (by decide) ?_
      refine g_aload_n d_X11_cells_76 rfl ?_
      refine g_getf d_X11_cells_77 f_X11_127 rfl rfl ?_
      rw [show o_cells t i = .inl (some (.long (gO (qG (tG t)))), t) by simp only [o_cells, eq_true h_1_0, eq_true t_24_0, ↓reduceIte, Bool.false_eq_true, Bool.true_eq_false, not_true_eq_false, not_false_eq_true]; try rfl]
      exact g_retL d_X11_cells_80 rfl (rfl) (rfl)
    by_cases t_24_1 : i = 1
    · refine g_tabIn (off := 57) (tgt := 81) d_X11_cells_24 (by rw [t_24_1]; decide) (by rw [t_24_1]; decide) (by rw [t_24_1]; rfl) (by decide) ?_
      refine g_aload_n d_X11_cells_81 rfl ?_
      refine g_getf d_X11_cells_82 f_X11_167 rfl rfl ?_
      rw [show o_cells t i = .inl (some (.long (gG (qG (tG t)))), t) by simp only [o_cells, eq_true h_1_0, eq_false t_24_0, eq_true t_24_1, ↓reduceIte, Bool.false_eq_true, Bool.true_eq_false, not_true_eq_false, not_false_eq_true]; try rfl]
      exact g_retL d_X11_cells_85 rfl (rfl) (rfl)
    by_cases t_24_2 : i = 2
    · refine g_tabIn (off := 62) (tgt := 86) d_X11_cells_24 (by rw [t_24_2]; decide) (by rw [t_24_2]; decide) (by rw [t_24_2]; rfl) (by decide) ?_
      refine g_lload_n d_X11_cells_86 rfl ?_
      rw [show o_cells t i = .inl (some (.long (qN (tG t)).1), t) by simp only [o_cells, eq_true h_1_0, eq_false t_24_0, eq_false t_24_1, eq_true t_24_2, ↓reduceIte, Bool.false_eq_true, Bool.true_eq_false, not_true_eq_false, not_false_eq_true]; try rfl]
      exact g_retL d_X11_cells_87 rfl (rfl) (rfl)
    by_cases t_24_3 : i = 3
    · refine g_tabIn (off := 64) (tgt := 88) d_X11_cells_24 (by rw [t_24_3]; decide) (by rw [t_24_3]; decide) (by rw [t_24_3]; rfl) (by decide) ?_
      refine g_aload_n d_X11_cells_88 rfl ?_
      refine g_getf d_X11_cells_89 f_X11_26 rfl rfl ?_
      refine g_getf d_X11_cells_92 f_X11_158 rfl rfl ?_
      refine g_callV (As := []) d_X11_cells_95 o_X6_area l_X11_170 ⟨Nat.le_of_ble_eq_true rfl, Nat.le_of_ble_eq_true rfl⟩ (c_area hE 106 105 (qG (tG t)) (qN (tG t)).1 (qN (tG t)).2 _ rfl rfl ) rfl rfl rfl rfl rfl rfl ?_ (Nat.zero_add _)
      rw [show o_cells t i = .inl (some (.long (pAr (qG (tG t)) (qN (tG t)).1 (qN (tG t)).2 )), t) by simp only [o_cells, eq_true h_1_0, eq_false t_24_0, eq_false t_24_1, eq_false t_24_2, eq_true t_24_3, ↓reduceIte, Bool.false_eq_true, Bool.true_eq_false, not_true_eq_false, not_false_eq_true]; try rfl]
      exact g_retL d_X11_cells_98 rfl (rfl) (rfl)
    by_cases t_24_4 : i = 4
    · refine g_tabIn (off := 75) (tgt := 99) d_X11_cells_24 (by rw [t_24_4]; decide) (by rw [t_24_4]; decide) (by rw [t_24_4]; rfl) (by decide) ?_
      refine g_aload_n d_X11_cells_99 rfl ?_
      refine g_getf d_X11_cells_100 f_X11_174 rfl rfl ?_
      rw [show o_cells t i = .inl (some (.long (gD (qG (tG t)))), t) by simp only [o_cells, eq_true h_1_0, eq_false t_24_0, eq_false t_24_1, eq_false t_24_2, eq_false t_24_3, eq_true t_24_4, ↓reduceIte, Bool.false_eq_true, Bool.true_eq_false, not_true_eq_false, not_false_eq_true]; try rfl]
      exact g_retL d_X11_cells_103 rfl (rfl) (rfl)
    by_cases t_24_5 : i = 5
    · refine g_tabIn (off := 80) (tgt := 104) d_X11_cells_24 (by rw [t_24_5]; decide) (by rw [t_24_5]; decide) (by rw [t_24_5]; rfl) (by decide) ?_
      refine g_aload_n d_X11_cells_104 rfl ?_
      refine g_lload_n d_X11_cells_105 rfl ?_
      refine g_callV (As := [.long ((qN (tG t)).1)]) d_X11_cells_106 o_X2_frozen l_X11_177 ⟨Nat.le_of_ble_eq_true rfl, Nat.le_of_ble_eq_true rfl⟩ (c_frozen hE 105 (qG (tG t)) _ rfl ((qN (tG t)).1)) rfl rfl rfl rfl rfl rfl ?_ (Nat.zero_add _)
      rw [show o_cells t i = .inl (some (.long (gFz (qG (tG t)) ((qN (tG t)).1))), t) by simp only [o_cells, eq_true h_1_0, eq_false t_24_0, eq_false t_24_1, eq_false t_24_2, eq_false t_24_3, eq_false t_24_4, eq_true t_24_5, ↓reduceIte, Bool.false_eq_true, Bool.true_eq_false, not_true_eq_false, not_false_eq_true]; try rfl]
      exact g_retL d_X11_cells_109 rfl (rfl) (rfl)
    by_cases t_24_6 : i = 6
    · refine g_tabIn (off := 86) (tgt := 110) d_X11_cells_24 (by rw [t_24_6]; decide) (by rw [t_24_6]; decide) (by rw [t_24_6]; rfl) (by decide) ?_
      refine g_aload_n d_X11_cells_110 rfl ?_
      refine g_callV (As := []) d_X11_cells_111 o_X2_tunnelsInRow l_X11_181 ⟨Nat.le_of_ble_eq_true rfl, Nat.le_of_ble_eq_true rfl⟩ (c_tunnelsInRow hE 105 (qG (tG t)) _ rfl) rfl rfl rfl rfl rfl rfl ?_ (Nat.zero_add _)
      rw [show o_cells t i = .inl (some (.long (gTr (qG (tG t)))), t) by simp only [o_cells, eq_true h_1_0, eq_false t_24_0, eq_false t_24_1, eq_false t_24_2, eq_false t_24_3, eq_false t_24_4, eq_false t_24_5, eq_true t_24_6, ↓reduceIte, Bool.false_eq_true, Bool.true_eq_false, not_true_eq_false, not_false_eq_true]; try rfl]
      exact g_retL d_X11_cells_114 rfl (rfl) (rfl)
    by_cases t_24_7 : i = 7
    · refine g_tabIn (off := 91) (tgt := 115) d_X11_cells_24 (by rw [t_24_7]; decide) (by rw [t_24_7]; decide) (by rw [t_24_7]; rfl) (by decide) ?_
      refine g_aload_n d_X11_cells_115 rfl ?_
      refine g_callV (As := []) d_X11_cells_116 o_X2_tunnelsInColumn l_X11_184 ⟨Nat.le_of_ble_eq_true rfl, Nat.le_of_ble_eq_true rfl⟩ (c_tunnelsInColumn hE 105 (qG (tG t)) _ rfl) rfl rfl rfl rfl rfl rfl ?_ (Nat.zero_add _)
      rw [show o_cells t i = .inl (some (.long (gTc (qG (tG t)))), t) by simp only [o_cells, eq_true h_1_0, eq_false t_24_0, eq_false t_24_1, eq_false t_24_2, eq_false t_24_3, eq_false t_24_4, eq_false t_24_5, eq_false t_24_6, eq_true t_24_7, ↓reduceIte, Bool.false_eq_true, Bool.true_eq_false, not_true_eq_false, not_false_eq_true]; try rfl]
      exact g_retL d_X11_cells_119 rfl (rfl) (rfl)
    by_cases t_24_8 : i = 8
    · refine g_tabIn (off := 96) (tgt := 120) d_X11_cells_24 (by rw [t_24_8]; decide) (by rw [t_24_8]; decide) (by rw [t_24_8]; rfl) (by decide) ?_
      refine g_lload_n d_X11_cells_120 rfl ?_
      refine g_aload_n d_X11_cells_121 rfl ?_
      refine g_getf d_X11_cells_122 f_X11_167 rfl rfl ?_
      refine g_land d_X11_cells_125 ?_
      rw [show o_cells t i = .inl (some (.long ((qN (tG t)).1 &&& (gG (qG (tG t))))), t) by simp only [o_cells, eq_true h_1_0, eq_false t_24_0, eq_false t_24_1, eq_false t_24_2, eq_false t_24_3, eq_false t_24_4, eq_false t_24_5, eq_false t_24_6, eq_false t_24_7, eq_true t_24_8, ↓reduceIte, Bool.false_eq_true, Bool.true_eq_false, not_true_eq_false, not_false_eq_true]; try rfl]
      exact g_retL d_X11_cells_126 rfl (rfl) (rfl)
    refine g_tabOut (tgt := 127) d_X11_cells_24 (by have a0 : i.toInt ≠ 0 := sw_ne t_24_0; have a1 : i.toInt ≠ 1 := sw_ne t_24_1; have a2 : i.toInt ≠ 2 := sw_ne t_24_2; have a3 : i.toInt ≠ 3 := sw_ne t_24_3; have a4 : i.toInt ≠ 4 := sw_ne t_24_4; have a5 : i.toInt ≠ 5 := sw_ne t_24_5; have a6 : i.toInt ≠ 6 := sw_ne t_24_6; have a7 : i.toInt ≠ 7 := sw_ne t_24_7; have a8 : i.toInt ≠ 8 := sw_ne t_24_8; omega) (by decide) ?_
    rw [show o_cells t i = .inr (xIAE, t) by simp only [o_cells, eq_true h_1_0, eq_false t_24_0, eq_false t_24_1, eq_false t_24_2, eq_false t_24_3, eq_false t_24_4, eq_false t_24_5, eq_false t_24_6, eq_false t_24_7, eq_false t_24_8, ↓reduceIte, Bool.false_eq_true, Bool.true_eq_false, not_true_eq_false, not_false_eq_true]; try rfl]
    exact g_throw (n := 0) th_X11_cells_127 rfl
  rw [show o_cells t i = .inr (xISE, t) by simp only [o_cells, eq_false h_1_0, ↓reduceIte, Bool.false_eq_true, Bool.true_eq_false, not_true_eq_false, not_false_eq_true]; try rfl]
  have hc : Rx E M_X11_requireRoom [.ref 100] (m, cw t) xISE (m, cw t) := by have hc := c_room hE m t; rw [show o_room t = .inr (xISE, t) by simp only [o_room, eq_false h_1_0, ↓reduceIte, Bool.false_eq_true, Bool.true_eq_false, not_true_eq_false, not_false_eq_true]; try rfl] at hc; exact hc
  exact g_xcallV (As := []) d_X11_cells_1 o_X11_requireRoom l_X11_139 ⟨Nat.le_of_ble_eq_true rfl, Nat.le_of_ble_eq_true rfl⟩ hc (rfl) rfl rfl rfl rfl
def o_count (t : cT) (i : Int32) : mO :=
  if i = 0 then (.inl (some (.int (gR (qG (tG t)))), t)) else
  if i = 1 then (.inl (some (.int (gC (qG (tG t)))), t)) else
  if i = 2 then (.inl (some (.int (bcF ((qN (tG t)).1))), t)) else
  if i = 3 then (.inl (some (.int (bcF (gG (qG (tG t))))), t)) else
  if i = 4 then (.inl (some (.int (qN (tG t)).2), t)) else
  if i = 5 then (.inl (some (.int (qC (tG t))), t)) else
  if i = 6 then (.inl (some (.int (psL (qR (tG t)) (qC (tG t)).toNatClampNeg 0 0)), t)) else
  if i = 7 then (.inl (some (.int (hZ (tH t))), t)) else
  if i = 8 then (.inl (some (.int (gGr (qG (tG t)) (pFr (qG (tG t)) (qN (tG t)).1 ))), t)) else
  if i = 9 then (.inl (some (.int (hmL (qG (tG t)) 64 0)), t)) else
  if i = 10 then (if (decide (0 < gR (qG (tG t)))) = true then (if (decide ((qN (tG t)).1 &&& (gG (qG (tG t)) ^^^ (-1)) = 0)) = true then (.inl (some (.int 1), t)) else
      .inl (some (.int 0), t)) else
    .inl (some (.int 0), t)) else
  if i = 11 then (.inl (some (.int (tI t).2), t)) else
  .inr (xIAE, t)
theorem d_X11_count_0 : decode (mB M_X11_count) 0 = .ok (.aload_n 0, 1) := by decide +kernel
theorem d_X11_count_1 : decode (mB M_X11_count) 1 = .ok (.getfield 26, 3) := by decide +kernel
theorem d_X11_count_4 : decode (mB M_X11_count) 4 = .ok (.getfield 42, 3) := by decide +kernel
theorem d_X11_count_7 : decode (mB M_X11_count) 7 = .ok (.astore_n 2, 1) := by decide +kernel
theorem d_X11_count_8 : decode (mB M_X11_count) 8 = .ok (.iload_n 1, 1) := by decide +kernel
theorem d_X11_count_9 : decode (mB M_X11_count) 9 = .ok (.tableswitch 187 0 11 #[63, 68, 73, 87, 95, 106, 114, 122, 130, 145, 153, 179], 63) := by decide +kernel
theorem d_X11_count_72 : decode (mB M_X11_count) 72 = .ok (.aload_n 2, 1) := by decide +kernel
theorem d_X11_count_73 : decode (mB M_X11_count) 73 = .ok (.getfield 189, 3) := by decide +kernel
theorem d_X11_count_76 : decode (mB M_X11_count) 76 = .ok (.ireturn, 1) := by decide +kernel
theorem d_X11_count_77 : decode (mB M_X11_count) 77 = .ok (.aload_n 2, 1) := by decide +kernel
theorem d_X11_count_78 : decode (mB M_X11_count) 78 = .ok (.getfield 151, 3) := by decide +kernel
theorem d_X11_count_81 : decode (mB M_X11_count) 81 = .ok (.ireturn, 1) := by decide +kernel
theorem d_X11_count_82 : decode (mB M_X11_count) 82 = .ok (.aload_n 0, 1) := by decide +kernel
theorem d_X11_count_83 : decode (mB M_X11_count) 83 = .ok (.getfield 26, 3) := by decide +kernel
theorem d_X11_count_86 : decode (mB M_X11_count) 86 = .ok (.getfield 158, 3) := by decide +kernel
theorem d_X11_count_89 : decode (mB M_X11_count) 89 = .ok (.getfield 162, 3) := by decide +kernel
theorem d_X11_count_92 : decode (mB M_X11_count) 92 = .ok (.invokestatic 133, 3) := by decide +kernel
theorem d_X11_count_95 : decode (mB M_X11_count) 95 = .ok (.ireturn, 1) := by decide +kernel
theorem d_X11_count_96 : decode (mB M_X11_count) 96 = .ok (.aload_n 2, 1) := by decide +kernel
theorem d_X11_count_97 : decode (mB M_X11_count) 97 = .ok (.getfield 167, 3) := by decide +kernel
theorem d_X11_count_100 : decode (mB M_X11_count) 100 = .ok (.invokestatic 133, 3) := by decide +kernel
theorem d_X11_count_103 : decode (mB M_X11_count) 103 = .ok (.ireturn, 1) := by decide +kernel
theorem d_X11_count_104 : decode (mB M_X11_count) 104 = .ok (.aload_n 0, 1) := by decide +kernel
theorem d_X11_count_105 : decode (mB M_X11_count) 105 = .ok (.getfield 26, 3) := by decide +kernel
theorem d_X11_count_108 : decode (mB M_X11_count) 108 = .ok (.getfield 158, 3) := by decide +kernel
theorem d_X11_count_111 : decode (mB M_X11_count) 111 = .ok (.getfield 192, 3) := by decide +kernel
theorem d_X11_count_114 : decode (mB M_X11_count) 114 = .ok (.ireturn, 1) := by decide +kernel
theorem d_X11_count_115 : decode (mB M_X11_count) 115 = .ok (.aload_n 0, 1) := by decide +kernel
theorem d_X11_count_116 : decode (mB M_X11_count) 116 = .ok (.getfield 26, 3) := by decide +kernel
theorem d_X11_count_119 : decode (mB M_X11_count) 119 = .ok (.getfield 195, 3) := by decide +kernel
theorem d_X11_count_122 : decode (mB M_X11_count) 122 = .ok (.ireturn, 1) := by decide +kernel
theorem d_X11_count_123 : decode (mB M_X11_count) 123 = .ok (.aload_n 0, 1) := by decide +kernel
theorem d_X11_count_124 : decode (mB M_X11_count) 124 = .ok (.getfield 26, 3) := by decide +kernel
theorem d_X11_count_127 : decode (mB M_X11_count) 127 = .ok (.invokevirtual 198, 3) := by decide +kernel
theorem d_X11_count_130 : decode (mB M_X11_count) 130 = .ok (.ireturn, 1) := by decide +kernel
theorem d_X11_count_131 : decode (mB M_X11_count) 131 = .ok (.aload_n 0, 1) := by decide +kernel
theorem d_X11_count_132 : decode (mB M_X11_count) 132 = .ok (.getfield 36, 3) := by decide +kernel
theorem d_X11_count_135 : decode (mB M_X11_count) 135 = .ok (.getfield 201, 3) := by decide +kernel
theorem d_X11_count_138 : decode (mB M_X11_count) 138 = .ok (.ireturn, 1) := by decide +kernel
theorem d_X11_count_139 : decode (mB M_X11_count) 139 = .ok (.aload_n 2, 1) := by decide +kernel
theorem d_X11_count_140 : decode (mB M_X11_count) 140 = .ok (.aload_n 0, 1) := by decide +kernel
theorem d_X11_count_141 : decode (mB M_X11_count) 141 = .ok (.getfield 26, 3) := by decide +kernel
theorem d_X11_count_144 : decode (mB M_X11_count) 144 = .ok (.getfield 158, 3) := by decide +kernel
theorem d_X11_count_147 : decode (mB M_X11_count) 147 = .ok (.invokevirtual 204, 3) := by decide +kernel
theorem d_X11_count_150 : decode (mB M_X11_count) 150 = .ok (.invokevirtual 207, 3) := by decide +kernel
theorem d_X11_count_153 : decode (mB M_X11_count) 153 = .ok (.ireturn, 1) := by decide +kernel
theorem d_X11_count_154 : decode (mB M_X11_count) 154 = .ok (.aload_n 0, 1) := by decide +kernel
theorem d_X11_count_155 : decode (mB M_X11_count) 155 = .ok (.getfield 49, 3) := by decide +kernel
theorem d_X11_count_158 : decode (mB M_X11_count) 158 = .ok (.invokevirtual 210, 3) := by decide +kernel
theorem d_X11_count_161 : decode (mB M_X11_count) 161 = .ok (.ireturn, 1) := by decide +kernel
theorem d_X11_count_162 : decode (mB M_X11_count) 162 = .ok (.aload_n 2, 1) := by decide +kernel
theorem d_X11_count_163 : decode (mB M_X11_count) 163 = .ok (.invokevirtual 213, 3) := by decide +kernel
theorem d_X11_count_166 : decode (mB M_X11_count) 166 = .ok (.ifCond .eq 20, 3) := by decide +kernel
theorem d_X11_count_169 : decode (mB M_X11_count) 169 = .ok (.aload_n 0, 1) := by decide +kernel
theorem d_X11_count_170 : decode (mB M_X11_count) 170 = .ok (.getfield 26, 3) := by decide +kernel
theorem d_X11_count_173 : decode (mB M_X11_count) 173 = .ok (.getfield 158, 3) := by decide +kernel
theorem d_X11_count_176 : decode (mB M_X11_count) 176 = .ok (.invokevirtual 216, 3) := by decide +kernel
theorem d_X11_count_179 : decode (mB M_X11_count) 179 = .ok (.ifCond .eq 7, 3) := by decide +kernel
theorem d_X11_count_182 : decode (mB M_X11_count) 182 = .ok (.iconst 1, 1) := by decide +kernel
theorem d_X11_count_183 : decode (mB M_X11_count) 183 = .ok (.goto 4, 3) := by decide +kernel
theorem d_X11_count_186 : decode (mB M_X11_count) 186 = .ok (.iconst 0, 1) := by decide +kernel
theorem d_X11_count_187 : decode (mB M_X11_count) 187 = .ok (.ireturn, 1) := by decide +kernel
theorem d_X11_count_188 : decode (mB M_X11_count) 188 = .ok (.aload_n 0, 1) := by decide +kernel
theorem d_X11_count_189 : decode (mB M_X11_count) 189 = .ok (.getfield 10, 3) := by decide +kernel
theorem d_X11_count_192 : decode (mB M_X11_count) 192 = .ok (.getfield 91, 3) := by decide +kernel
theorem d_X11_count_195 : decode (mB M_X11_count) 195 = .ok (.ireturn, 1) := by decide +kernel
theorem c_count {E : mEnv} (hE : E.1.stackTraces = false) (m : List mE) (t : cT) (i : Int32) (hq : ¬ qC (tG t) < 0) : Rc E M_X11_count m [.ref 100, .int i] t (o_count t i) := by
  refine Rc.of hE rfl pn_X11 (Nat.le_of_ble_eq_true rfl) ?_
  refine g_eq (S' := (0, [some (.ref 100), some (.int i), none], [], (m, cw t))) rfl ?_
  refine g_aload_n d_X11_count_0 rfl ?_
  refine g_getf d_X11_count_1 f_X11_26 rfl rfl ?_
  refine g_getf d_X11_count_4 f_X11_42 rfl rfl ?_
  refine g_astore_n (L' := [some (.ref 100), some (.int i), some (.ref 105)]) d_X11_count_7 rfl rfl ?_
  refine g_iload_n d_X11_count_8 rfl ?_
  by_cases t_9_0 : i = 0
  · refine g_tabIn (off := 63) (tgt := 72) d_X11_count_9 (by rw [t_9_0]; decide) (by rw [t_9_0]; decide) (by rw [t_9_0]; rfl) (by decide) ?_
    refine g_aload_n d_X11_count_72 rfl ?_
    refine g_getf d_X11_count_73 f_X11_189 rfl rfl ?_
    rw [show o_count t i = .inl (some (.int (gR (qG (tG t)))), t) by simp only [o_count, eq_true t_9_0, ↓reduceIte, Bool.false_eq_true, Bool.true_eq_false, not_true_eq_false, not_false_eq_true]; try rfl]
    exact g_retI d_X11_count_76 rfl (rfl) (rfl)
  by_cases t_9_1 : i = 1
  · refine g_tabIn (off := 68) (tgt := 77) d_X11_count_9 (by rw [t_9_1]; decide) (by rw [t_9_1]; decide) (by rw [t_9_1]; rfl) (by decide) ?_
    refine g_aload_n d_X11_count_77 rfl ?_
    refine g_getf d_X11_count_78 f_X11_151 rfl rfl ?_
    rw [show o_count t i = .inl (some (.int (gC (qG (tG t)))), t) by simp only [o_count, eq_false t_9_0, eq_true t_9_1, ↓reduceIte, Bool.false_eq_true, Bool.true_eq_false, not_true_eq_false, not_false_eq_true]; try rfl]
    exact g_retI d_X11_count_81 rfl (rfl) (rfl)
  by_cases t_9_2 : i = 2
  · refine g_tabIn (off := 73) (tgt := 82) d_X11_count_9 (by rw [t_9_2]; decide) (by rw [t_9_2]; decide) (by rw [t_9_2]; rfl) (by decide) ?_
    refine g_aload_n d_X11_count_82 rfl ?_
    refine g_getf d_X11_count_83 f_X11_26 rfl rfl ?_
    refine g_getf d_X11_count_86 f_X11_158 rfl rfl ?_
    refine g_getf d_X11_count_89 f_X11_162 rfl rfl ?_
    refine g_callS (As := [.long ((qN (tG t)).1)]) d_X11_count_92 o_J13_bitCount_95d88 l_X11_133 ⟨Nat.le_of_ble_eq_true rfl, Nat.le_of_ble_eq_true rfl⟩ (c_bitCount hE ((qN (tG t)).1) _) rfl rfl ?_ (Nat.zero_add _)
    rw [show o_count t i = .inl (some (.int (bcF ((qN (tG t)).1))), t) by simp only [o_count, eq_false t_9_0, eq_false t_9_1, eq_true t_9_2, ↓reduceIte, Bool.false_eq_true, Bool.true_eq_false, not_true_eq_false, not_false_eq_true]; try rfl]
    exact g_retI d_X11_count_95 rfl (rfl) (rfl)
  by_cases t_9_3 : i = 3
  · refine g_tabIn (off := 87) (tgt := 96) d_X11_count_9 (by rw [t_9_3]; decide) (by rw [t_9_3]; decide) (by rw [t_9_3]; rfl) (by decide) ?_
    refine g_aload_n d_X11_count_96 rfl ?_
    refine g_getf d_X11_count_97 f_X11_167 rfl rfl ?_
    refine g_callS (As := [.long (gG (qG (tG t)))]) d_X11_count_100 o_J13_bitCount_95d88 l_X11_133 ⟨Nat.le_of_ble_eq_true rfl, Nat.le_of_ble_eq_true rfl⟩ (c_bitCount hE (gG (qG (tG t))) _) rfl rfl ?_ (Nat.zero_add _)
    rw [show o_count t i = .inl (some (.int (bcF (gG (qG (tG t))))), t) by simp only [o_count, eq_false t_9_0, eq_false t_9_1, eq_false t_9_2, eq_true t_9_3, ↓reduceIte, Bool.false_eq_true, Bool.true_eq_false, not_true_eq_false, not_false_eq_true]; try rfl]
    exact g_retI d_X11_count_103 rfl (rfl) (rfl)
  by_cases t_9_4 : i = 4
  · refine g_tabIn (off := 95) (tgt := 104) d_X11_count_9 (by rw [t_9_4]; decide) (by rw [t_9_4]; decide) (by rw [t_9_4]; rfl) (by decide) ?_
    refine g_aload_n d_X11_count_104 rfl ?_
    refine g_getf d_X11_count_105 f_X11_26 rfl rfl ?_
    refine g_getf d_X11_count_108 f_X11_158 rfl rfl ?_
    refine g_getf d_X11_count_111 f_X11_192 rfl rfl ?_
    rw [show o_count t i = .inl (some (.int (qN (tG t)).2), t) by simp only [o_count, eq_false t_9_0, eq_false t_9_1, eq_false t_9_2, eq_false t_9_3, eq_true t_9_4, ↓reduceIte, Bool.false_eq_true, Bool.true_eq_false, not_true_eq_false, not_false_eq_true]; try rfl]
    exact g_retI d_X11_count_114 rfl (rfl) (rfl)
  by_cases t_9_5 : i = 5
  · refine g_tabIn (off := 106) (tgt := 115) d_X11_count_9 (by rw [t_9_5]; decide) (by rw [t_9_5]; decide) (by rw [t_9_5]; rfl) (by decide) ?_
    refine g_aload_n d_X11_count_115 rfl ?_
    refine g_getf d_X11_count_116 f_X11_26 rfl rfl ?_
    refine g_getf d_X11_count_119 f_X11_195 rfl rfl ?_
    rw [show o_count t i = .inl (some (.int (qC (tG t))), t) by simp only [o_count, eq_false t_9_0, eq_false t_9_1, eq_false t_9_2, eq_false t_9_3, eq_false t_9_4, eq_true t_9_5, ↓reduceIte, Bool.false_eq_true, Bool.true_eq_false, not_true_eq_false, not_false_eq_true]; try rfl]
    exact g_retI d_X11_count_122 rfl (rfl) (rfl)
  by_cases t_9_6 : i = 6
  · refine g_tabIn (off := 114) (tgt := 123) d_X11_count_9 (by rw [t_9_6]; decide) (by rw [t_9_6]; decide) (by rw [t_9_6]; rfl) (by decide) ?_
    refine g_aload_n d_X11_count_123 rfl ?_
    refine g_getf d_X11_count_124 f_X11_26 rfl rfl ?_
    refine g_callV (As := []) d_X11_count_127 o_X0_pushes l_X11_198 ⟨Nat.le_of_ble_eq_true rfl, Nat.le_of_ble_eq_true rfl⟩ (c_pushes hE m t (qC (tG t)).toNatClampNeg (Int32.toNatClampNeg_lt _) (nI_cl hq)) rfl rfl rfl rfl rfl rfl ?_ (Nat.zero_add _)
    rw [show o_count t i = .inl (some (.int (psL (qR (tG t)) (qC (tG t)).toNatClampNeg 0 0)), t) by simp only [o_count, eq_false t_9_0, eq_false t_9_1, eq_false t_9_2, eq_false t_9_3, eq_false t_9_4, eq_false t_9_5, eq_true t_9_6, ↓reduceIte, Bool.false_eq_true, Bool.true_eq_false, not_true_eq_false, not_false_eq_true]; try rfl]
    exact g_retI d_X11_count_130 rfl (rfl) (rfl)
  by_cases t_9_7 : i = 7
  · refine g_tabIn (off := 122) (tgt := 131) d_X11_count_9 (by rw [t_9_7]; decide) (by rw [t_9_7]; decide) (by rw [t_9_7]; rfl) (by decide) ?_
    refine g_aload_n d_X11_count_131 rfl ?_
    refine g_getf d_X11_count_132 f_X11_36 rfl rfl ?_
    refine g_getf d_X11_count_135 f_X11_201 rfl rfl ?_
    rw [show o_count t i = .inl (some (.int (hZ (tH t))), t) by simp only [o_count, eq_false t_9_0, eq_false t_9_1, eq_false t_9_2, eq_false t_9_3, eq_false t_9_4, eq_false t_9_5, eq_false t_9_6, eq_true t_9_7, ↓reduceIte, Bool.false_eq_true, Bool.true_eq_false, not_true_eq_false, not_false_eq_true]; try rfl]
    exact g_retI d_X11_count_138 rfl (rfl) (rfl)
  by_cases t_9_8 : i = 8
  · refine g_tabIn (off := 130) (tgt := 139) d_X11_count_9 (by rw [t_9_8]; decide) (by rw [t_9_8]; decide) (by rw [t_9_8]; rfl) (by decide) ?_
    refine g_aload_n d_X11_count_139 rfl ?_
    refine g_aload_n d_X11_count_140 rfl ?_
    refine g_getf d_X11_count_141 f_X11_26 rfl rfl ?_
    refine g_getf d_X11_count_144 f_X11_158 rfl rfl ?_
    refine g_callV (As := []) d_X11_count_147 o_X6_free l_X11_204 ⟨Nat.le_of_ble_eq_true rfl, Nat.le_of_ble_eq_true rfl⟩ (c_free hE 106 105 (qG (tG t)) (qN (tG t)).1 (qN (tG t)).2 _ rfl rfl ) rfl rfl rfl rfl rfl rfl ?_ (Nat.zero_add _)
    refine g_callV (As := [.long (pFr (qG (tG t)) (qN (tG t)).1 )]) d_X11_count_150 o_X2_groups l_X11_207 ⟨Nat.le_of_ble_eq_true rfl, Nat.le_of_ble_eq_true rfl⟩ (c_groups hE 105 (qG (tG t)) _ rfl (pFr (qG (tG t)) (qN (tG t)).1 )) rfl rfl rfl rfl rfl rfl ?_ (Nat.zero_add _)
    rw [show o_count t i = .inl (some (.int (gGr (qG (tG t)) (pFr (qG (tG t)) (qN (tG t)).1 ))), t) by simp only [o_count, eq_false t_9_0, eq_false t_9_1, eq_false t_9_2, eq_false t_9_3, eq_false t_9_4, eq_false t_9_5, eq_false t_9_6, eq_false t_9_7, eq_true t_9_8, ↓reduceIte, Bool.false_eq_true, Bool.true_eq_false, not_true_eq_false, not_false_eq_true]; try rfl]
    exact g_retI d_X11_count_153 rfl (rfl) (rfl)
  by_cases t_9_9 : i = 9
  · refine g_tabIn (off := 145) (tgt := 154) d_X11_count_9 (by rw [t_9_9]; decide) (by rw [t_9_9]; decide) (by rw [t_9_9]; rfl) (by decide) ?_
    refine g_aload_n d_X11_count_154 rfl ?_
    refine g_getf d_X11_count_155 f_X11_49 rfl rfl ?_
    refine g_callV (As := []) d_X11_count_158 o_X1_howMany l_X11_210 ⟨Nat.le_of_ble_eq_true rfl, Nat.le_of_ble_eq_true rfl⟩ (c_howMany hE m t) rfl rfl rfl rfl rfl rfl ?_ (Nat.zero_add _)
    rw [show o_count t i = .inl (some (.int (hmL (qG (tG t)) 64 0)), t) by simp only [o_count, eq_false t_9_0, eq_false t_9_1, eq_false t_9_2, eq_false t_9_3, eq_false t_9_4, eq_false t_9_5, eq_false t_9_6, eq_false t_9_7, eq_false t_9_8, eq_true t_9_9, ↓reduceIte, Bool.false_eq_true, Bool.true_eq_false, not_true_eq_false, not_false_eq_true]; try rfl]
    exact g_retI d_X11_count_161 rfl (rfl) (rfl)
  by_cases t_9_10 : i = 10
  · refine g_tabIn (off := 153) (tgt := 162) d_X11_count_9 (by rw [t_9_10]; decide) (by rw [t_9_10]; decide) (by rw [t_9_10]; rfl) (by decide) ?_
    refine g_aload_n d_X11_count_162 rfl ?_
    refine g_callV (As := []) d_X11_count_163 o_X2_isLaid l_X11_213 ⟨Nat.le_of_ble_eq_true rfl, Nat.le_of_ble_eq_true rfl⟩ (c_isLaid hE 105 (qG (tG t)) _ rfl) rfl rfl rfl rfl rfl rfl ?_ (Nat.zero_add _)
    refine g_ifb_eq (tgt := 186) d_X11_count_166 (by decide) (fun c_166 => ?_) (fun c_166 => ?_)
    · refine g_iconst (v := 0) d_X11_count_186 (by decide) ?_
      rw [show o_count t i = .inl (some (.int 0), t) by simp only [o_count, eq_false t_9_0, eq_false t_9_1, eq_false t_9_2, eq_false t_9_3, eq_false t_9_4, eq_false t_9_5, eq_false t_9_6, eq_false t_9_7, eq_false t_9_8, eq_false t_9_9, eq_true t_9_10, c_166, ↓reduceIte, Bool.false_eq_true, Bool.true_eq_false, not_true_eq_false, not_false_eq_true]; try rfl]
      exact g_retI d_X11_count_187 rfl (rfl) (rfl)
    · refine g_aload_n d_X11_count_169 rfl ?_
      refine g_getf d_X11_count_170 f_X11_26 rfl rfl ?_
      refine g_getf d_X11_count_173 f_X11_158 rfl rfl ?_
      refine g_callV (As := []) d_X11_count_176 o_X6_isSolved l_X11_216 ⟨Nat.le_of_ble_eq_true rfl, Nat.le_of_ble_eq_true rfl⟩ (c_isSolved hE 106 105 (qG (tG t)) (qN (tG t)).1 (qN (tG t)).2 _ rfl rfl) rfl rfl rfl rfl rfl rfl ?_ (Nat.zero_add _)
      refine g_ifb_eq (tgt := 186) d_X11_count_179 (by decide) (fun c_179 => ?_) (fun c_179 => ?_)
      · refine g_iconst (v := 0) d_X11_count_186 (by decide) ?_
        rw [show o_count t i = .inl (some (.int 0), t) by simp only [o_count, eq_false t_9_0, eq_false t_9_1, eq_false t_9_2, eq_false t_9_3, eq_false t_9_4, eq_false t_9_5, eq_false t_9_6, eq_false t_9_7, eq_false t_9_8, eq_false t_9_9, eq_true t_9_10, c_166, c_179, ↓reduceIte, Bool.false_eq_true, Bool.true_eq_false, not_true_eq_false, not_false_eq_true]; try rfl]
        exact g_retI d_X11_count_187 rfl (rfl) (rfl)
      · refine g_iconst (v := 1) d_X11_count_182 (by decide) ?_
        refine g_goto (tgt := 187) d_X11_count_183 (by decide) ?_
        rw [show o_count t i = .inl (some (.int 1), t) by simp only [o_count, eq_false t_9_0, eq_false t_9_1, eq_false t_9_2, eq_false t_9_3, eq_false t_9_4, eq_false t_9_5, eq_false t_9_6, eq_false t_9_7, eq_false t_9_8, eq_false t_9_9, eq_true t_9_10, c_166, c_179, ↓reduceIte, Bool.false_eq_true, Bool.true_eq_false, not_true_eq_false, not_false_eq_true]; try rfl]
        exact g_retI d_X11_count_187 rfl (rfl) (rfl)
  by_cases t_9_11 : i = 11
  · refine g_tabIn (off := 179) (tgt := 188) d_X11_count_9 (by rw [t_9_11]; decide) (by rw [t_9_11]; decide) (by rw [t_9_11]; rfl) (by decide) ?_
    refine g_aload_n d_X11_count_188 rfl ?_
    refine g_getf d_X11_count_189 f_X11_10 rfl rfl ?_
    refine g_getf d_X11_count_192 f_X11_91 rfl rfl ?_
    rw [show o_count t i = .inl (some (.int (tI t).2), t) by simp only [o_count, eq_false t_9_0, eq_false t_9_1, eq_false t_9_2, eq_false t_9_3, eq_false t_9_4, eq_false t_9_5, eq_false t_9_6, eq_false t_9_7, eq_false t_9_8, eq_false t_9_9, eq_false t_9_10, eq_true t_9_11, ↓reduceIte, Bool.false_eq_true, Bool.true_eq_false, not_true_eq_false, not_false_eq_true]; try rfl]
    exact g_retI d_X11_count_195 rfl (rfl) (rfl)
  refine g_tabOut (tgt := 196) d_X11_count_9 (by have a0 : i.toInt ≠ 0 := sw_ne t_9_0; have a1 : i.toInt ≠ 1 := sw_ne t_9_1; have a2 : i.toInt ≠ 2 := sw_ne t_9_2; have a3 : i.toInt ≠ 3 := sw_ne t_9_3; have a4 : i.toInt ≠ 4 := sw_ne t_9_4; have a5 : i.toInt ≠ 5 := sw_ne t_9_5; have a6 : i.toInt ≠ 6 := sw_ne t_9_6; have a7 : i.toInt ≠ 7 := sw_ne t_9_7; have a8 : i.toInt ≠ 8 := sw_ne t_9_8; have a9 : i.toInt ≠ 9 := sw_ne t_9_9; have a10 : i.toInt ≠ 10 := sw_ne t_9_10; have a11 : i.toInt ≠ 11 := sw_ne t_9_11; omega) (by decide) ?_
  rw [show o_count t i = .inr (xIAE, t) by simp only [o_count, eq_false t_9_0, eq_false t_9_1, eq_false t_9_2, eq_false t_9_3, eq_false t_9_4, eq_false t_9_5, eq_false t_9_6, eq_false t_9_7, eq_false t_9_8, eq_false t_9_9, eq_false t_9_10, eq_false t_9_11, ↓reduceIte, Bool.false_eq_true, Bool.true_eq_false, not_true_eq_false, not_false_eq_true]; try rfl]
  exact g_throw (n := 0) th_X11_count_196 rfl
def o_push (t : cT) (c d : Int32) : mO :=
  if d < 0 then (.inr (xIAE, t)) else
  if d < 4 then (if (decide (0 < gR (qG (tG t)))) = true then (if (hasF ((qN (tG t)).1) c) = true then (if (pPr (qG (tG t)) (qN (tG t)).1 (qN (tG t)).2 c d) = 0 then (if (qC (tG (wG (wH t (hBeg (tH t) (tG t))) (puQ (tG (wH t (hBeg (tH t) (tG t)))) c d)))) ≤ 400 then (.inl (some (.int ((qC (tG (wH (wG (wH t (hBeg (tH t) (tG t))) (puQ (tG (wH t (hBeg (tH t) (tG t)))) c d)) (cmtH (tH (wG (wH t (hBeg (tH t) (tG t))) (puQ (tG (wH t (hBeg (tH t) (tG t)))) c d))))))) - (qC (tG (wH t (hBeg (tH t) (tG t))))))), (wH (wG (wH t (hBeg (tH t) (tG t))) (puQ (tG (wH t (hBeg (tH t) (tG t)))) c d)) (cmtH (tH (wG (wH t (hBeg (tH t) (tG t))) (puQ (tG (wH t (hBeg (tH t) (tG t)))) c d))))))) else
          .inr (xAE, (wG (wG (wH t (hBeg (tH t) (tG t))) (puQ (tG (wH t (hBeg (tH t) (tG t)))) c d)) (rollQ (tH (wG (wH t (hBeg (tH t) (tG t))) (puQ (tG (wH t (hBeg (tH t) (tG t)))) c d))) (tG (wG (wH t (hBeg (tH t) (tG t))) (puQ (tG (wH t (hBeg (tH t) (tG t)))) c d))))))) else
        .inr (xUOE, (keT t (pPr (qG (tG t)) (qN (tG t)).1 (qN (tG t)).2 c d) (pPd (qG (tG t)) (pPr (qG (tG t)) (qN (tG t)).1 (qN (tG t)).2 c d) c d)))) else
      .inr (xIOOBE, t)) else
    .inr (xISE, t)) else
  .inr (xIAE, t)
theorem d_X11_push_0 : decode (mB M_X11_push) 0 = .ok (.aload_n 0, 1) := by decide +kernel
theorem d_X11_push_1 : decode (mB M_X11_push) 1 = .ok (.iload_n 1, 1) := by decide +kernel
theorem d_X11_push_2 : decode (mB M_X11_push) 2 = .ok (.iload_n 2, 1) := by decide +kernel
theorem d_X11_push_3 : decode (mB M_X11_push) 3 = .ok (.invokevirtual 303, 3) := by decide +kernel
theorem d_X11_push_6 : decode (mB M_X11_push) 6 = .ok (.aload_n 0, 1) := by decide +kernel
theorem d_X11_push_7 : decode (mB M_X11_push) 7 = .ok (.getfield 36, 3) := by decide +kernel
theorem d_X11_push_10 : decode (mB M_X11_push) 10 = .ok (.aload_n 0, 1) := by decide +kernel
theorem d_X11_push_11 : decode (mB M_X11_push) 11 = .ok (.getfield 26, 3) := by decide +kernel
theorem d_X11_push_14 : decode (mB M_X11_push) 14 = .ok (.invokevirtual 293, 3) := by decide +kernel
theorem d_X11_push_17 : decode (mB M_X11_push) 17 = .ok (.aload_n 0, 1) := by decide +kernel
theorem d_X11_push_18 : decode (mB M_X11_push) 18 = .ok (.getfield 26, 3) := by decide +kernel
theorem d_X11_push_21 : decode (mB M_X11_push) 21 = .ok (.getfield 195, 3) := by decide +kernel
theorem d_X11_push_24 : decode (mB M_X11_push) 24 = .ok (.istore_n 3, 1) := by decide +kernel
theorem d_X11_push_25 : decode (mB M_X11_push) 25 = .ok (.aload_n 0, 1) := by decide +kernel
theorem d_X11_push_26 : decode (mB M_X11_push) 26 = .ok (.getfield 26, 3) := by decide +kernel
theorem d_X11_push_29 : decode (mB M_X11_push) 29 = .ok (.iload_n 1, 1) := by decide +kernel
theorem d_X11_push_30 : decode (mB M_X11_push) 30 = .ok (.iload_n 2, 1) := by decide +kernel
theorem d_X11_push_31 : decode (mB M_X11_push) 31 = .ok (.invokevirtual 306, 3) := by decide +kernel
theorem d_X11_push_34 : decode (mB M_X11_push) 34 = .ok (.aload_n 0, 1) := by decide +kernel
theorem d_X11_push_35 : decode (mB M_X11_push) 35 = .ok (.invokevirtual 309, 3) := by decide +kernel
theorem d_X11_push_38 : decode (mB M_X11_push) 38 = .ok (.aload_n 0, 1) := by decide +kernel
theorem d_X11_push_39 : decode (mB M_X11_push) 39 = .ok (.getfield 26, 3) := by decide +kernel
theorem d_X11_push_42 : decode (mB M_X11_push) 42 = .ok (.getfield 195, 3) := by decide +kernel
theorem d_X11_push_45 : decode (mB M_X11_push) 45 = .ok (.iload_n 3, 1) := by decide +kernel
theorem d_X11_push_46 : decode (mB M_X11_push) 46 = .ok (.isub, 1) := by decide +kernel
theorem d_X11_push_47 : decode (mB M_X11_push) 47 = .ok (.ireturn, 1) := by decide +kernel
theorem c_push {E : mEnv} (hE : E.1.stackTraces = false) (m : List mE) (t : cT) (c d : Int32)  : Rc E M_X11_push m [.ref 100, .int c, .int d] t (o_push t c d) := by
  refine Rc.of hE rfl pn_X11 (Nat.le_of_ble_eq_true rfl) ?_
  refine g_eq (S' := (0, [some (.ref 100), some (.int c), some (.int d), none], [], (m, cw t))) rfl ?_
  refine g_aload_n d_X11_push_0 rfl ?_
  refine g_iload_n d_X11_push_1 rfl ?_
  refine g_iload_n d_X11_push_2 rfl ?_
  by_cases h_3_0 : d < 0
  · rw [show o_push t c d = .inr (xIAE, t) by simp only [o_push, eq_true h_3_0, ↓reduceIte, Bool.false_eq_true, Bool.true_eq_false, not_true_eq_false, not_false_eq_true]; try rfl]
    have hc : Rx E M_X11_requirePush [.ref 100, .int c, .int d] (m, cw t) xIAE (m, cw t) := by have hc := c_requirePush hE m t c d; rw [show o_requirePush t c d = .inr (xIAE, t) by simp only [o_requirePush, eq_true h_3_0, ↓reduceIte, Bool.false_eq_true, Bool.true_eq_false, not_true_eq_false, not_false_eq_true]; try rfl] at hc; exact hc
    exact g_xcallV (As := [.int c, .int d]) d_X11_push_3 o_X11_requirePush l_X11_303 ⟨Nat.le_of_ble_eq_true rfl, Nat.le_of_ble_eq_true rfl⟩ hc (rfl) rfl rfl rfl rfl
  by_cases h_3_1 : d < 4
  · by_cases h_3_2 : (decide (0 < gR (qG (tG t)))) = true
    · by_cases h_3_3 : (hasF ((qN (tG t)).1) c) = true
      · by_cases h_3_4 : (pPr (qG (tG t)) (qN (tG t)).1 (qN (tG t)).2 c d) = 0
        · have hc : Rt E M_X11_requirePush 0 [.ref 100, .int c, .int d] (m, cw t) none (m, cw t) := by have hc := c_requirePush hE m t c d; rw [show o_requirePush t c d = .inl (none, t) by simp only [o_requirePush, eq_false h_3_0, eq_true h_3_1, eq_true h_3_2, eq_true h_3_3, eq_true h_3_4, ↓reduceIte, Bool.false_eq_true, Bool.true_eq_false, not_true_eq_false, not_false_eq_true]; try rfl] at hc; exact hc
          refine g_callV (As := [.int c, .int d]) d_X11_push_3 o_X11_requirePush l_X11_303 ⟨Nat.le_of_ble_eq_true rfl, Nat.le_of_ble_eq_true rfl⟩ hc (rfl) rfl rfl rfl rfl rfl ?_ (Nat.zero_add _)
          refine g_aload_n d_X11_push_6 rfl ?_
          refine g_getf d_X11_push_7 f_X11_36 rfl rfl ?_
          refine g_aload_n d_X11_push_10 rfl ?_
          refine g_getf d_X11_push_11 f_X11_26 rfl rfl ?_
          refine g_callV (As := [.ref 104]) d_X11_push_14 o_X3_begin l_X11_293 ⟨Nat.le_of_ble_eq_true rfl, Nat.le_of_ble_eq_true rfl⟩ (c_hbegin hE m t) rfl rfl rfl rfl rfl rfl ?_ (Nat.zero_add _)
          refine g_aload_n d_X11_push_17 rfl ?_
          refine g_getf d_X11_push_18 f_X11_26 rfl rfl ?_
          refine g_getf d_X11_push_21 f_X11_195 rfl rfl ?_
          refine g_istore_n (L' := [some (.ref 100), some (.int c), some (.int d), some (.int (qC (tG (wH t (hBeg (tH t) (tG t))))))]) d_X11_push_24 rfl rfl ?_
          refine g_aload_n d_X11_push_25 rfl ?_
          refine g_getf d_X11_push_26 f_X11_26 rfl rfl ?_
          refine g_iload_n d_X11_push_29 rfl ?_
          refine g_iload_n d_X11_push_30 rfl ?_
          refine g_callV (As := [.int c, .int d]) d_X11_push_31 o_X0_pushBox l_X11_306 ⟨Nat.le_of_ble_eq_true rfl, Nat.le_of_ble_eq_true rfl⟩ (c_pushBox hE m (wH t (hBeg (tH t) (tG t))) c d) rfl rfl rfl rfl rfl rfl ?_ (Nat.zero_add _)
          refine g_aload_n d_X11_push_34 rfl ?_
          by_cases h_35_0 : (qC (tG (wG (wH t (hBeg (tH t) (tG t))) (puQ (tG (wH t (hBeg (tH t) (tG t)))) c d)))) ≤ 400
          · have hc : Rt E M_X11_commitOrThrow 0 [.ref 100] (m, cw (wG (wH t (hBeg (tH t) (tG t))) (puQ (tG (wH t (hBeg (tH t) (tG t)))) c d))) none (m, cw (wH (wG (wH t (hBeg (tH t) (tG t))) (puQ (tG (wH t (hBeg (tH t) (tG t)))) c d)) (cmtH (tH (wG (wH t (hBeg (tH t) (tG t))) (puQ (tG (wH t (hBeg (tH t) (tG t)))) c d)))))) := by have hc := c_commitOrThrow hE m (wG (wH t (hBeg (tH t) (tG t))) (puQ (tG (wH t (hBeg (tH t) (tG t)))) c d)); rw [show o_commitOrThrow (wG (wH t (hBeg (tH t) (tG t))) (puQ (tG (wH t (hBeg (tH t) (tG t)))) c d)) = .inl (none, (wH (wG (wH t (hBeg (tH t) (tG t))) (puQ (tG (wH t (hBeg (tH t) (tG t)))) c d)) (cmtH (tH (wG (wH t (hBeg (tH t) (tG t))) (puQ (tG (wH t (hBeg (tH t) (tG t)))) c d)))))) by simp only [o_commitOrThrow, eq_true h_35_0, ↓reduceIte, Bool.false_eq_true, Bool.true_eq_false, not_true_eq_false, not_false_eq_true]; try rfl] at hc; exact hc
            refine g_callV (As := []) d_X11_push_35 o_X11_commitOrThrow l_X11_309 ⟨Nat.le_of_ble_eq_true rfl, Nat.le_of_ble_eq_true rfl⟩ hc (rfl) rfl rfl rfl rfl rfl ?_ (Nat.zero_add _)
            refine g_aload_n d_X11_push_38 rfl ?_
            refine g_getf d_X11_push_39 f_X11_26 rfl rfl ?_
            refine g_getf d_X11_push_42 f_X11_195 rfl rfl ?_
            refine g_iload_n d_X11_push_45 rfl ?_
            refine g_isub d_X11_push_46 ?_
            rw [show o_push t c d = .inl (some (.int ((qC (tG (wH (wG (wH t (hBeg (tH t) (tG t))) (puQ (tG (wH t (hBeg (tH t) (tG t)))) c d)) (cmtH (tH (wG (wH t (hBeg (tH t) (tG t))) (puQ (tG (wH t (hBeg (tH t) (tG t)))) c d))))))) - (qC (tG (wH t (hBeg (tH t) (tG t))))))), (wH (wG (wH t (hBeg (tH t) (tG t))) (puQ (tG (wH t (hBeg (tH t) (tG t)))) c d)) (cmtH (tH (wG (wH t (hBeg (tH t) (tG t))) (puQ (tG (wH t (hBeg (tH t) (tG t)))) c d)))))) by simp only [o_push, eq_false h_3_0, eq_true h_3_1, eq_true h_3_2, eq_true h_3_3, eq_true h_3_4, eq_true h_35_0, ↓reduceIte, Bool.false_eq_true, Bool.true_eq_false, not_true_eq_false, not_false_eq_true]; try rfl]
            exact g_retI d_X11_push_47 rfl (rfl) (rfl)
          rw [show o_push t c d = .inr (xAE, (wG (wG (wH t (hBeg (tH t) (tG t))) (puQ (tG (wH t (hBeg (tH t) (tG t)))) c d)) (rollQ (tH (wG (wH t (hBeg (tH t) (tG t))) (puQ (tG (wH t (hBeg (tH t) (tG t)))) c d))) (tG (wG (wH t (hBeg (tH t) (tG t))) (puQ (tG (wH t (hBeg (tH t) (tG t)))) c d)))))) by simp only [o_push, eq_false h_3_0, eq_true h_3_1, eq_true h_3_2, eq_true h_3_3, eq_true h_3_4, eq_false h_35_0, ↓reduceIte, Bool.false_eq_true, Bool.true_eq_false, not_true_eq_false, not_false_eq_true]; try rfl]
          have hc : Rx E M_X11_commitOrThrow [.ref 100] (m, cw (wG (wH t (hBeg (tH t) (tG t))) (puQ (tG (wH t (hBeg (tH t) (tG t)))) c d))) xAE (m, cw (wG (wG (wH t (hBeg (tH t) (tG t))) (puQ (tG (wH t (hBeg (tH t) (tG t)))) c d)) (rollQ (tH (wG (wH t (hBeg (tH t) (tG t))) (puQ (tG (wH t (hBeg (tH t) (tG t)))) c d))) (tG (wG (wH t (hBeg (tH t) (tG t))) (puQ (tG (wH t (hBeg (tH t) (tG t)))) c d)))))) := by have hc := c_commitOrThrow hE m (wG (wH t (hBeg (tH t) (tG t))) (puQ (tG (wH t (hBeg (tH t) (tG t)))) c d)); rw [show o_commitOrThrow (wG (wH t (hBeg (tH t) (tG t))) (puQ (tG (wH t (hBeg (tH t) (tG t)))) c d)) = .inr (xAE, (wG (wG (wH t (hBeg (tH t) (tG t))) (puQ (tG (wH t (hBeg (tH t) (tG t)))) c d)) (rollQ (tH (wG (wH t (hBeg (tH t) (tG t))) (puQ (tG (wH t (hBeg (tH t) (tG t)))) c d))) (tG (wG (wH t (hBeg (tH t) (tG t))) (puQ (tG (wH t (hBeg (tH t) (tG t)))) c d)))))) by simp only [o_commitOrThrow, eq_false h_35_0, ↓reduceIte, Bool.false_eq_true, Bool.true_eq_false, not_true_eq_false, not_false_eq_true]; try rfl] at hc; exact hc
          exact g_xcallV (As := []) d_X11_push_35 o_X11_commitOrThrow l_X11_309 ⟨Nat.le_of_ble_eq_true rfl, Nat.le_of_ble_eq_true rfl⟩ hc (rfl) rfl rfl rfl rfl
        rw [show o_push t c d = .inr (xUOE, (keT t (pPr (qG (tG t)) (qN (tG t)).1 (qN (tG t)).2 c d) (pPd (qG (tG t)) (pPr (qG (tG t)) (qN (tG t)).1 (qN (tG t)).2 c d) c d))) by simp only [o_push, eq_false h_3_0, eq_true h_3_1, eq_true h_3_2, eq_true h_3_3, eq_false h_3_4, ↓reduceIte, Bool.false_eq_true, Bool.true_eq_false, not_true_eq_false, not_false_eq_true]; try rfl]
        have hc : Rx E M_X11_requirePush [.ref 100, .int c, .int d] (m, cw t) xUOE (m, cw (keT t (pPr (qG (tG t)) (qN (tG t)).1 (qN (tG t)).2 c d) (pPd (qG (tG t)) (pPr (qG (tG t)) (qN (tG t)).1 (qN (tG t)).2 c d) c d))) := by have hc := c_requirePush hE m t c d; rw [show o_requirePush t c d = .inr (xUOE, (keT t (pPr (qG (tG t)) (qN (tG t)).1 (qN (tG t)).2 c d) (pPd (qG (tG t)) (pPr (qG (tG t)) (qN (tG t)).1 (qN (tG t)).2 c d) c d))) by simp only [o_requirePush, eq_false h_3_0, eq_true h_3_1, eq_true h_3_2, eq_true h_3_3, eq_false h_3_4, ↓reduceIte, Bool.false_eq_true, Bool.true_eq_false, not_true_eq_false, not_false_eq_true]; try rfl] at hc; exact hc
        exact g_xcallV (As := [.int c, .int d]) d_X11_push_3 o_X11_requirePush l_X11_303 ⟨Nat.le_of_ble_eq_true rfl, Nat.le_of_ble_eq_true rfl⟩ hc (rfl) rfl rfl rfl rfl
      rw [show o_push t c d = .inr (xIOOBE, t) by simp only [o_push, eq_false h_3_0, eq_true h_3_1, eq_true h_3_2, eq_false h_3_3, ↓reduceIte, Bool.false_eq_true, Bool.true_eq_false, not_true_eq_false, not_false_eq_true]; try rfl]
      have hc : Rx E M_X11_requirePush [.ref 100, .int c, .int d] (m, cw t) xIOOBE (m, cw t) := by have hc := c_requirePush hE m t c d; rw [show o_requirePush t c d = .inr (xIOOBE, t) by simp only [o_requirePush, eq_false h_3_0, eq_true h_3_1, eq_true h_3_2, eq_false h_3_3, ↓reduceIte, Bool.false_eq_true, Bool.true_eq_false, not_true_eq_false, not_false_eq_true]; try rfl] at hc; exact hc
      exact g_xcallV (As := [.int c, .int d]) d_X11_push_3 o_X11_requirePush l_X11_303 ⟨Nat.le_of_ble_eq_true rfl, Nat.le_of_ble_eq_true rfl⟩ hc (rfl) rfl rfl rfl rfl
    rw [show o_push t c d = .inr (xISE, t) by simp only [o_push, eq_false h_3_0, eq_true h_3_1, eq_false h_3_2, ↓reduceIte, Bool.false_eq_true, Bool.true_eq_false, not_true_eq_false, not_false_eq_true]; try rfl]
    have hc : Rx E M_X11_requirePush [.ref 100, .int c, .int d] (m, cw t) xISE (m, cw t) := by have hc := c_requirePush hE m t c d; rw [show o_requirePush t c d = .inr (xISE, t) by simp only [o_requirePush, eq_false h_3_0, eq_true h_3_1, eq_false h_3_2, ↓reduceIte, Bool.false_eq_true, Bool.true_eq_false, not_true_eq_false, not_false_eq_true]; try rfl] at hc; exact hc
    exact g_xcallV (As := [.int c, .int d]) d_X11_push_3 o_X11_requirePush l_X11_303 ⟨Nat.le_of_ble_eq_true rfl, Nat.le_of_ble_eq_true rfl⟩ hc (rfl) rfl rfl rfl rfl
  rw [show o_push t c d = .inr (xIAE, t) by simp only [o_push, eq_false h_3_0, eq_false h_3_1, ↓reduceIte, Bool.false_eq_true, Bool.true_eq_false, not_true_eq_false, not_false_eq_true]; try rfl]
  have hc : Rx E M_X11_requirePush [.ref 100, .int c, .int d] (m, cw t) xIAE (m, cw t) := by have hc := c_requirePush hE m t c d; rw [show o_requirePush t c d = .inr (xIAE, t) by simp only [o_requirePush, eq_false h_3_0, eq_false h_3_1, ↓reduceIte, Bool.false_eq_true, Bool.true_eq_false, not_true_eq_false, not_false_eq_true]; try rfl] at hc; exact hc
  exact g_xcallV (As := [.int c, .int d]) d_X11_push_3 o_X11_requirePush l_X11_303 ⟨Nat.le_of_ble_eq_true rfl, Nat.le_of_ble_eq_true rfl⟩ hc (rfl) rfl rfl rfl rfl
def o_longPush (t : cT) (c d : Int32) : mO :=
  if d < 0 then (.inr (xIAE, t)) else
  if d < 4 then (if (decide (0 < gR (qG (tG t)))) = true then (if (hasF ((qN (tG t)).1) c) = true then (if (pPr (qG (tG t)) (qN (tG t)).1 (qN (tG t)).2 c d) = 0 then (if (qC (tG (wG (wH t (hBeg (tH t) (tG t))) (poQ (tG (wH t (hBeg (tH t) (tG t)))) c d).1))) ≤ 400 then (.inl (some (.int (nI (poQ (tG (wH t (hBeg (tH t) (tG t)))) c d).2)), (wH (wG (wH t (hBeg (tH t) (tG t))) (poQ (tG (wH t (hBeg (tH t) (tG t)))) c d).1) (cmtH (tH (wG (wH t (hBeg (tH t) (tG t))) (poQ (tG (wH t (hBeg (tH t) (tG t)))) c d).1)))))) else
          .inr (xAE, (wG (wG (wH t (hBeg (tH t) (tG t))) (poQ (tG (wH t (hBeg (tH t) (tG t)))) c d).1) (rollQ (tH (wG (wH t (hBeg (tH t) (tG t))) (poQ (tG (wH t (hBeg (tH t) (tG t)))) c d).1)) (tG (wG (wH t (hBeg (tH t) (tG t))) (poQ (tG (wH t (hBeg (tH t) (tG t)))) c d).1)))))) else
        .inr (xUOE, (keT t (pPr (qG (tG t)) (qN (tG t)).1 (qN (tG t)).2 c d) (pPd (qG (tG t)) (pPr (qG (tG t)) (qN (tG t)).1 (qN (tG t)).2 c d) c d)))) else
      .inr (xIOOBE, t)) else
    .inr (xISE, t)) else
  .inr (xIAE, t)
theorem d_X11_longPush_0 : decode (mB M_X11_longPush) 0 = .ok (.aload_n 0, 1) := by decide +kernel
theorem d_X11_longPush_1 : decode (mB M_X11_longPush) 1 = .ok (.iload_n 1, 1) := by decide +kernel
theorem d_X11_longPush_2 : decode (mB M_X11_longPush) 2 = .ok (.iload_n 2, 1) := by decide +kernel
theorem d_X11_longPush_3 : decode (mB M_X11_longPush) 3 = .ok (.invokevirtual 303, 3) := by decide +kernel
theorem d_X11_longPush_6 : decode (mB M_X11_longPush) 6 = .ok (.aload_n 0, 1) := by decide +kernel
theorem d_X11_longPush_7 : decode (mB M_X11_longPush) 7 = .ok (.getfield 36, 3) := by decide +kernel
theorem d_X11_longPush_10 : decode (mB M_X11_longPush) 10 = .ok (.aload_n 0, 1) := by decide +kernel
theorem d_X11_longPush_11 : decode (mB M_X11_longPush) 11 = .ok (.getfield 26, 3) := by decide +kernel
theorem d_X11_longPush_14 : decode (mB M_X11_longPush) 14 = .ok (.invokevirtual 293, 3) := by decide +kernel
theorem d_X11_longPush_17 : decode (mB M_X11_longPush) 17 = .ok (.aload_n 0, 1) := by decide +kernel
theorem d_X11_longPush_18 : decode (mB M_X11_longPush) 18 = .ok (.getfield 26, 3) := by decide +kernel
theorem d_X11_longPush_21 : decode (mB M_X11_longPush) 21 = .ok (.iload_n 1, 1) := by decide +kernel
theorem d_X11_longPush_22 : decode (mB M_X11_longPush) 22 = .ok (.iload_n 2, 1) := by decide +kernel
theorem d_X11_longPush_23 : decode (mB M_X11_longPush) 23 = .ok (.invokevirtual 312, 3) := by decide +kernel
theorem d_X11_longPush_26 : decode (mB M_X11_longPush) 26 = .ok (.istore_n 3, 1) := by decide +kernel
theorem d_X11_longPush_27 : decode (mB M_X11_longPush) 27 = .ok (.aload_n 0, 1) := by decide +kernel
theorem d_X11_longPush_28 : decode (mB M_X11_longPush) 28 = .ok (.invokevirtual 309, 3) := by decide +kernel
theorem d_X11_longPush_31 : decode (mB M_X11_longPush) 31 = .ok (.iload_n 3, 1) := by decide +kernel
theorem d_X11_longPush_32 : decode (mB M_X11_longPush) 32 = .ok (.ireturn, 1) := by decide +kernel
theorem c_longPush {E : mEnv} (hE : E.1.stackTraces = false) (m : List mE) (t : cT) (c d : Int32)  : Rc E M_X11_longPush m [.ref 100, .int c, .int d] t (o_longPush t c d) := by
  refine Rc.of hE rfl pn_X11 (Nat.le_of_ble_eq_true rfl) ?_
  refine g_eq (S' := (0, [some (.ref 100), some (.int c), some (.int d), none], [], (m, cw t))) rfl ?_
  refine g_aload_n d_X11_longPush_0 rfl ?_
  refine g_iload_n d_X11_longPush_1 rfl ?_
  refine g_iload_n d_X11_longPush_2 rfl ?_
  by_cases h_3_0 : d < 0
  · rw [show o_longPush t c d = .inr (xIAE, t) by simp only [o_longPush, eq_true h_3_0, ↓reduceIte, Bool.false_eq_true, Bool.true_eq_false, not_true_eq_false, not_false_eq_true]; try rfl]
    have hc : Rx E M_X11_requirePush [.ref 100, .int c, .int d] (m, cw t) xIAE (m, cw t) := by have hc := c_requirePush hE m t c d; rw [show o_requirePush t c d = .inr (xIAE, t) by simp only [o_requirePush, eq_true h_3_0, ↓reduceIte, Bool.false_eq_true, Bool.true_eq_false, not_true_eq_false, not_false_eq_true]; try rfl] at hc; exact hc
    exact g_xcallV (As := [.int c, .int d]) d_X11_longPush_3 o_X11_requirePush l_X11_303 ⟨Nat.le_of_ble_eq_true rfl, Nat.le_of_ble_eq_true rfl⟩ hc (rfl) rfl rfl rfl rfl
  by_cases h_3_1 : d < 4
  · by_cases h_3_2 : (decide (0 < gR (qG (tG t)))) = true
    · by_cases h_3_3 : (hasF ((qN (tG t)).1) c) = true
      · by_cases h_3_4 : (pPr (qG (tG t)) (qN (tG t)).1 (qN (tG t)).2 c d) = 0
        · have hc : Rt E M_X11_requirePush 0 [.ref 100, .int c, .int d] (m, cw t) none (m, cw t) := by have hc := c_requirePush hE m t c d; rw [show o_requirePush t c d = .inl (none, t) by simp only [o_requirePush, eq_false h_3_0, eq_true h_3_1, eq_true h_3_2, eq_true h_3_3, eq_true h_3_4, ↓reduceIte, Bool.false_eq_true, Bool.true_eq_false, not_true_eq_false, not_false_eq_true]; try rfl] at hc; exact hc
          refine g_callV (As := [.int c, .int d]) d_X11_longPush_3 o_X11_requirePush l_X11_303 ⟨Nat.le_of_ble_eq_true rfl, Nat.le_of_ble_eq_true rfl⟩ hc (rfl) rfl rfl rfl rfl rfl ?_ (Nat.zero_add _)
          refine g_aload_n d_X11_longPush_6 rfl ?_
          refine g_getf d_X11_longPush_7 f_X11_36 rfl rfl ?_
          refine g_aload_n d_X11_longPush_10 rfl ?_
          refine g_getf d_X11_longPush_11 f_X11_26 rfl rfl ?_
          refine g_callV (As := [.ref 104]) d_X11_longPush_14 o_X3_begin l_X11_293 ⟨Nat.le_of_ble_eq_true rfl, Nat.le_of_ble_eq_true rfl⟩ (c_hbegin hE m t) rfl rfl rfl rfl rfl rfl ?_ (Nat.zero_add _)
          refine g_aload_n d_X11_longPush_17 rfl ?_
          refine g_getf d_X11_longPush_18 f_X11_26 rfl rfl ?_
          refine g_iload_n d_X11_longPush_21 rfl ?_
          refine g_iload_n d_X11_longPush_22 rfl ?_
          refine g_callV (As := [.int c, .int d]) d_X11_longPush_23 o_X0_pushBoxOn l_X11_312 ⟨Nat.le_of_ble_eq_true rfl, Nat.le_of_ble_eq_true rfl⟩ (c_pushBoxOn hE m (wH t (hBeg (tH t) (tG t))) c d) rfl rfl rfl rfl rfl rfl ?_ (Nat.zero_add _)
          refine g_istore_n (L' := [some (.ref 100), some (.int c), some (.int d), some (.int (nI (poQ (tG (wH t (hBeg (tH t) (tG t)))) c d).2))]) d_X11_longPush_26 rfl rfl ?_
          refine g_aload_n d_X11_longPush_27 rfl ?_
          by_cases h_28_0 : (qC (tG (wG (wH t (hBeg (tH t) (tG t))) (poQ (tG (wH t (hBeg (tH t) (tG t)))) c d).1))) ≤ 400
          · have hc : Rt E M_X11_commitOrThrow 0 [.ref 100] (m, cw (wG (wH t (hBeg (tH t) (tG t))) (poQ (tG (wH t (hBeg (tH t) (tG t)))) c d).1)) none (m, cw (wH (wG (wH t (hBeg (tH t) (tG t))) (poQ (tG (wH t (hBeg (tH t) (tG t)))) c d).1) (cmtH (tH (wG (wH t (hBeg (tH t) (tG t))) (poQ (tG (wH t (hBeg (tH t) (tG t)))) c d).1))))) := by have hc := c_commitOrThrow hE m (wG (wH t (hBeg (tH t) (tG t))) (poQ (tG (wH t (hBeg (tH t) (tG t)))) c d).1); rw [show o_commitOrThrow (wG (wH t (hBeg (tH t) (tG t))) (poQ (tG (wH t (hBeg (tH t) (tG t)))) c d).1) = .inl (none, (wH (wG (wH t (hBeg (tH t) (tG t))) (poQ (tG (wH t (hBeg (tH t) (tG t)))) c d).1) (cmtH (tH (wG (wH t (hBeg (tH t) (tG t))) (poQ (tG (wH t (hBeg (tH t) (tG t)))) c d).1))))) by simp only [o_commitOrThrow, eq_true h_28_0, ↓reduceIte, Bool.false_eq_true, Bool.true_eq_false, not_true_eq_false, not_false_eq_true]; try rfl] at hc; exact hc
            refine g_callV (As := []) d_X11_longPush_28 o_X11_commitOrThrow l_X11_309 ⟨Nat.le_of_ble_eq_true rfl, Nat.le_of_ble_eq_true rfl⟩ hc (rfl) rfl rfl rfl rfl rfl ?_ (Nat.zero_add _)
            refine g_iload_n d_X11_longPush_31 rfl ?_
            rw [show o_longPush t c d = .inl (some (.int (nI (poQ (tG (wH t (hBeg (tH t) (tG t)))) c d).2)), (wH (wG (wH t (hBeg (tH t) (tG t))) (poQ (tG (wH t (hBeg (tH t) (tG t)))) c d).1) (cmtH (tH (wG (wH t (hBeg (tH t) (tG t))) (poQ (tG (wH t (hBeg (tH t) (tG t)))) c d).1))))) by simp only [o_longPush, eq_false h_3_0, eq_true h_3_1, eq_true h_3_2, eq_true h_3_3, eq_true h_3_4, eq_true h_28_0, ↓reduceIte, Bool.false_eq_true, Bool.true_eq_false, not_true_eq_false, not_false_eq_true]; try rfl]
            exact g_retI d_X11_longPush_32 rfl (rfl) (rfl)
          rw [show o_longPush t c d = .inr (xAE, (wG (wG (wH t (hBeg (tH t) (tG t))) (poQ (tG (wH t (hBeg (tH t) (tG t)))) c d).1) (rollQ (tH (wG (wH t (hBeg (tH t) (tG t))) (poQ (tG (wH t (hBeg (tH t) (tG t)))) c d).1)) (tG (wG (wH t (hBeg (tH t) (tG t))) (poQ (tG (wH t (hBeg (tH t) (tG t)))) c d).1))))) by simp only [o_longPush, eq_false h_3_0, eq_true h_3_1, eq_true h_3_2, eq_true h_3_3, eq_true h_3_4, eq_false h_28_0, ↓reduceIte, Bool.false_eq_true, Bool.true_eq_false, not_true_eq_false, not_false_eq_true]; try rfl]
          have hc : Rx E M_X11_commitOrThrow [.ref 100] (m, cw (wG (wH t (hBeg (tH t) (tG t))) (poQ (tG (wH t (hBeg (tH t) (tG t)))) c d).1)) xAE (m, cw (wG (wG (wH t (hBeg (tH t) (tG t))) (poQ (tG (wH t (hBeg (tH t) (tG t)))) c d).1) (rollQ (tH (wG (wH t (hBeg (tH t) (tG t))) (poQ (tG (wH t (hBeg (tH t) (tG t)))) c d).1)) (tG (wG (wH t (hBeg (tH t) (tG t))) (poQ (tG (wH t (hBeg (tH t) (tG t)))) c d).1))))) := by have hc := c_commitOrThrow hE m (wG (wH t (hBeg (tH t) (tG t))) (poQ (tG (wH t (hBeg (tH t) (tG t)))) c d).1); rw [show o_commitOrThrow (wG (wH t (hBeg (tH t) (tG t))) (poQ (tG (wH t (hBeg (tH t) (tG t)))) c d).1) = .inr (xAE, (wG (wG (wH t (hBeg (tH t) (tG t))) (poQ (tG (wH t (hBeg (tH t) (tG t)))) c d).1) (rollQ (tH (wG (wH t (hBeg (tH t) (tG t))) (poQ (tG (wH t (hBeg (tH t) (tG t)))) c d).1)) (tG (wG (wH t (hBeg (tH t) (tG t))) (poQ (tG (wH t (hBeg (tH t) (tG t)))) c d).1))))) by simp only [o_commitOrThrow, eq_false h_28_0, ↓reduceIte, Bool.false_eq_true, Bool.true_eq_false, not_true_eq_false, not_false_eq_true]; try rfl] at hc; exact hc
          exact g_xcallV (As := []) d_X11_longPush_28 o_X11_commitOrThrow l_X11_309 ⟨Nat.le_of_ble_eq_true rfl, Nat.le_of_ble_eq_true rfl⟩ hc (rfl) rfl rfl rfl rfl
        rw [show o_longPush t c d = .inr (xUOE, (keT t (pPr (qG (tG t)) (qN (tG t)).1 (qN (tG t)).2 c d) (pPd (qG (tG t)) (pPr (qG (tG t)) (qN (tG t)).1 (qN (tG t)).2 c d) c d))) by simp only [o_longPush, eq_false h_3_0, eq_true h_3_1, eq_true h_3_2, eq_true h_3_3, eq_false h_3_4, ↓reduceIte, Bool.false_eq_true, Bool.true_eq_false, not_true_eq_false, not_false_eq_true]; try rfl]
        have hc : Rx E M_X11_requirePush [.ref 100, .int c, .int d] (m, cw t) xUOE (m, cw (keT t (pPr (qG (tG t)) (qN (tG t)).1 (qN (tG t)).2 c d) (pPd (qG (tG t)) (pPr (qG (tG t)) (qN (tG t)).1 (qN (tG t)).2 c d) c d))) := by have hc := c_requirePush hE m t c d; rw [show o_requirePush t c d = .inr (xUOE, (keT t (pPr (qG (tG t)) (qN (tG t)).1 (qN (tG t)).2 c d) (pPd (qG (tG t)) (pPr (qG (tG t)) (qN (tG t)).1 (qN (tG t)).2 c d) c d))) by simp only [o_requirePush, eq_false h_3_0, eq_true h_3_1, eq_true h_3_2, eq_true h_3_3, eq_false h_3_4, ↓reduceIte, Bool.false_eq_true, Bool.true_eq_false, not_true_eq_false, not_false_eq_true]; try rfl] at hc; exact hc
        exact g_xcallV (As := [.int c, .int d]) d_X11_longPush_3 o_X11_requirePush l_X11_303 ⟨Nat.le_of_ble_eq_true rfl, Nat.le_of_ble_eq_true rfl⟩ hc (rfl) rfl rfl rfl rfl
      rw [show o_longPush t c d = .inr (xIOOBE, t) by simp only [o_longPush, eq_false h_3_0, eq_true h_3_1, eq_true h_3_2, eq_false h_3_3, ↓reduceIte, Bool.false_eq_true, Bool.true_eq_false, not_true_eq_false, not_false_eq_true]; try rfl]
      have hc : Rx E M_X11_requirePush [.ref 100, .int c, .int d] (m, cw t) xIOOBE (m, cw t) := by have hc := c_requirePush hE m t c d; rw [show o_requirePush t c d = .inr (xIOOBE, t) by simp only [o_requirePush, eq_false h_3_0, eq_true h_3_1, eq_true h_3_2, eq_false h_3_3, ↓reduceIte, Bool.false_eq_true, Bool.true_eq_false, not_true_eq_false, not_false_eq_true]; try rfl] at hc; exact hc
      exact g_xcallV (As := [.int c, .int d]) d_X11_longPush_3 o_X11_requirePush l_X11_303 ⟨Nat.le_of_ble_eq_true rfl, Nat.le_of_ble_eq_true rfl⟩ hc (rfl) rfl rfl rfl rfl
    rw [show o_longPush t c d = .inr (xISE, t) by simp only [o_longPush, eq_false h_3_0, eq_true h_3_1, eq_false h_3_2, ↓reduceIte, Bool.false_eq_true, Bool.true_eq_false, not_true_eq_false, not_false_eq_true]; try rfl]
    have hc : Rx E M_X11_requirePush [.ref 100, .int c, .int d] (m, cw t) xISE (m, cw t) := by have hc := c_requirePush hE m t c d; rw [show o_requirePush t c d = .inr (xISE, t) by simp only [o_requirePush, eq_false h_3_0, eq_true h_3_1, eq_false h_3_2, ↓reduceIte, Bool.false_eq_true, Bool.true_eq_false, not_true_eq_false, not_false_eq_true]; try rfl] at hc; exact hc
    exact g_xcallV (As := [.int c, .int d]) d_X11_longPush_3 o_X11_requirePush l_X11_303 ⟨Nat.le_of_ble_eq_true rfl, Nat.le_of_ble_eq_true rfl⟩ hc (rfl) rfl rfl rfl rfl
  rw [show o_longPush t c d = .inr (xIAE, t) by simp only [o_longPush, eq_false h_3_0, eq_false h_3_1, ↓reduceIte, Bool.false_eq_true, Bool.true_eq_false, not_true_eq_false, not_false_eq_true]; try rfl]
  have hc : Rx E M_X11_requirePush [.ref 100, .int c, .int d] (m, cw t) xIAE (m, cw t) := by have hc := c_requirePush hE m t c d; rw [show o_requirePush t c d = .inr (xIAE, t) by simp only [o_requirePush, eq_false h_3_0, eq_false h_3_1, ↓reduceIte, Bool.false_eq_true, Bool.true_eq_false, not_true_eq_false, not_false_eq_true]; try rfl] at hc; exact hc
  exact g_xcallV (As := [.int c, .int d]) d_X11_longPush_3 o_X11_requirePush l_X11_303 ⟨Nat.le_of_ble_eq_true rfl, Nat.le_of_ble_eq_true rfl⟩ hc (rfl) rfl rfl rfl rfl
def o_refused (t : cT)  : mO :=
  if (tK t).2.2 = (-1) then (.inr (xNSEE, t)) else
  .inl (some (.int (tK t).2.2), t)
theorem d_X11_refused_0 : decode (mB M_X11_refused) 0 = .ok (.aload_n 0, 1) := by decide +kernel
theorem d_X11_refused_1 : decode (mB M_X11_refused) 1 = .ok (.getfield 81, 3) := by decide +kernel
theorem d_X11_refused_4 : decode (mB M_X11_refused) 4 = .ok (.iconst (-1), 1) := by decide +kernel
theorem d_X11_refused_5 : decode (mB M_X11_refused) 5 = .ok (.if_icmp .ne 14, 3) := by decide +kernel
theorem d_X11_refused_19 : decode (mB M_X11_refused) 19 = .ok (.aload_n 0, 1) := by decide +kernel
theorem d_X11_refused_20 : decode (mB M_X11_refused) 20 = .ok (.getfield 81, 3) := by decide +kernel
theorem d_X11_refused_23 : decode (mB M_X11_refused) 23 = .ok (.ireturn, 1) := by decide +kernel
theorem c_refused {E : mEnv} (hE : E.1.stackTraces = false) (m : List mE) (t : cT)   : Rc E M_X11_refused m [.ref 100] t (o_refused t) := by
  refine Rc.of hE rfl pn_X11 (Nat.le_of_ble_eq_true rfl) ?_
  refine g_eq (S' := (0, [some (.ref 100)], [], (m, cw t))) rfl ?_
  refine g_aload_n d_X11_refused_0 rfl ?_
  refine g_getf d_X11_refused_1 f_X11_81 rfl rfl ?_
  refine g_iconst (v := (-1)) d_X11_refused_4 (by decide) ?_
  refine g_icmp_ne (tgt := 19) d_X11_refused_5 (by decide) (fun c_5 => ?_) (fun c_5 => ?_)
  · refine g_aload_n d_X11_refused_19 rfl ?_
    refine g_getf d_X11_refused_20 f_X11_81 rfl rfl ?_
    rw [show o_refused t = .inl (some (.int (tK t).2.2), t) by simp only [o_refused, eq_false c_5, ↓reduceIte, Bool.false_eq_true, Bool.true_eq_false, not_true_eq_false, not_false_eq_true]; try rfl]
    exact g_retI d_X11_refused_23 rfl (rfl) (rfl)
  · rw [show o_refused t = .inr (xNSEE, t) by simp only [o_refused, eq_true c_5, ↓reduceIte, Bool.false_eq_true, Bool.true_eq_false, not_true_eq_false, not_false_eq_true]; try rfl]
    exact g_throw (n := 0) th_X11_refused_8 rfl
def o_refusal (t : cT) (b : Bool) : mO :=
  if (tK t).1 = 0 then (.inr (xNSEE, t)) else
  if b = true then (.inl (some (.int (tK t).2.1), t)) else
  .inl (some (.int (tK t).1), t)
theorem d_X11_refusal_0 : decode (mB M_X11_refusal) 0 = .ok (.aload_n 0, 1) := by decide +kernel
theorem d_X11_refusal_1 : decode (mB M_X11_refusal) 1 = .ok (.getfield 74, 3) := by decide +kernel
theorem d_X11_refusal_4 : decode (mB M_X11_refusal) 4 = .ok (.ifCond .ne 14, 3) := by decide +kernel
theorem d_X11_refusal_18 : decode (mB M_X11_refusal) 18 = .ok (.iload_n 1, 1) := by decide +kernel
theorem d_X11_refusal_19 : decode (mB M_X11_refusal) 19 = .ok (.ifCond .eq 10, 3) := by decide +kernel
theorem d_X11_refusal_22 : decode (mB M_X11_refusal) 22 = .ok (.aload_n 0, 1) := by decide +kernel
theorem d_X11_refusal_23 : decode (mB M_X11_refusal) 23 = .ok (.getfield 78, 3) := by decide +kernel
theorem d_X11_refusal_26 : decode (mB M_X11_refusal) 26 = .ok (.goto 7, 3) := by decide +kernel
theorem d_X11_refusal_29 : decode (mB M_X11_refusal) 29 = .ok (.aload_n 0, 1) := by decide +kernel
theorem d_X11_refusal_30 : decode (mB M_X11_refusal) 30 = .ok (.getfield 74, 3) := by decide +kernel
theorem d_X11_refusal_33 : decode (mB M_X11_refusal) 33 = .ok (.ireturn, 1) := by decide +kernel
theorem c_refusal {E : mEnv} (hE : E.1.stackTraces = false) (m : List mE) (t : cT) (b : Bool)  : Rc E M_X11_refusal m [.ref 100, .int ((bI b))] t (o_refusal t b) := by
  refine Rc.of hE rfl pn_X11 (Nat.le_of_ble_eq_true rfl) ?_
  refine g_eq (S' := (0, [some (.ref 100), some (.int (bI b))], [], (m, cw t))) rfl ?_
  refine g_aload_n d_X11_refusal_0 rfl ?_
  refine g_getf d_X11_refusal_1 f_X11_74 rfl rfl ?_
  refine g_if_ne (tgt := 18) d_X11_refusal_4 (by decide) (fun c_4 => ?_) (fun c_4 => ?_)
  · refine g_iload_n d_X11_refusal_18 rfl ?_
    refine g_ifb_eq (tgt := 29) d_X11_refusal_19 (by decide) (fun c_19 => ?_) (fun c_19 => ?_)
    · refine g_aload_n d_X11_refusal_29 rfl ?_
      refine g_getf d_X11_refusal_30 f_X11_74 rfl rfl ?_
      rw [show o_refusal t b = .inl (some (.int (tK t).1), t) by simp only [o_refusal, eq_false c_4, c_19, ↓reduceIte, Bool.false_eq_true, Bool.true_eq_false, not_true_eq_false, not_false_eq_true]; try rfl]
      exact g_retI d_X11_refusal_33 rfl (rfl) (rfl)
    · refine g_aload_n d_X11_refusal_22 rfl ?_
      refine g_getf d_X11_refusal_23 f_X11_78 rfl rfl ?_
      refine g_goto (tgt := 33) d_X11_refusal_26 (by decide) ?_
      rw [show o_refusal t b = .inl (some (.int (tK t).2.1), t) by simp only [o_refusal, eq_false c_4, c_19, ↓reduceIte, Bool.false_eq_true, Bool.true_eq_false, not_true_eq_false, not_false_eq_true]; try rfl]
      exact g_retI d_X11_refusal_33 rfl (rfl) (rfl)
  · rw [show o_refusal t b = .inr (xNSEE, t) by simp only [o_refusal, eq_true c_4, ↓reduceIte, Bool.false_eq_true, Bool.true_eq_false, not_true_eq_false, not_false_eq_true]; try rfl]
    exact g_throw (n := 0) th_X11_refusal_7 rfl
def o_refuses (t : cT) (c d : Int32) : mO :=
  if d < 0 then (.inr (xIAE, t)) else
  if d < 4 then (if (decide (0 < gR (qG (tG t)))) = true then (if (hasF ((qN (tG t)).1) c) = true then (.inl (some (.int (pPr (qG (tG t)) (qN (tG t)).1 (qN (tG t)).2 c d)), t)) else
      .inr (xIOOBE, t)) else
    .inr (xISE, t)) else
  .inr (xIAE, t)
theorem d_X11_refuses_0 : decode (mB M_X11_refuses) 0 = .ok (.aload_n 0, 1) := by decide +kernel
theorem d_X11_refuses_1 : decode (mB M_X11_refuses) 1 = .ok (.iload_n 1, 1) := by decide +kernel
theorem d_X11_refuses_2 : decode (mB M_X11_refuses) 2 = .ok (.iload_n 2, 1) := by decide +kernel
theorem d_X11_refuses_3 : decode (mB M_X11_refuses) 3 = .ok (.invokevirtual 330, 3) := by decide +kernel
theorem d_X11_refuses_6 : decode (mB M_X11_refuses) 6 = .ok (.aload_n 0, 1) := by decide +kernel
theorem d_X11_refuses_7 : decode (mB M_X11_refuses) 7 = .ok (.getfield 26, 3) := by decide +kernel
theorem d_X11_refuses_10 : decode (mB M_X11_refuses) 10 = .ok (.getfield 158, 3) := by decide +kernel
theorem d_X11_refuses_13 : decode (mB M_X11_refuses) 13 = .ok (.iload_n 1, 1) := by decide +kernel
theorem d_X11_refuses_14 : decode (mB M_X11_refuses) 14 = .ok (.iload_n 2, 1) := by decide +kernel
theorem d_X11_refuses_15 : decode (mB M_X11_refuses) 15 = .ok (.invokevirtual 333, 3) := by decide +kernel
theorem d_X11_refuses_18 : decode (mB M_X11_refuses) 18 = .ok (.ireturn, 1) := by decide +kernel
theorem c_refuses {E : mEnv} (hE : E.1.stackTraces = false) (m : List mE) (t : cT) (c d : Int32)  : Rc E M_X11_refuses m [.ref 100, .int c, .int d] t (o_refuses t c d) := by
  refine Rc.of hE rfl pn_X11 (Nat.le_of_ble_eq_true rfl) ?_
  refine g_eq (S' := (0, [some (.ref 100), some (.int c), some (.int d)], [], (m, cw t))) rfl ?_
  refine g_aload_n d_X11_refuses_0 rfl ?_
  refine g_iload_n d_X11_refuses_1 rfl ?_
  refine g_iload_n d_X11_refuses_2 rfl ?_
  by_cases h_3_0 : d < 0
  · rw [show o_refuses t c d = .inr (xIAE, t) by simp only [o_refuses, eq_true h_3_0, ↓reduceIte, Bool.false_eq_true, Bool.true_eq_false, not_true_eq_false, not_false_eq_true]; try rfl]
    have hc : Rx E M_X11_requireBox [.ref 100, .int c, .int d] (m, cw t) xIAE (m, cw t) := by have hc := c_box hE m t c d; rw [show o_box t c d = .inr (xIAE, t) by simp only [o_box, eq_true h_3_0, ↓reduceIte, Bool.false_eq_true, Bool.true_eq_false, not_true_eq_false, not_false_eq_true]; try rfl] at hc; exact hc
    exact g_xcallV (As := [.int c, .int d]) d_X11_refuses_3 o_X11_requireBox l_X11_330 ⟨Nat.le_of_ble_eq_true rfl, Nat.le_of_ble_eq_true rfl⟩ hc (rfl) rfl rfl rfl rfl
  by_cases h_3_1 : d < 4
  · by_cases h_3_2 : (decide (0 < gR (qG (tG t)))) = true
    · by_cases h_3_3 : (hasF ((qN (tG t)).1) c) = true
      · have hc : Rt E M_X11_requireBox 0 [.ref 100, .int c, .int d] (m, cw t) none (m, cw t) := by have hc := c_box hE m t c d; rw [show o_box t c d = .inl (none, t) by simp only [o_box, eq_false h_3_0, eq_true h_3_1, eq_true h_3_2, eq_true h_3_3, ↓reduceIte, Bool.false_eq_true, Bool.true_eq_false, not_true_eq_false, not_false_eq_true]; try rfl] at hc; exact hc
        refine g_callV (As := [.int c, .int d]) d_X11_refuses_3 o_X11_requireBox l_X11_330 ⟨Nat.le_of_ble_eq_true rfl, Nat.le_of_ble_eq_true rfl⟩ hc (rfl) rfl rfl rfl rfl rfl ?_ (Nat.zero_add _)
        refine g_aload_n d_X11_refuses_6 rfl ?_
        refine g_getf d_X11_refuses_7 f_X11_26 rfl rfl ?_
        refine g_getf d_X11_refuses_10 f_X11_158 rfl rfl ?_
        refine g_iload_n d_X11_refuses_13 rfl ?_
        refine g_iload_n d_X11_refuses_14 rfl ?_
        refine g_callV (As := [.int c, .int d]) d_X11_refuses_15 o_X6_pushReason l_X11_333 ⟨Nat.le_of_ble_eq_true rfl, Nat.le_of_ble_eq_true rfl⟩ (c_pushReason hE 106 105 (qG (tG t)) (qN (tG t)).1 (qN (tG t)).2 _ rfl rfl c d) rfl rfl rfl rfl rfl rfl ?_ (Nat.zero_add _)
        rw [show o_refuses t c d = .inl (some (.int (pPr (qG (tG t)) (qN (tG t)).1 (qN (tG t)).2 c d)), t) by simp only [o_refuses, eq_false h_3_0, eq_true h_3_1, eq_true h_3_2, eq_true h_3_3, ↓reduceIte, Bool.false_eq_true, Bool.true_eq_false, not_true_eq_false, not_false_eq_true]; try rfl]
        exact g_retI d_X11_refuses_18 rfl (rfl) (rfl)
      rw [show o_refuses t c d = .inr (xIOOBE, t) by simp only [o_refuses, eq_false h_3_0, eq_true h_3_1, eq_true h_3_2, eq_false h_3_3, ↓reduceIte, Bool.false_eq_true, Bool.true_eq_false, not_true_eq_false, not_false_eq_true]; try rfl]
      have hc : Rx E M_X11_requireBox [.ref 100, .int c, .int d] (m, cw t) xIOOBE (m, cw t) := by have hc := c_box hE m t c d; rw [show o_box t c d = .inr (xIOOBE, t) by simp only [o_box, eq_false h_3_0, eq_true h_3_1, eq_true h_3_2, eq_false h_3_3, ↓reduceIte, Bool.false_eq_true, Bool.true_eq_false, not_true_eq_false, not_false_eq_true]; try rfl] at hc; exact hc
      exact g_xcallV (As := [.int c, .int d]) d_X11_refuses_3 o_X11_requireBox l_X11_330 ⟨Nat.le_of_ble_eq_true rfl, Nat.le_of_ble_eq_true rfl⟩ hc (rfl) rfl rfl rfl rfl
    rw [show o_refuses t c d = .inr (xISE, t) by simp only [o_refuses, eq_false h_3_0, eq_true h_3_1, eq_false h_3_2, ↓reduceIte, Bool.false_eq_true, Bool.true_eq_false, not_true_eq_false, not_false_eq_true]; try rfl]
    have hc : Rx E M_X11_requireBox [.ref 100, .int c, .int d] (m, cw t) xISE (m, cw t) := by have hc := c_box hE m t c d; rw [show o_box t c d = .inr (xISE, t) by simp only [o_box, eq_false h_3_0, eq_true h_3_1, eq_false h_3_2, ↓reduceIte, Bool.false_eq_true, Bool.true_eq_false, not_true_eq_false, not_false_eq_true]; try rfl] at hc; exact hc
    exact g_xcallV (As := [.int c, .int d]) d_X11_refuses_3 o_X11_requireBox l_X11_330 ⟨Nat.le_of_ble_eq_true rfl, Nat.le_of_ble_eq_true rfl⟩ hc (rfl) rfl rfl rfl rfl
  rw [show o_refuses t c d = .inr (xIAE, t) by simp only [o_refuses, eq_false h_3_0, eq_false h_3_1, ↓reduceIte, Bool.false_eq_true, Bool.true_eq_false, not_true_eq_false, not_false_eq_true]; try rfl]
  have hc : Rx E M_X11_requireBox [.ref 100, .int c, .int d] (m, cw t) xIAE (m, cw t) := by have hc := c_box hE m t c d; rw [show o_box t c d = .inr (xIAE, t) by simp only [o_box, eq_false h_3_0, eq_false h_3_1, ↓reduceIte, Bool.false_eq_true, Bool.true_eq_false, not_true_eq_false, not_false_eq_true]; try rfl] at hc; exact hc
  exact g_xcallV (As := [.int c, .int d]) d_X11_refuses_3 o_X11_requireBox l_X11_330 ⟨Nat.le_of_ble_eq_true rfl, Nat.le_of_ble_eq_true rfl⟩ hc (rfl) rfl rfl rfl rfl
theorem ltrF_nar (c : Int32) : narrow .char (.int (ltrF c)) = .int (ltrF c) := by
  unfold ltrF
  split
  · rfl
  split
  · rfl
  unfold sCh; rw [sc_c2]; exact sc_nar _
def o_recorded (t : cT) (i : Int32) : mO :=
  if i < 0 then (.inr (xIOOBE, t)) else
  if i < (qC (tG t)) then (.inl (some (.int (ltrF (intAtF 400 (qR (tG t)) i))), t)) else
  .inr (xIOOBE, t)
theorem d_X11_recorded_0 : decode (mB M_X11_recorded) 0 = .ok (.iload_n 1, 1) := by decide +kernel
theorem d_X11_recorded_1 : decode (mB M_X11_recorded) 1 = .ok (.ifCond .lt 14, 3) := by decide +kernel
theorem d_X11_recorded_4 : decode (mB M_X11_recorded) 4 = .ok (.iload_n 1, 1) := by decide +kernel
theorem d_X11_recorded_5 : decode (mB M_X11_recorded) 5 = .ok (.aload_n 0, 1) := by decide +kernel
theorem d_X11_recorded_6 : decode (mB M_X11_recorded) 6 = .ok (.getfield 26, 3) := by decide +kernel
theorem d_X11_recorded_9 : decode (mB M_X11_recorded) 9 = .ok (.getfield 195, 3) := by decide +kernel
theorem d_X11_recorded_12 : decode (mB M_X11_recorded) 12 = .ok (.if_icmp .lt 14, 3) := by decide +kernel
theorem d_X11_recorded_26 : decode (mB M_X11_recorded) 26 = .ok (.aload_n 0, 1) := by decide +kernel
theorem d_X11_recorded_27 : decode (mB M_X11_recorded) 27 = .ok (.getfield 26, 3) := by decide +kernel
theorem d_X11_recorded_30 : decode (mB M_X11_recorded) 30 = .ok (.getfield 355, 3) := by decide +kernel
theorem d_X11_recorded_33 : decode (mB M_X11_recorded) 33 = .ok (.iload_n 1, 1) := by decide +kernel
theorem d_X11_recorded_34 : decode (mB M_X11_recorded) 34 = .ok (.invokestatic 359, 3) := by decide +kernel
theorem d_X11_recorded_37 : decode (mB M_X11_recorded) 37 = .ok (.invokestatic 363, 3) := by decide +kernel
theorem d_X11_recorded_40 : decode (mB M_X11_recorded) 40 = .ok (.ireturn, 1) := by decide +kernel
theorem c_recorded {E : mEnv} (hE : E.1.stackTraces = false) (m : List mE) (t : cT) (i : Int32)  : Rc E M_X11_recorded m [.ref 100, .int i] t (o_recorded t i) := by
  refine Rc.of hE rfl pn_X11 (Nat.le_of_ble_eq_true rfl) ?_
  refine g_eq (S' := (0, [some (.ref 100), some (.int i)], [], (m, cw t))) rfl ?_
  refine g_iload_n d_X11_recorded_0 rfl ?_
  refine g_if_lt (tgt := 15) d_X11_recorded_1 (by decide) (fun c_1 => ?_) (fun c_1 => ?_)
  · rw [show o_recorded t i = .inr (xIOOBE, t) by simp only [o_recorded, eq_true c_1, ↓reduceIte, Bool.false_eq_true, Bool.true_eq_false, not_true_eq_false, not_false_eq_true]; try rfl]
    exact g_throw (n := 0) th_X11_recorded_15 rfl
  · refine g_iload_n d_X11_recorded_4 rfl ?_
    refine g_aload_n d_X11_recorded_5 rfl ?_
    refine g_getf d_X11_recorded_6 f_X11_26 rfl rfl ?_
    refine g_getf d_X11_recorded_9 f_X11_195 rfl rfl ?_
    refine g_icmp_lt (tgt := 26) d_X11_recorded_12 (by decide) (fun c_12 => ?_) (fun c_12 => ?_)
    · refine g_aload_n d_X11_recorded_26 rfl ?_
      refine g_getf d_X11_recorded_27 f_X11_26 rfl rfl ?_
      refine g_getf d_X11_recorded_30 f_X11_355 rfl rfl ?_
      refine g_iload_n d_X11_recorded_33 rfl ?_
      refine g_callS (As := [.ref 111, .int i]) d_X11_recorded_34 o_X11_intAt l_X11_359 ⟨Nat.le_of_ble_eq_true rfl, Nat.le_of_ble_eq_true rfl⟩ (c_intAt hE 111 400 (qR (tG t)) i _ (by decide) rfl) rfl rfl ?_ (Nat.zero_add _)
      refine g_callS (As := [.int (intAtF 400 (qR (tG t)) i)]) d_X11_recorded_37 o_X11_letterOf l_X11_363 ⟨Nat.le_of_ble_eq_true rfl, Nat.le_of_ble_eq_true rfl⟩ (c_letterOf hE (intAtF 400 (qR (tG t)) i) _) rfl rfl ?_ (Nat.zero_add _)
      rw [show o_recorded t i = .inl (some (.int (ltrF (intAtF 400 (qR (tG t)) i))), t) by simp only [o_recorded, eq_false c_1, eq_true c_12, ↓reduceIte, Bool.false_eq_true, Bool.true_eq_false, not_true_eq_false, not_false_eq_true]; try rfl]
      exact g_retC d_X11_recorded_40 rfl (ltrF_nar _) (rfl) (rfl)
    · rw [show o_recorded t i = .inr (xIOOBE, t) by simp only [o_recorded, eq_false c_1, eq_false c_12, ↓reduceIte, Bool.false_eq_true, Bool.true_eq_false, not_true_eq_false, not_false_eq_true]; try rfl]
      exact g_throw (n := 0) th_X11_recorded_15 rfl
def o_isReplayed (t : cT)  : mO :=
  if (decide (0 < gR (qG (tG t)))) = true then (.inl (some (.int (bI (coQ (tG t) (qC (tG t)).toNatClampNeg).1)), (wG t (coQ (tG t) (qC (tG t)).toNatClampNeg).2))) else
  .inr (xISE, t)
theorem d_X11_isReplayed_0 : decode (mB M_X11_isReplayed) 0 = .ok (.aload_n 0, 1) := by decide +kernel
theorem d_X11_isReplayed_1 : decode (mB M_X11_isReplayed) 1 = .ok (.invokevirtual 139, 3) := by decide +kernel
theorem d_X11_isReplayed_4 : decode (mB M_X11_isReplayed) 4 = .ok (.aload_n 0, 1) := by decide +kernel
theorem d_X11_isReplayed_5 : decode (mB M_X11_isReplayed) 5 = .ok (.getfield 26, 3) := by decide +kernel
theorem d_X11_isReplayed_8 : decode (mB M_X11_isReplayed) 8 = .ok (.invokevirtual 366, 3) := by decide +kernel
theorem d_X11_isReplayed_11 : decode (mB M_X11_isReplayed) 11 = .ok (.ireturn, 1) := by decide +kernel
theorem c_isReplayed {E : mEnv} (hE : E.1.stackTraces = false) (m : List mE) (t : cT)  (hq : ¬ qC (tG t) < 0) : Rc E M_X11_isReplayed m [.ref 100] t (o_isReplayed t) := by
  refine Rc.of hE rfl pn_X11 (Nat.le_of_ble_eq_true rfl) ?_
  refine g_eq (S' := (0, [some (.ref 100)], [], (m, cw t))) rfl ?_
  refine g_aload_n d_X11_isReplayed_0 rfl ?_
  by_cases h_1_0 : (decide (0 < gR (qG (tG t)))) = true
  · have hc : Rt E M_X11_requireRoom 0 [.ref 100] (m, cw t) none (m, cw t) := by have hc := c_room hE m t; rw [show o_room t = .inl (none, t) by simp only [o_room, eq_true h_1_0, ↓reduceIte, Bool.false_eq_true, Bool.true_eq_false, not_true_eq_false, not_false_eq_true]; try rfl] at hc; exact hc
    refine g_callV (As := []) d_X11_isReplayed_1 o_X11_requireRoom l_X11_139 ⟨Nat.le_of_ble_eq_true rfl, Nat.le_of_ble_eq_true rfl⟩ hc (rfl) rfl rfl rfl rfl rfl ?_ (Nat.zero_add _)
    refine g_aload_n d_X11_isReplayed_4 rfl ?_
    refine g_getf d_X11_isReplayed_5 f_X11_26 rfl rfl ?_
    refine g_callV (As := []) d_X11_isReplayed_8 o_X0_comesOutAgain l_X11_366 ⟨Nat.le_of_ble_eq_true rfl, Nat.le_of_ble_eq_true rfl⟩ (c_again hE m t (qC (tG t)).toNatClampNeg (Int32.toNatClampNeg_lt _) (nI_cl hq)) rfl rfl rfl rfl rfl rfl ?_ (Nat.zero_add _)
    rw [show o_isReplayed t = .inl (some (.int (bI (coQ (tG t) (qC (tG t)).toNatClampNeg).1)), (wG t (coQ (tG t) (qC (tG t)).toNatClampNeg).2)) by simp only [o_isReplayed, eq_true h_1_0, ↓reduceIte, Bool.false_eq_true, Bool.true_eq_false, not_true_eq_false, not_false_eq_true]; try rfl]
    exact g_retZ d_X11_isReplayed_11 rfl (bI_and _) (rfl) (rfl)
  rw [show o_isReplayed t = .inr (xISE, t) by simp only [o_isReplayed, eq_false h_1_0, ↓reduceIte, Bool.false_eq_true, Bool.true_eq_false, not_true_eq_false, not_false_eq_true]; try rfl]
  have hc : Rx E M_X11_requireRoom [.ref 100] (m, cw t) xISE (m, cw t) := by have hc := c_room hE m t; rw [show o_room t = .inr (xISE, t) by simp only [o_room, eq_false h_1_0, ↓reduceIte, Bool.false_eq_true, Bool.true_eq_false, not_true_eq_false, not_false_eq_true]; try rfl] at hc; exact hc
  exact g_xcallV (As := []) d_X11_isReplayed_1 o_X11_requireRoom l_X11_139 ⟨Nat.le_of_ble_eq_true rfl, Nat.le_of_ble_eq_true rfl⟩ hc (rfl) rfl rfl rfl rfl
def o_undo (t : cT)  : mO :=
  if (hZ (tH t)) = 0 then (.inr (xISE, t)) else
  .inl (some (.int (hZ (tH (wG (wH t (bckH (tH t))) (rollQ (bckH (tH t)) (tG t)))))), (wG (wH t (bckH (tH t))) (rollQ (bckH (tH t)) (tG t))))
theorem d_X11_undo_0 : decode (mB M_X11_undo) 0 = .ok (.aload_n 0, 1) := by decide +kernel
theorem d_X11_undo_1 : decode (mB M_X11_undo) 1 = .ok (.getfield 36, 3) := by decide +kernel
theorem d_X11_undo_4 : decode (mB M_X11_undo) 4 = .ok (.getfield 201, 3) := by decide +kernel
theorem d_X11_undo_7 : decode (mB M_X11_undo) 7 = .ok (.ifCond .ne 14, 3) := by decide +kernel
theorem d_X11_undo_21 : decode (mB M_X11_undo) 21 = .ok (.aload_n 0, 1) := by decide +kernel
theorem d_X11_undo_22 : decode (mB M_X11_undo) 22 = .ok (.getfield 36, 3) := by decide +kernel
theorem d_X11_undo_25 : decode (mB M_X11_undo) 25 = .ok (.aload_n 0, 1) := by decide +kernel
theorem d_X11_undo_26 : decode (mB M_X11_undo) 26 = .ok (.getfield 26, 3) := by decide +kernel
theorem d_X11_undo_29 : decode (mB M_X11_undo) 29 = .ok (.invokevirtual 371, 3) := by decide +kernel
theorem d_X11_undo_32 : decode (mB M_X11_undo) 32 = .ok (.aload_n 0, 1) := by decide +kernel
theorem d_X11_undo_33 : decode (mB M_X11_undo) 33 = .ok (.getfield 36, 3) := by decide +kernel
theorem d_X11_undo_36 : decode (mB M_X11_undo) 36 = .ok (.getfield 201, 3) := by decide +kernel
theorem d_X11_undo_39 : decode (mB M_X11_undo) 39 = .ok (.ireturn, 1) := by decide +kernel
theorem c_undo {E : mEnv} (hE : E.1.stackTraces = false) (m : List mE) (t : cT)   : Rc E M_X11_undo m [.ref 100] t (o_undo t) := by
  refine Rc.of hE rfl pn_X11 (Nat.le_of_ble_eq_true rfl) ?_
  refine g_eq (S' := (0, [some (.ref 100)], [], (m, cw t))) rfl ?_
  refine g_aload_n d_X11_undo_0 rfl ?_
  refine g_getf d_X11_undo_1 f_X11_36 rfl rfl ?_
  refine g_getf d_X11_undo_4 f_X11_201 rfl rfl ?_
  refine g_if_ne (tgt := 21) d_X11_undo_7 (by decide) (fun c_7 => ?_) (fun c_7 => ?_)
  · refine g_aload_n d_X11_undo_21 rfl ?_
    refine g_getf d_X11_undo_22 f_X11_36 rfl rfl ?_
    refine g_aload_n d_X11_undo_25 rfl ?_
    refine g_getf d_X11_undo_26 f_X11_26 rfl rfl ?_
    refine g_callV (As := [.ref 104]) d_X11_undo_29 o_X3_goBack l_X11_371 ⟨Nat.le_of_ble_eq_true rfl, Nat.le_of_ble_eq_true rfl⟩ (c_goBack hE m t) rfl rfl rfl rfl rfl rfl ?_ (Nat.zero_add _)
    refine g_aload_n d_X11_undo_32 rfl ?_
    refine g_getf d_X11_undo_33 f_X11_36 rfl rfl ?_
    refine g_getf d_X11_undo_36 f_X11_201 rfl rfl ?_
    rw [show o_undo t = .inl (some (.int (hZ (tH (wG (wH t (bckH (tH t))) (rollQ (bckH (tH t)) (tG t)))))), (wG (wH t (bckH (tH t))) (rollQ (bckH (tH t)) (tG t)))) by simp only [o_undo, eq_false c_7, ↓reduceIte, Bool.false_eq_true, Bool.true_eq_false, not_true_eq_false, not_false_eq_true]; try rfl]
    exact g_retI d_X11_undo_39 rfl (rfl) (rfl)
  · rw [show o_undo t = .inr (xISE, t) by simp only [o_undo, eq_true c_7, ↓reduceIte, Bool.false_eq_true, Bool.true_eq_false, not_true_eq_false, not_false_eq_true]; try rfl]
    exact g_throw (n := 0) th_X11_undo_10 rfl
def o_saveSnapshot (t : cT)  : mO :=
  if (decide (0 < gR (qG (tG t)))) = true then (.inl (some (.int (qC (tS (wS t (cpQ (tS t) (tG t) (qC (tG t)).toNatClampNeg))))), (wS t (cpQ (tS t) (tG t) (qC (tG t)).toNatClampNeg)))) else
  .inr (xISE, t)
theorem d_X11_saveSnapshot_0 : decode (mB M_X11_saveSnapshot) 0 = .ok (.aload_n 0, 1) := by decide +kernel
theorem d_X11_saveSnapshot_1 : decode (mB M_X11_saveSnapshot) 1 = .ok (.invokevirtual 139, 3) := by decide +kernel
theorem d_X11_saveSnapshot_4 : decode (mB M_X11_saveSnapshot) 4 = .ok (.aload_n 0, 1) := by decide +kernel
theorem d_X11_saveSnapshot_5 : decode (mB M_X11_saveSnapshot) 5 = .ok (.getfield 30, 3) := by decide +kernel
theorem d_X11_saveSnapshot_8 : decode (mB M_X11_saveSnapshot) 8 = .ok (.aload_n 0, 1) := by decide +kernel
theorem d_X11_saveSnapshot_9 : decode (mB M_X11_saveSnapshot) 9 = .ok (.getfield 26, 3) := by decide +kernel
theorem d_X11_saveSnapshot_12 : decode (mB M_X11_saveSnapshot) 12 = .ok (.invokevirtual 374, 3) := by decide +kernel
theorem d_X11_saveSnapshot_15 : decode (mB M_X11_saveSnapshot) 15 = .ok (.aload_n 0, 1) := by decide +kernel
theorem d_X11_saveSnapshot_16 : decode (mB M_X11_saveSnapshot) 16 = .ok (.getfield 30, 3) := by decide +kernel
theorem d_X11_saveSnapshot_19 : decode (mB M_X11_saveSnapshot) 19 = .ok (.getfield 195, 3) := by decide +kernel
theorem d_X11_saveSnapshot_22 : decode (mB M_X11_saveSnapshot) 22 = .ok (.ireturn, 1) := by decide +kernel
theorem c_saveSnapshot {E : mEnv} (hE : E.1.stackTraces = false) (m : List mE) (t : cT)  (hq : ¬ qC (tG t) < 0) : Rc E M_X11_saveSnapshot m [.ref 100] t (o_saveSnapshot t) := by
  refine Rc.of hE rfl pn_X11 (Nat.le_of_ble_eq_true rfl) ?_
  refine g_eq (S' := (0, [some (.ref 100)], [], (m, cw t))) rfl ?_
  refine g_aload_n d_X11_saveSnapshot_0 rfl ?_
  by_cases h_1_0 : (decide (0 < gR (qG (tG t)))) = true
  · have hc : Rt E M_X11_requireRoom 0 [.ref 100] (m, cw t) none (m, cw t) := by have hc := c_room hE m t; rw [show o_room t = .inl (none, t) by simp only [o_room, eq_true h_1_0, ↓reduceIte, Bool.false_eq_true, Bool.true_eq_false, not_true_eq_false, not_false_eq_true]; try rfl] at hc; exact hc
    refine g_callV (As := []) d_X11_saveSnapshot_1 o_X11_requireRoom l_X11_139 ⟨Nat.le_of_ble_eq_true rfl, Nat.le_of_ble_eq_true rfl⟩ hc (rfl) rfl rfl rfl rfl rfl ?_ (Nat.zero_add _)
    refine g_aload_n d_X11_saveSnapshot_4 rfl ?_
    refine g_getf d_X11_saveSnapshot_5 f_X11_30 rfl rfl ?_
    refine g_aload_n d_X11_saveSnapshot_8 rfl ?_
    refine g_getf d_X11_saveSnapshot_9 f_X11_26 rfl rfl ?_
    refine g_callV (As := [.ref 104]) d_X11_saveSnapshot_12 o_X0_copy l_X11_374 ⟨Nat.le_of_ble_eq_true rfl, Nat.le_of_ble_eq_true rfl⟩ (c_copySave hE m t (qC (tG t)).toNatClampNeg (Int32.toNatClampNeg_lt _) (nI_cl hq)) rfl rfl rfl rfl rfl rfl ?_ (Nat.zero_add _)
    refine g_aload_n d_X11_saveSnapshot_15 rfl ?_
    refine g_getf d_X11_saveSnapshot_16 f_X11_30 rfl rfl ?_
    refine g_getf d_X11_saveSnapshot_19 f_X11_195 rfl rfl ?_
    rw [show o_saveSnapshot t = .inl (some (.int (qC (tS (wS t (cpQ (tS t) (tG t) (qC (tG t)).toNatClampNeg))))), (wS t (cpQ (tS t) (tG t) (qC (tG t)).toNatClampNeg))) by simp only [o_saveSnapshot, eq_true h_1_0, ↓reduceIte, Bool.false_eq_true, Bool.true_eq_false, not_true_eq_false, not_false_eq_true]; try rfl]
    exact g_retI d_X11_saveSnapshot_22 rfl (rfl) (rfl)
  rw [show o_saveSnapshot t = .inr (xISE, t) by simp only [o_saveSnapshot, eq_false h_1_0, ↓reduceIte, Bool.false_eq_true, Bool.true_eq_false, not_true_eq_false, not_false_eq_true]; try rfl]
  have hc : Rx E M_X11_requireRoom [.ref 100] (m, cw t) xISE (m, cw t) := by have hc := c_room hE m t; rw [show o_room t = .inr (xISE, t) by simp only [o_room, eq_false h_1_0, ↓reduceIte, Bool.false_eq_true, Bool.true_eq_false, not_true_eq_false, not_false_eq_true]; try rfl] at hc; exact hc
  exact g_xcallV (As := []) d_X11_saveSnapshot_1 o_X11_requireRoom l_X11_139 ⟨Nat.le_of_ble_eq_true rfl, Nat.le_of_ble_eq_true rfl⟩ hc (rfl) rfl rfl rfl rfl
def o_restoreSnapshot (t : cT)  : mO :=
  if (decide (0 < gR (qG (tS t)))) = true then (.inl (some (.int (qC (tG (wH (wG t (cpQ (tG t) (tS t) (qC (tS t)).toNatClampNeg)) (hB (tH (wG t (cpQ (tG t) (tS t) (qC (tS t)).toNatClampNeg))), hP (tH (wG t (cpQ (tG t) (tS t) (qC (tS t)).toNatClampNeg))), hS (tH (wG t (cpQ (tG t) (tS t) (qC (tS t)).toNatClampNeg))), 0))))), (wH (wG t (cpQ (tG t) (tS t) (qC (tS t)).toNatClampNeg)) (hB (tH (wG t (cpQ (tG t) (tS t) (qC (tS t)).toNatClampNeg))), hP (tH (wG t (cpQ (tG t) (tS t) (qC (tS t)).toNatClampNeg))), hS (tH (wG t (cpQ (tG t) (tS t) (qC (tS t)).toNatClampNeg))), 0)))) else
  .inr (xISE, t)
theorem d_X11_restoreSnapshot_0 : decode (mB M_X11_restoreSnapshot) 0 = .ok (.aload_n 0, 1) := by decide +kernel
theorem d_X11_restoreSnapshot_1 : decode (mB M_X11_restoreSnapshot) 1 = .ok (.getfield 30, 3) := by decide +kernel
theorem d_X11_restoreSnapshot_4 : decode (mB M_X11_restoreSnapshot) 4 = .ok (.getfield 42, 3) := by decide +kernel
theorem d_X11_restoreSnapshot_7 : decode (mB M_X11_restoreSnapshot) 7 = .ok (.invokevirtual 213, 3) := by decide +kernel
theorem d_X11_restoreSnapshot_10 : decode (mB M_X11_restoreSnapshot) 10 = .ok (.ifCond .ne 14, 3) := by decide +kernel
theorem d_X11_restoreSnapshot_24 : decode (mB M_X11_restoreSnapshot) 24 = .ok (.aload_n 0, 1) := by decide +kernel
theorem d_X11_restoreSnapshot_25 : decode (mB M_X11_restoreSnapshot) 25 = .ok (.getfield 26, 3) := by decide +kernel
theorem d_X11_restoreSnapshot_28 : decode (mB M_X11_restoreSnapshot) 28 = .ok (.aload_n 0, 1) := by decide +kernel
theorem d_X11_restoreSnapshot_29 : decode (mB M_X11_restoreSnapshot) 29 = .ok (.getfield 30, 3) := by decide +kernel
theorem d_X11_restoreSnapshot_32 : decode (mB M_X11_restoreSnapshot) 32 = .ok (.invokevirtual 374, 3) := by decide +kernel
theorem d_X11_restoreSnapshot_35 : decode (mB M_X11_restoreSnapshot) 35 = .ok (.aload_n 0, 1) := by decide +kernel
theorem d_X11_restoreSnapshot_36 : decode (mB M_X11_restoreSnapshot) 36 = .ok (.getfield 36, 3) := by decide +kernel
theorem d_X11_restoreSnapshot_39 : decode (mB M_X11_restoreSnapshot) 39 = .ok (.invokevirtual 124, 3) := by decide +kernel
theorem d_X11_restoreSnapshot_42 : decode (mB M_X11_restoreSnapshot) 42 = .ok (.aload_n 0, 1) := by decide +kernel
theorem d_X11_restoreSnapshot_43 : decode (mB M_X11_restoreSnapshot) 43 = .ok (.getfield 26, 3) := by decide +kernel
theorem d_X11_restoreSnapshot_46 : decode (mB M_X11_restoreSnapshot) 46 = .ok (.getfield 195, 3) := by decide +kernel
theorem d_X11_restoreSnapshot_49 : decode (mB M_X11_restoreSnapshot) 49 = .ok (.ireturn, 1) := by decide +kernel
theorem c_restoreSnapshot {E : mEnv} (hE : E.1.stackTraces = false) (m : List mE) (t : cT)  (hq : ¬ qC (tS t) < 0) : Rc E M_X11_restoreSnapshot m [.ref 100] t (o_restoreSnapshot t) := by
  refine Rc.of hE rfl pn_X11 (Nat.le_of_ble_eq_true rfl) ?_
  refine g_eq (S' := (0, [some (.ref 100)], [], (m, cw t))) rfl ?_
  refine g_aload_n d_X11_restoreSnapshot_0 rfl ?_
  refine g_getf d_X11_restoreSnapshot_1 f_X11_30 rfl rfl ?_
  refine g_getf d_X11_restoreSnapshot_4 f_X11_42 rfl rfl ?_
  refine g_callV (As := []) d_X11_restoreSnapshot_7 o_X2_isLaid l_X11_213 ⟨Nat.le_of_ble_eq_true rfl, Nat.le_of_ble_eq_true rfl⟩ (c_isLaid hE 113 (qG (tS t)) _ rfl) rfl rfl rfl rfl rfl rfl ?_ (Nat.zero_add _)
  refine g_ifb_ne (tgt := 24) d_X11_restoreSnapshot_10 (by decide) (fun c_10 => ?_) (fun c_10 => ?_)
  · refine g_aload_n d_X11_restoreSnapshot_24 rfl ?_
    refine g_getf d_X11_restoreSnapshot_25 f_X11_26 rfl rfl ?_
    refine g_aload_n d_X11_restoreSnapshot_28 rfl ?_
    refine g_getf d_X11_restoreSnapshot_29 f_X11_30 rfl rfl ?_
    refine g_callV (As := [.ref 112]) d_X11_restoreSnapshot_32 o_X0_copy l_X11_374 ⟨Nat.le_of_ble_eq_true rfl, Nat.le_of_ble_eq_true rfl⟩ (c_copyBack hE m t (qC (tS t)).toNatClampNeg (Int32.toNatClampNeg_lt _) (nI_cl hq)) rfl rfl rfl rfl rfl rfl ?_ (Nat.zero_add _)
    refine g_aload_n d_X11_restoreSnapshot_35 rfl ?_
    refine g_getf d_X11_restoreSnapshot_36 f_X11_36 rfl rfl ?_
    refine g_callV (As := []) d_X11_restoreSnapshot_39 o_X3_clear l_X11_124 ⟨Nat.le_of_ble_eq_true rfl, Nat.le_of_ble_eq_true rfl⟩ (c_hclear hE m (wG t (cpQ (tG t) (tS t) (qC (tS t)).toNatClampNeg))) rfl rfl rfl rfl rfl rfl ?_ (Nat.zero_add _)
    refine g_aload_n d_X11_restoreSnapshot_42 rfl ?_
    refine g_getf d_X11_restoreSnapshot_43 f_X11_26 rfl rfl ?_
    refine g_getf d_X11_restoreSnapshot_46 f_X11_195 rfl rfl ?_
    rw [show o_restoreSnapshot t = .inl (some (.int (qC (tG (wH (wG t (cpQ (tG t) (tS t) (qC (tS t)).toNatClampNeg)) (hB (tH (wG t (cpQ (tG t) (tS t) (qC (tS t)).toNatClampNeg))), hP (tH (wG t (cpQ (tG t) (tS t) (qC (tS t)).toNatClampNeg))), hS (tH (wG t (cpQ (tG t) (tS t) (qC (tS t)).toNatClampNeg))), 0))))), (wH (wG t (cpQ (tG t) (tS t) (qC (tS t)).toNatClampNeg)) (hB (tH (wG t (cpQ (tG t) (tS t) (qC (tS t)).toNatClampNeg))), hP (tH (wG t (cpQ (tG t) (tS t) (qC (tS t)).toNatClampNeg))), hS (tH (wG t (cpQ (tG t) (tS t) (qC (tS t)).toNatClampNeg))), 0))) by simp only [o_restoreSnapshot, c_10, ↓reduceIte, Bool.false_eq_true, Bool.true_eq_false, not_true_eq_false, not_false_eq_true]; try rfl]
    exact g_retI d_X11_restoreSnapshot_49 rfl (rfl) (rfl)
  · rw [show o_restoreSnapshot t = .inr (xISE, t) by simp only [o_restoreSnapshot, c_10, ↓reduceIte, Bool.false_eq_true, Bool.true_eq_false, not_true_eq_false, not_false_eq_true]; try rfl]
    exact g_throw (n := 0) th_X11_restoreSnapshot_13 rfl
def o_solution (t : cT) (i : Int32) (b : Bool) : mO :=
  if (tO t).2.1 = (-1) then (.inr (xNSEE, t)) else
  if i < (-1) then (.inr (xNSEE, t)) else
  if i < (tO t).2.1 then (if i = (-1) then (if b = true then (.inl (some (.int (tO t).2.2), t)) else
      .inl (some (.int (tO t).2.1), t)) else
    if b = true then (.inl (some (.int (intAtF 1000 (tO t).1 i - intAtF 1000 (tO t).1 i / 4 * 4)), t)) else
    .inl (some (.int (intAtF 1000 (tO t).1 i / 4)), t)) else
  .inr (xNSEE, t)
theorem d_X11_solution_0 : decode (mB M_X11_solution) 0 = .ok (.aload_n 0, 1) := by decide +kernel
theorem d_X11_solution_1 : decode (mB M_X11_solution) 1 = .ok (.getfield 70, 3) := by decide +kernel
theorem d_X11_solution_4 : decode (mB M_X11_solution) 4 = .ok (.getfield 340, 3) := by decide +kernel
theorem d_X11_solution_7 : decode (mB M_X11_solution) 7 = .ok (.iconst (-1), 1) := by decide +kernel
theorem d_X11_solution_8 : decode (mB M_X11_solution) 8 = .ok (.if_icmp .eq 19, 3) := by decide +kernel
theorem d_X11_solution_11 : decode (mB M_X11_solution) 11 = .ok (.iload_n 1, 1) := by decide +kernel
theorem d_X11_solution_12 : decode (mB M_X11_solution) 12 = .ok (.iconst (-1), 1) := by decide +kernel
theorem d_X11_solution_13 : decode (mB M_X11_solution) 13 = .ok (.if_icmp .lt 14, 3) := by decide +kernel
theorem d_X11_solution_16 : decode (mB M_X11_solution) 16 = .ok (.iload_n 1, 1) := by decide +kernel
theorem d_X11_solution_17 : decode (mB M_X11_solution) 17 = .ok (.aload_n 0, 1) := by decide +kernel
theorem d_X11_solution_18 : decode (mB M_X11_solution) 18 = .ok (.getfield 70, 3) := by decide +kernel
theorem d_X11_solution_21 : decode (mB M_X11_solution) 21 = .ok (.getfield 340, 3) := by decide +kernel
theorem d_X11_solution_24 : decode (mB M_X11_solution) 24 = .ok (.if_icmp .lt 14, 3) := by decide +kernel
theorem d_X11_solution_38 : decode (mB M_X11_solution) 38 = .ok (.iload_n 1, 1) := by decide +kernel
theorem d_X11_solution_39 : decode (mB M_X11_solution) 39 = .ok (.iconst (-1), 1) := by decide +kernel
theorem d_X11_solution_40 : decode (mB M_X11_solution) 40 = .ok (.if_icmp .ne 25, 3) := by decide +kernel
theorem d_X11_solution_43 : decode (mB M_X11_solution) 43 = .ok (.iload_n 2, 1) := by decide +kernel
theorem d_X11_solution_44 : decode (mB M_X11_solution) 44 = .ok (.ifCond .eq 13, 3) := by decide +kernel
theorem d_X11_solution_47 : decode (mB M_X11_solution) 47 = .ok (.aload_n 0, 1) := by decide +kernel
theorem d_X11_solution_48 : decode (mB M_X11_solution) 48 = .ok (.getfield 70, 3) := by decide +kernel
theorem d_X11_solution_51 : decode (mB M_X11_solution) 51 = .ok (.getfield 344, 3) := by decide +kernel
theorem d_X11_solution_54 : decode (mB M_X11_solution) 54 = .ok (.goto 10, 3) := by decide +kernel
theorem d_X11_solution_57 : decode (mB M_X11_solution) 57 = .ok (.aload_n 0, 1) := by decide +kernel
theorem d_X11_solution_58 : decode (mB M_X11_solution) 58 = .ok (.getfield 70, 3) := by decide +kernel
theorem d_X11_solution_61 : decode (mB M_X11_solution) 61 = .ok (.getfield 340, 3) := by decide +kernel
theorem d_X11_solution_64 : decode (mB M_X11_solution) 64 = .ok (.ireturn, 1) := by decide +kernel
theorem d_X11_solution_65 : decode (mB M_X11_solution) 65 = .ok (.iload_n 2, 1) := by decide +kernel
theorem d_X11_solution_66 : decode (mB M_X11_solution) 66 = .ok (.ifCond .eq 14, 3) := by decide +kernel
theorem d_X11_solution_69 : decode (mB M_X11_solution) 69 = .ok (.aload_n 0, 1) := by decide +kernel
theorem d_X11_solution_70 : decode (mB M_X11_solution) 70 = .ok (.getfield 70, 3) := by decide +kernel
theorem d_X11_solution_73 : decode (mB M_X11_solution) 73 = .ok (.iload_n 1, 1) := by decide +kernel
theorem d_X11_solution_74 : decode (mB M_X11_solution) 74 = .ok (.invokevirtual 347, 3) := by decide +kernel
theorem d_X11_solution_77 : decode (mB M_X11_solution) 77 = .ok (.goto 11, 3) := by decide +kernel
theorem d_X11_solution_80 : decode (mB M_X11_solution) 80 = .ok (.aload_n 0, 1) := by decide +kernel
theorem d_X11_solution_81 : decode (mB M_X11_solution) 81 = .ok (.getfield 70, 3) := by decide +kernel
theorem d_X11_solution_84 : decode (mB M_X11_solution) 84 = .ok (.iload_n 1, 1) := by decide +kernel
theorem d_X11_solution_85 : decode (mB M_X11_solution) 85 = .ok (.invokevirtual 350, 3) := by decide +kernel
theorem d_X11_solution_88 : decode (mB M_X11_solution) 88 = .ok (.ireturn, 1) := by decide +kernel
theorem c_solution {E : mEnv} (hE : E.1.stackTraces = false) (m : List mE) (t : cT) (i : Int32) (b : Bool)  : Rc E M_X11_solution m [.ref 100, .int i, .int ((bI b))] t (o_solution t i b) := by
  refine Rc.of hE rfl pn_X11 (Nat.le_of_ble_eq_true rfl) ?_
  refine g_eq (S' := (0, [some (.ref 100), some (.int i), some (.int (bI b))], [], (m, cw t))) rfl ?_
  refine g_aload_n d_X11_solution_0 rfl ?_
  refine g_getf d_X11_solution_1 f_X11_70 rfl rfl ?_
  refine g_getf d_X11_solution_4 f_X11_340 rfl rfl ?_
  refine g_iconst (v := (-1)) d_X11_solution_7 (by decide) ?_
  refine g_icmp_eq (tgt := 27) d_X11_solution_8 (by decide) (fun c_8 => ?_) (fun c_8 => ?_)
  · rw [show o_solution t i b = .inr (xNSEE, t) by simp only [o_solution, eq_true c_8, ↓reduceIte, Bool.false_eq_true, Bool.true_eq_false, not_true_eq_false, not_false_eq_true]; try rfl]
    exact g_throw (n := 0) th_X11_solution_27 rfl
  · refine g_iload_n d_X11_solution_11 rfl ?_
    refine g_iconst (v := (-1)) d_X11_solution_12 (by decide) ?_
    refine g_icmp_lt (tgt := 27) d_X11_solution_13 (by decide) (fun c_13 => ?_) (fun c_13 => ?_)
    · rw [show o_solution t i b = .inr (xNSEE, t) by simp only [o_solution, eq_false c_8, eq_true c_13, ↓reduceIte, Bool.false_eq_true, Bool.true_eq_false, not_true_eq_false, not_false_eq_true]; try rfl]
      exact g_throw (n := 0) th_X11_solution_27 rfl
    · refine g_iload_n d_X11_solution_16 rfl ?_
      refine g_aload_n d_X11_solution_17 rfl ?_
      refine g_getf d_X11_solution_18 f_X11_70 rfl rfl ?_
      refine g_getf d_X11_solution_21 f_X11_340 rfl rfl ?_
      refine g_icmp_lt (tgt := 38) d_X11_solution_24 (by decide) (fun c_24 => ?_) (fun c_24 => ?_)
      · refine g_iload_n d_X11_solution_38 rfl ?_
        refine g_iconst (v := (-1)) d_X11_solution_39 (by decide) ?_
        refine g_icmp_ne (tgt := 65) d_X11_solution_40 (by decide) (fun c_40 => ?_) (fun c_40 => ?_)
        · refine g_iload_n d_X11_solution_65 rfl ?_
          refine g_ifb_eq (tgt := 80) d_X11_solution_66 (by decide) (fun c_66 => ?_) (fun c_66 => ?_)
          · refine g_aload_n d_X11_solution_80 rfl ?_
            refine g_getf d_X11_solution_81 f_X11_70 rfl rfl ?_
            refine g_iload_n d_X11_solution_84 rfl ?_
            refine g_callV (As := [.int i]) d_X11_solution_85 o_X9_cellAt l_X11_350 ⟨Nat.le_of_ble_eq_true rfl, Nat.le_of_ble_eq_true rfl⟩ (c_cellAt hE m t i) rfl rfl rfl rfl rfl rfl ?_ (Nat.zero_add _)
            rw [show o_solution t i b = .inl (some (.int (intAtF 1000 (tO t).1 i / 4)), t) by simp only [o_solution, eq_false c_8, eq_false c_13, eq_true c_24, eq_false c_40, c_66, ↓reduceIte, Bool.false_eq_true, Bool.true_eq_false, not_true_eq_false, not_false_eq_true]; try rfl]
            exact g_retI d_X11_solution_88 rfl (rfl) (rfl)
          · refine g_aload_n d_X11_solution_69 rfl ?_
            refine g_getf d_X11_solution_70 f_X11_70 rfl rfl ?_
            refine g_iload_n d_X11_solution_73 rfl ?_
            refine g_callV (As := [.int i]) d_X11_solution_74 o_X9_directionAt l_X11_347 ⟨Nat.le_of_ble_eq_true rfl, Nat.le_of_ble_eq_true rfl⟩ (c_dirAt hE m t i) rfl rfl rfl rfl rfl rfl ?_ (Nat.zero_add _)
            refine g_goto (tgt := 88) d_X11_solution_77 (by decide) ?_
            rw [show o_solution t i b = .inl (some (.int (intAtF 1000 (tO t).1 i - intAtF 1000 (tO t).1 i / 4 * 4)), t) by simp only [o_solution, eq_false c_8, eq_false c_13, eq_true c_24, eq_false c_40, c_66, ↓reduceIte, Bool.false_eq_true, Bool.true_eq_false, not_true_eq_false, not_false_eq_true]; try rfl]
            exact g_retI d_X11_solution_88 rfl (rfl) (rfl)
        · refine g_iload_n d_X11_solution_43 rfl ?_
          refine g_ifb_eq (tgt := 57) d_X11_solution_44 (by decide) (fun c_44 => ?_) (fun c_44 => ?_)
          · refine g_aload_n d_X11_solution_57 rfl ?_
            refine g_getf d_X11_solution_58 f_X11_70 rfl rfl ?_
            refine g_getf d_X11_solution_61 f_X11_340 rfl rfl ?_
            rw [show o_solution t i b = .inl (some (.int (tO t).2.1), t) by simp only [o_solution, eq_false c_8, eq_false c_13, eq_true c_24, eq_true c_40, c_44, ↓reduceIte, Bool.false_eq_true, Bool.true_eq_false, not_true_eq_false, not_false_eq_true]; try rfl]
            exact g_retI d_X11_solution_64 rfl (rfl) (rfl)
          · refine g_aload_n d_X11_solution_47 rfl ?_
            refine g_getf d_X11_solution_48 f_X11_70 rfl rfl ?_
            refine g_getf d_X11_solution_51 f_X11_344 rfl rfl ?_
            refine g_goto (tgt := 64) d_X11_solution_54 (by decide) ?_
            rw [show o_solution t i b = .inl (some (.int (tO t).2.2), t) by simp only [o_solution, eq_false c_8, eq_false c_13, eq_true c_24, eq_true c_40, c_44, ↓reduceIte, Bool.false_eq_true, Bool.true_eq_false, not_true_eq_false, not_false_eq_true]; try rfl]
            exact g_retI d_X11_solution_64 rfl (rfl) (rfl)
      · rw [show o_solution t i b = .inr (xNSEE, t) by simp only [o_solution, eq_false c_8, eq_false c_13, eq_false c_24, ↓reduceIte, Bool.false_eq_true, Bool.true_eq_false, not_true_eq_false, not_false_eq_true]; try rfl]
        exact g_throw (n := 0) th_X11_solution_27 rfl
