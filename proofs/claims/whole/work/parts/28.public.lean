/-! the methods that several public ones share, and the public ones: what they answer or throw (the mirror functions o_ are written out of the walks) -/
def keT (t : cT) (r d : Int32) : cT := wK t (r, d, (tK t).2.2)
theorem d_X11_keepRefusal_0 : decode (mB M_X11_keepRefusal) 0 = .ok (.aload_n 0, 1) := by decide +kernel
theorem d_X11_keepRefusal_1 : decode (mB M_X11_keepRefusal) 1 = .ok (.iload_n 1, 1) := by decide +kernel
theorem d_X11_keepRefusal_2 : decode (mB M_X11_keepRefusal) 2 = .ok (.putfield 74, 3) := by decide +kernel
theorem d_X11_keepRefusal_5 : decode (mB M_X11_keepRefusal) 5 = .ok (.aload_n 0, 1) := by decide +kernel
theorem d_X11_keepRefusal_6 : decode (mB M_X11_keepRefusal) 6 = .ok (.iload_n 2, 1) := by decide +kernel
theorem d_X11_keepRefusal_7 : decode (mB M_X11_keepRefusal) 7 = .ok (.putfield 78, 3) := by decide +kernel
theorem d_X11_keepRefusal_10 : decode (mB M_X11_keepRefusal) 10 = .ok (.return_, 1) := by decide +kernel
theorem c_keepRefusal {E : mEnv} (hE : E.1.stackTraces = false) (m : List mE) (t : cT) (r d : Int32) : Rt E M_X11_keepRefusal 0 [.ref 100, .int r, .int d] ((m, cw t)) none ((m, cw (keT t r d))) := by
  refine Rt.of hE rfl pn_X11 (Nat.le_of_ble_eq_true rfl) ?_
  refine g_eq (S' := (0, [some (.ref 100), some (.int r), some (.int d)], [], (m, cw t))) rfl ?_
  refine g_aload_n d_X11_keepRefusal_0 rfl ?_
  refine g_iload_n d_X11_keepRefusal_1 rfl ?_
  refine g_putI (w' := (mset (m, cw t) 100 (.inr (11, [.ref 101, .ref 103, .ref 104, .ref 112, .ref 120, .ref 124, .ref 127, .ref 130, .ref 136, .int r, .int (tK t).2.1, .int (tK t).2.2])))) d_X11_keepRefusal_2 p_X11_74 rfl rfl rfl (Nat.le_of_ble_eq_true rfl) (rfl) ?_
  refine g_aload_n d_X11_keepRefusal_5 rfl ?_
  refine g_iload_n d_X11_keepRefusal_6 rfl ?_
  refine g_putI (w' := (mset (m, cw t) 100 (.inr (11, [.ref 101, .ref 103, .ref 104, .ref 112, .ref 120, .ref 124, .ref 127, .ref 130, .ref 136, .int r, .int d, .int (tK t).2.2])))) d_X11_keepRefusal_7 p_X11_78 rfl rfl (mget_eq rfl) (Nat.le_of_ble_eq_true rfl) (mset_mset) ?_
  exact g_retV d_X11_keepRefusal_10 rfl (rfl)
def o_room (t : cT)  : mO :=
  if (decide (0 < gR (qG (tG t)))) = true then (.inl (none, t)) else
  .inr (xISE, t)
theorem d_X11_requireRoom_0 : decode (mB M_X11_requireRoom) 0 = .ok (.aload_n 0, 1) := by decide +kernel
theorem d_X11_requireRoom_1 : decode (mB M_X11_requireRoom) 1 = .ok (.getfield 26, 3) := by decide +kernel
theorem d_X11_requireRoom_4 : decode (mB M_X11_requireRoom) 4 = .ok (.getfield 42, 3) := by decide +kernel
theorem d_X11_requireRoom_7 : decode (mB M_X11_requireRoom) 7 = .ok (.invokevirtual 213, 3) := by decide +kernel
theorem d_X11_requireRoom_10 : decode (mB M_X11_requireRoom) 10 = .ok (.ifCond .ne 14, 3) := by decide +kernel
theorem d_X11_requireRoom_24 : decode (mB M_X11_requireRoom) 24 = .ok (.return_, 1) := by decide +kernel
theorem c_room {E : mEnv} (hE : E.1.stackTraces = false) (m : List mE) (t : cT)   : Rc E M_X11_requireRoom m [.ref 100] t (o_room t) := by
  refine Rc.of hE rfl pn_X11 (Nat.le_of_ble_eq_true rfl) ?_
  refine g_eq (S' := (0, [some (.ref 100)], [], (m, cw t))) rfl ?_
  refine g_aload_n d_X11_requireRoom_0 rfl ?_
  refine g_getf d_X11_requireRoom_1 f_X11_26 rfl rfl ?_
  refine g_getf d_X11_requireRoom_4 f_X11_42 rfl rfl ?_
  refine g_callV (As := []) d_X11_requireRoom_7 o_X2_isLaid l_X11_213 ⟨Nat.le_of_ble_eq_true rfl, Nat.le_of_ble_eq_true rfl⟩ (c_isLaid hE 105 (qG (tG t)) _ rfl) rfl rfl rfl rfl rfl rfl ?_ (Nat.zero_add _)
  refine g_ifb_ne (tgt := 24) d_X11_requireRoom_10 (by decide) (fun c_10 => ?_) (fun c_10 => ?_)
  · rw [show o_room t = .inl (none, t) by simp only [o_room, c_10, ↓reduceIte, Bool.false_eq_true, Bool.true_eq_false, not_true_eq_false, not_false_eq_true]; try rfl]
    exact g_retV d_X11_requireRoom_24 rfl (rfl)
  · rw [show o_room t = .inr (xISE, t) by simp only [o_room, c_10, ↓reduceIte, Bool.false_eq_true, Bool.true_eq_false, not_true_eq_false, not_false_eq_true]; try rfl]
    exact g_throw (n := 0) th_X11_requireRoom_13 rfl
def o_direction (t : cT) (d : Int32) : mO :=
  if d < 0 then (.inr (xIAE, t)) else
  if d < 4 then (.inl (none, t)) else
  .inr (xIAE, t)
theorem d_X11_requireDirection_0 : decode (mB M_X11_requireDirection) 0 = .ok (.iload_n 0, 1) := by decide +kernel
theorem d_X11_requireDirection_1 : decode (mB M_X11_requireDirection) 1 = .ok (.ifCond .lt 8, 3) := by decide +kernel
theorem d_X11_requireDirection_4 : decode (mB M_X11_requireDirection) 4 = .ok (.iload_n 0, 1) := by decide +kernel
theorem d_X11_requireDirection_5 : decode (mB M_X11_requireDirection) 5 = .ok (.iconst 4, 1) := by decide +kernel
theorem d_X11_requireDirection_6 : decode (mB M_X11_requireDirection) 6 = .ok (.if_icmp .lt 14, 3) := by decide +kernel
theorem d_X11_requireDirection_20 : decode (mB M_X11_requireDirection) 20 = .ok (.return_, 1) := by decide +kernel
theorem c_direction {E : mEnv} (hE : E.1.stackTraces = false) (m : List mE) (t : cT) (d : Int32)  : Rc E M_X11_requireDirection m [.int d] t (o_direction t d) := by
  refine Rc.of hE rfl pn_X11 (Nat.le_of_ble_eq_true rfl) ?_
  refine g_eq (S' := (0, [some (.int d)], [], (m, cw t))) rfl ?_
  refine g_iload_n d_X11_requireDirection_0 rfl ?_
  refine g_if_lt (tgt := 9) d_X11_requireDirection_1 (by decide) (fun c_1 => ?_) (fun c_1 => ?_)
  · rw [show o_direction t d = .inr (xIAE, t) by simp only [o_direction, eq_true c_1, ↓reduceIte, Bool.false_eq_true, Bool.true_eq_false, not_true_eq_false, not_false_eq_true]; try rfl]
    exact g_throw (n := 0) th_X11_requireDirection_9 rfl
  · refine g_iload_n d_X11_requireDirection_4 rfl ?_
    refine g_iconst (v := 4) d_X11_requireDirection_5 (by decide) ?_
    refine g_icmp_lt (tgt := 20) d_X11_requireDirection_6 (by decide) (fun c_6 => ?_) (fun c_6 => ?_)
    · rw [show o_direction t d = .inl (none, t) by simp only [o_direction, eq_false c_1, eq_true c_6, ↓reduceIte, Bool.false_eq_true, Bool.true_eq_false, not_true_eq_false, not_false_eq_true]; try rfl]
      exact g_retV d_X11_requireDirection_20 rfl (rfl)
    · rw [show o_direction t d = .inr (xIAE, t) by simp only [o_direction, eq_false c_1, eq_false c_6, ↓reduceIte, Bool.false_eq_true, Bool.true_eq_false, not_true_eq_false, not_false_eq_true]; try rfl]
      exact g_throw (n := 0) th_X11_requireDirection_9 rfl
def o_box (t : cT) (c d : Int32) : mO :=
  if d < 0 then (.inr (xIAE, t)) else
  if d < 4 then (if (decide (0 < gR (qG (tG t)))) = true then (if (hasF ((qN (tG t)).1) c) = true then (.inl (none, t)) else
      .inr (xIOOBE, t)) else
    .inr (xISE, t)) else
  .inr (xIAE, t)
theorem d_X11_requireBox_0 : decode (mB M_X11_requireBox) 0 = .ok (.iload_n 2, 1) := by decide +kernel
theorem d_X11_requireBox_1 : decode (mB M_X11_requireBox) 1 = .ok (.invokestatic 270, 3) := by decide +kernel
theorem d_X11_requireBox_4 : decode (mB M_X11_requireBox) 4 = .ok (.aload_n 0, 1) := by decide +kernel
theorem d_X11_requireBox_5 : decode (mB M_X11_requireBox) 5 = .ok (.invokevirtual 139, 3) := by decide +kernel
theorem d_X11_requireBox_8 : decode (mB M_X11_requireBox) 8 = .ok (.aload_n 0, 1) := by decide +kernel
theorem d_X11_requireBox_9 : decode (mB M_X11_requireBox) 9 = .ok (.getfield 26, 3) := by decide +kernel
theorem d_X11_requireBox_12 : decode (mB M_X11_requireBox) 12 = .ok (.getfield 158, 3) := by decide +kernel
theorem d_X11_requireBox_15 : decode (mB M_X11_requireBox) 15 = .ok (.getfield 162, 3) := by decide +kernel
theorem d_X11_requireBox_18 : decode (mB M_X11_requireBox) 18 = .ok (.iload_n 1, 1) := by decide +kernel
theorem d_X11_requireBox_19 : decode (mB M_X11_requireBox) 19 = .ok (.invokestatic 221, 3) := by decide +kernel
theorem d_X11_requireBox_22 : decode (mB M_X11_requireBox) 22 = .ok (.ifCond .ne 14, 3) := by decide +kernel
theorem d_X11_requireBox_36 : decode (mB M_X11_requireBox) 36 = .ok (.return_, 1) := by decide +kernel
theorem c_box {E : mEnv} (hE : E.1.stackTraces = false) (m : List mE) (t : cT) (c d : Int32)  : Rc E M_X11_requireBox m [.ref 100, .int c, .int d] t (o_box t c d) := by
  refine Rc.of hE rfl pn_X11 (Nat.le_of_ble_eq_true rfl) ?_
  refine g_eq (S' := (0, [some (.ref 100), some (.int c), some (.int d)], [], (m, cw t))) rfl ?_
  refine g_iload_n d_X11_requireBox_0 rfl ?_
  by_cases h_1_0 : d < 0
  · rw [show o_box t c d = .inr (xIAE, t) by simp only [o_box, eq_true h_1_0, ↓reduceIte, Bool.false_eq_true, Bool.true_eq_false, not_true_eq_false, not_false_eq_true]; try rfl]
    have hc : Rx E M_X11_requireDirection [.int d] (m, cw t) xIAE (m, cw t) := by have hc := c_direction hE m t d; rw [show o_direction t d = .inr (xIAE, t) by simp only [o_direction, eq_true h_1_0, ↓reduceIte, Bool.false_eq_true, Bool.true_eq_false, not_true_eq_false, not_false_eq_true]; try rfl] at hc; exact hc
    exact g_xcallS (As := [.int d]) d_X11_requireBox_1 o_X11_requireDirection l_X11_270 ⟨Nat.le_of_ble_eq_true rfl, Nat.le_of_ble_eq_true rfl⟩ hc rfl rfl
  by_cases h_1_1 : d < 4
  · have hc : Rt E M_X11_requireDirection 0 [.int d] (m, cw t) none (m, cw t) := by have hc := c_direction hE m t d; rw [show o_direction t d = .inl (none, t) by simp only [o_direction, eq_false h_1_0, eq_true h_1_1, ↓reduceIte, Bool.false_eq_true, Bool.true_eq_false, not_true_eq_false, not_false_eq_true]; try rfl] at hc; exact hc
    refine g_callS (As := [.int d]) d_X11_requireBox_1 o_X11_requireDirection l_X11_270 ⟨Nat.le_of_ble_eq_true rfl, Nat.le_of_ble_eq_true rfl⟩ hc rfl rfl ?_ (Nat.zero_add _)
    refine g_aload_n d_X11_requireBox_4 rfl ?_
    by_cases h_5_0 : (decide (0 < gR (qG (tG t)))) = true
    · have hc : Rt E M_X11_requireRoom 0 [.ref 100] (m, cw t) none (m, cw t) := by have hc := c_room hE m t; rw [show o_room t = .inl (none, t) by simp only [o_room, eq_true h_5_0, ↓reduceIte, Bool.false_eq_true, Bool.true_eq_false, not_true_eq_false, not_false_eq_true]; try rfl] at hc; exact hc
      refine g_callV (As := []) d_X11_requireBox_5 o_X11_requireRoom l_X11_139 ⟨Nat.le_of_ble_eq_true rfl, Nat.le_of_ble_eq_true rfl⟩ hc (rfl) rfl rfl rfl rfl rfl ?_ (Nat.zero_add _)
      refine g_aload_n d_X11_requireBox_8 rfl ?_
      refine g_getf d_X11_requireBox_9 f_X11_26 rfl rfl ?_
      refine g_getf d_X11_requireBox_12 f_X11_158 rfl rfl ?_
      refine g_getf d_X11_requireBox_15 f_X11_162 rfl rfl ?_
      refine g_iload_n d_X11_requireBox_18 rfl ?_
      refine g_callS (As := [.long ((qN (tG t)).1), .int c]) d_X11_requireBox_19 o_X11_has l_X11_221 ⟨Nat.le_of_ble_eq_true rfl, Nat.le_of_ble_eq_true rfl⟩ (c_has hE ((qN (tG t)).1) c _) rfl rfl ?_ (Nat.zero_add _)
      refine g_ifb_ne (tgt := 36) d_X11_requireBox_22 (by decide) (fun c_22 => ?_) (fun c_22 => ?_)
      · rw [show o_box t c d = .inl (none, t) by simp only [o_box, eq_false h_1_0, eq_true h_1_1, eq_true h_5_0, c_22, ↓reduceIte, Bool.false_eq_true, Bool.true_eq_false, not_true_eq_false, not_false_eq_true]; try rfl]
        exact g_retV d_X11_requireBox_36 rfl (rfl)
      · rw [show o_box t c d = .inr (xIOOBE, t) by simp only [o_box, eq_false h_1_0, eq_true h_1_1, eq_true h_5_0, c_22, ↓reduceIte, Bool.false_eq_true, Bool.true_eq_false, not_true_eq_false, not_false_eq_true]; try rfl]
        exact g_throw (n := 0) th_X11_requireBox_25 rfl
    rw [show o_box t c d = .inr (xISE, t) by simp only [o_box, eq_false h_1_0, eq_true h_1_1, eq_false h_5_0, ↓reduceIte, Bool.false_eq_true, Bool.true_eq_false, not_true_eq_false, not_false_eq_true]; try rfl]
    have hc : Rx E M_X11_requireRoom [.ref 100] (m, cw t) xISE (m, cw t) := by have hc := c_room hE m t; rw [show o_room t = .inr (xISE, t) by simp only [o_room, eq_false h_5_0, ↓reduceIte, Bool.false_eq_true, Bool.true_eq_false, not_true_eq_false, not_false_eq_true]; try rfl] at hc; exact hc
    exact g_xcallV (As := []) d_X11_requireBox_5 o_X11_requireRoom l_X11_139 ⟨Nat.le_of_ble_eq_true rfl, Nat.le_of_ble_eq_true rfl⟩ hc (rfl) rfl rfl rfl rfl
  rw [show o_box t c d = .inr (xIAE, t) by simp only [o_box, eq_false h_1_0, eq_false h_1_1, ↓reduceIte, Bool.false_eq_true, Bool.true_eq_false, not_true_eq_false, not_false_eq_true]; try rfl]
  have hc : Rx E M_X11_requireDirection [.int d] (m, cw t) xIAE (m, cw t) := by have hc := c_direction hE m t d; rw [show o_direction t d = .inr (xIAE, t) by simp only [o_direction, eq_false h_1_0, eq_false h_1_1, ↓reduceIte, Bool.false_eq_true, Bool.true_eq_false, not_true_eq_false, not_false_eq_true]; try rfl] at hc; exact hc
  exact g_xcallS (As := [.int d]) d_X11_requireBox_1 o_X11_requireDirection l_X11_270 ⟨Nat.le_of_ble_eq_true rfl, Nat.le_of_ble_eq_true rfl⟩ hc rfl rfl
def o_requirePush (t : cT) (c d : Int32) : mO :=
  if d < 0 then (.inr (xIAE, t)) else
  if d < 4 then (if (decide (0 < gR (qG (tG t)))) = true then (if (hasF ((qN (tG t)).1) c) = true then (if (pPr (qG (tG t)) (qN (tG t)).1 (qN (tG t)).2 c d) = 0 then (.inl (none, t)) else
        .inr (xUOE, (keT t (pPr (qG (tG t)) (qN (tG t)).1 (qN (tG t)).2 c d) (pPd (qG (tG t)) (pPr (qG (tG t)) (qN (tG t)).1 (qN (tG t)).2 c d) c d)))) else
      .inr (xIOOBE, t)) else
    .inr (xISE, t)) else
  .inr (xIAE, t)
theorem d_X11_requirePush_0 : decode (mB M_X11_requirePush) 0 = .ok (.aload_n 0, 1) := by decide +kernel
theorem d_X11_requirePush_1 : decode (mB M_X11_requirePush) 1 = .ok (.iload_n 1, 1) := by decide +kernel
theorem d_X11_requirePush_2 : decode (mB M_X11_requirePush) 2 = .ok (.iload_n 2, 1) := by decide +kernel
theorem d_X11_requirePush_3 : decode (mB M_X11_requirePush) 3 = .ok (.invokevirtual 330, 3) := by decide +kernel
theorem d_X11_requirePush_6 : decode (mB M_X11_requirePush) 6 = .ok (.aload_n 0, 1) := by decide +kernel
theorem d_X11_requirePush_7 : decode (mB M_X11_requirePush) 7 = .ok (.getfield 26, 3) := by decide +kernel
theorem d_X11_requirePush_10 : decode (mB M_X11_requirePush) 10 = .ok (.getfield 158, 3) := by decide +kernel
theorem d_X11_requirePush_13 : decode (mB M_X11_requirePush) 13 = .ok (.iload_n 1, 1) := by decide +kernel
theorem d_X11_requirePush_14 : decode (mB M_X11_requirePush) 14 = .ok (.iload_n 2, 1) := by decide +kernel
theorem d_X11_requirePush_15 : decode (mB M_X11_requirePush) 15 = .ok (.invokevirtual 333, 3) := by decide +kernel
theorem d_X11_requirePush_18 : decode (mB M_X11_requirePush) 18 = .ok (.istore_n 3, 1) := by decide +kernel
theorem d_X11_requirePush_19 : decode (mB M_X11_requirePush) 19 = .ok (.iload_n 3, 1) := by decide +kernel
theorem d_X11_requirePush_20 : decode (mB M_X11_requirePush) 20 = .ok (.ifCond .eq 32, 3) := by decide +kernel
theorem d_X11_requirePush_23 : decode (mB M_X11_requirePush) 23 = .ok (.aload_n 0, 1) := by decide +kernel
theorem d_X11_requirePush_24 : decode (mB M_X11_requirePush) 24 = .ok (.iload_n 3, 1) := by decide +kernel
theorem d_X11_requirePush_25 : decode (mB M_X11_requirePush) 25 = .ok (.aload_n 0, 1) := by decide +kernel
theorem d_X11_requirePush_26 : decode (mB M_X11_requirePush) 26 = .ok (.getfield 26, 3) := by decide +kernel
theorem d_X11_requirePush_29 : decode (mB M_X11_requirePush) 29 = .ok (.getfield 158, 3) := by decide +kernel
theorem d_X11_requirePush_32 : decode (mB M_X11_requirePush) 32 = .ok (.iload_n 3, 1) := by decide +kernel
theorem d_X11_requirePush_33 : decode (mB M_X11_requirePush) 33 = .ok (.iload_n 1, 1) := by decide +kernel
theorem d_X11_requirePush_34 : decode (mB M_X11_requirePush) 34 = .ok (.iload_n 2, 1) := by decide +kernel
theorem d_X11_requirePush_35 : decode (mB M_X11_requirePush) 35 = .ok (.invokevirtual 385, 3) := by decide +kernel
theorem d_X11_requirePush_38 : decode (mB M_X11_requirePush) 38 = .ok (.invokevirtual 284, 3) := by decide +kernel
theorem d_X11_requirePush_52 : decode (mB M_X11_requirePush) 52 = .ok (.return_, 1) := by decide +kernel
theorem c_requirePush {E : mEnv} (hE : E.1.stackTraces = false) (m : List mE) (t : cT) (c d : Int32)  : Rc E M_X11_requirePush m [.ref 100, .int c, .int d] t (o_requirePush t c d) := by
  refine Rc.of hE rfl pn_X11 (Nat.le_of_ble_eq_true rfl) ?_
  refine g_eq (S' := (0, [some (.ref 100), some (.int c), some (.int d), none], [], (m, cw t))) rfl ?_
  refine g_aload_n d_X11_requirePush_0 rfl ?_
  refine g_iload_n d_X11_requirePush_1 rfl ?_
  refine g_iload_n d_X11_requirePush_2 rfl ?_
  by_cases h_3_0 : d < 0
  · rw [show o_requirePush t c d = .inr (xIAE, t) by simp only [o_requirePush, eq_true h_3_0, ↓reduceIte, Bool.false_eq_true, Bool.true_eq_false, not_true_eq_false, not_false_eq_true]; try rfl]
    have hc : Rx E M_X11_requireBox [.ref 100, .int c, .int d] (m, cw t) xIAE (m, cw t) := by have hc := c_box hE m t c d; rw [show o_box t c d = .inr (xIAE, t) by simp only [o_box, eq_true h_3_0, ↓reduceIte, Bool.false_eq_true, Bool.true_eq_false, not_true_eq_false, not_false_eq_true]; try rfl] at hc; exact hc
    exact g_xcallV (As := [.int c, .int d]) d_X11_requirePush_3 o_X11_requireBox l_X11_330 ⟨Nat.le_of_ble_eq_true rfl, Nat.le_of_ble_eq_true rfl⟩ hc (rfl) rfl rfl rfl rfl
  by_cases h_3_1 : d < 4
  · by_cases h_3_2 : (decide (0 < gR (qG (tG t)))) = true
    · by_cases h_3_3 : (hasF ((qN (tG t)).1) c) = true
      · have hc : Rt E M_X11_requireBox 0 [.ref 100, .int c, .int d] (m, cw t) none (m, cw t) := by have hc := c_box hE m t c d; rw [show o_box t c d = .inl (none, t) by simp only [o_box, eq_false h_3_0, eq_true h_3_1, eq_true h_3_2, eq_true h_3_3, ↓reduceIte, Bool.false_eq_true, Bool.true_eq_false, not_true_eq_false, not_false_eq_true]; try rfl] at hc; exact hc
        refine g_callV (As := [.int c, .int d]) d_X11_requirePush_3 o_X11_requireBox l_X11_330 ⟨Nat.le_of_ble_eq_true rfl, Nat.le_of_ble_eq_true rfl⟩ hc (rfl) rfl rfl rfl rfl rfl ?_ (Nat.zero_add _)
        refine g_aload_n d_X11_requirePush_6 rfl ?_
        refine g_getf d_X11_requirePush_7 f_X11_26 rfl rfl ?_
        refine g_getf d_X11_requirePush_10 f_X11_158 rfl rfl ?_
        refine g_iload_n d_X11_requirePush_13 rfl ?_
        refine g_iload_n d_X11_requirePush_14 rfl ?_
        refine g_callV (As := [.int c, .int d]) d_X11_requirePush_15 o_X6_pushReason l_X11_333 ⟨Nat.le_of_ble_eq_true rfl, Nat.le_of_ble_eq_true rfl⟩ (c_pushReason hE 106 105 (qG (tG t)) (qN (tG t)).1 (qN (tG t)).2 _ rfl rfl c d) rfl rfl rfl rfl rfl rfl ?_ (Nat.zero_add _)
        refine g_istore_n (L' := [some (.ref 100), some (.int c), some (.int d), some (.int (pPr (qG (tG t)) (qN (tG t)).1 (qN (tG t)).2 c d))]) d_X11_requirePush_18 rfl rfl ?_
        refine g_iload_n d_X11_requirePush_19 rfl ?_
        refine g_if_eq (tgt := 52) d_X11_requirePush_20 (by decide) (fun c_20 => ?_) (fun c_20 => ?_)
        · rw [show o_requirePush t c d = .inl (none, t) by simp only [o_requirePush, eq_false h_3_0, eq_true h_3_1, eq_true h_3_2, eq_true h_3_3, eq_true c_20, ↓reduceIte, Bool.false_eq_true, Bool.true_eq_false, not_true_eq_false, not_false_eq_true]; try rfl]
          exact g_retV d_X11_requirePush_52 rfl (rfl)
        · refine g_aload_n d_X11_requirePush_23 rfl ?_
          refine g_iload_n d_X11_requirePush_24 rfl ?_
          refine g_aload_n d_X11_requirePush_25 rfl ?_
          refine g_getf d_X11_requirePush_26 f_X11_26 rfl rfl ?_
          refine g_getf d_X11_requirePush_29 f_X11_158 rfl rfl ?_
          refine g_iload_n d_X11_requirePush_32 rfl ?_
          refine g_iload_n d_X11_requirePush_33 rfl ?_
          refine g_iload_n d_X11_requirePush_34 rfl ?_
          refine g_callV (As := [.int (pPr (qG (tG t)) (qN (tG t)).1 (qN (tG t)).2 c d), .int c, .int d]) d_X11_requirePush_35 o_X6_pushDetail l_X11_385 ⟨Nat.le_of_ble_eq_true rfl, Nat.le_of_ble_eq_true rfl⟩ (c_pushDetail hE 106 105 (qG (tG t)) (qN (tG t)).1 (qN (tG t)).2 _ rfl rfl (pPr (qG (tG t)) (qN (tG t)).1 (qN (tG t)).2 c d) c d) rfl rfl rfl rfl rfl rfl ?_ (Nat.zero_add _)
          refine g_callV (As := [.int (pPr (qG (tG t)) (qN (tG t)).1 (qN (tG t)).2 c d), .int (pPd (qG (tG t)) (pPr (qG (tG t)) (qN (tG t)).1 (qN (tG t)).2 c d) c d)]) d_X11_requirePush_38 o_X11_keepRefusal l_X11_284 ⟨Nat.le_of_ble_eq_true rfl, Nat.le_of_ble_eq_true rfl⟩ (c_keepRefusal hE m t (pPr (qG (tG t)) (qN (tG t)).1 (qN (tG t)).2 c d) (pPd (qG (tG t)) (pPr (qG (tG t)) (qN (tG t)).1 (qN (tG t)).2 c d) c d)) rfl rfl rfl rfl rfl rfl ?_ (Nat.zero_add _)
          rw [show o_requirePush t c d = .inr (xUOE, (keT t (pPr (qG (tG t)) (qN (tG t)).1 (qN (tG t)).2 c d) (pPd (qG (tG t)) (pPr (qG (tG t)) (qN (tG t)).1 (qN (tG t)).2 c d) c d))) by simp only [o_requirePush, eq_false h_3_0, eq_true h_3_1, eq_true h_3_2, eq_true h_3_3, eq_false c_20, ↓reduceIte, Bool.false_eq_true, Bool.true_eq_false, not_true_eq_false, not_false_eq_true]; try rfl]
          exact g_throw (n := 0) th_X11_requirePush_41 rfl
      rw [show o_requirePush t c d = .inr (xIOOBE, t) by simp only [o_requirePush, eq_false h_3_0, eq_true h_3_1, eq_true h_3_2, eq_false h_3_3, ↓reduceIte, Bool.false_eq_true, Bool.true_eq_false, not_true_eq_false, not_false_eq_true]; try rfl]
      have hc : Rx E M_X11_requireBox [.ref 100, .int c, .int d] (m, cw t) xIOOBE (m, cw t) := by have hc := c_box hE m t c d; rw [show o_box t c d = .inr (xIOOBE, t) by simp only [o_box, eq_false h_3_0, eq_true h_3_1, eq_true h_3_2, eq_false h_3_3, ↓reduceIte, Bool.false_eq_true, Bool.true_eq_false, not_true_eq_false, not_false_eq_true]; try rfl] at hc; exact hc
      exact g_xcallV (As := [.int c, .int d]) d_X11_requirePush_3 o_X11_requireBox l_X11_330 ⟨Nat.le_of_ble_eq_true rfl, Nat.le_of_ble_eq_true rfl⟩ hc (rfl) rfl rfl rfl rfl
    rw [show o_requirePush t c d = .inr (xISE, t) by simp only [o_requirePush, eq_false h_3_0, eq_true h_3_1, eq_false h_3_2, ↓reduceIte, Bool.false_eq_true, Bool.true_eq_false, not_true_eq_false, not_false_eq_true]; try rfl]
    have hc : Rx E M_X11_requireBox [.ref 100, .int c, .int d] (m, cw t) xISE (m, cw t) := by have hc := c_box hE m t c d; rw [show o_box t c d = .inr (xISE, t) by simp only [o_box, eq_false h_3_0, eq_true h_3_1, eq_false h_3_2, ↓reduceIte, Bool.false_eq_true, Bool.true_eq_false, not_true_eq_false, not_false_eq_true]; try rfl] at hc; exact hc
    exact g_xcallV (As := [.int c, .int d]) d_X11_requirePush_3 o_X11_requireBox l_X11_330 ⟨Nat.le_of_ble_eq_true rfl, Nat.le_of_ble_eq_true rfl⟩ hc (rfl) rfl rfl rfl rfl
  rw [show o_requirePush t c d = .inr (xIAE, t) by simp only [o_requirePush, eq_false h_3_0, eq_false h_3_1, ↓reduceIte, Bool.false_eq_true, Bool.true_eq_false, not_true_eq_false, not_false_eq_true]; try rfl]
  have hc : Rx E M_X11_requireBox [.ref 100, .int c, .int d] (m, cw t) xIAE (m, cw t) := by have hc := c_box hE m t c d; rw [show o_box t c d = .inr (xIAE, t) by simp only [o_box, eq_false h_3_0, eq_false h_3_1, ↓reduceIte, Bool.false_eq_true, Bool.true_eq_false, not_true_eq_false, not_false_eq_true]; try rfl] at hc; exact hc
  exact g_xcallV (As := [.int c, .int d]) d_X11_requirePush_3 o_X11_requireBox l_X11_330 ⟨Nat.le_of_ble_eq_true rfl, Nat.le_of_ble_eq_true rfl⟩ hc (rfl) rfl rfl rfl rfl
def o_commitOrThrow (t : cT)  : mO :=
  if (qC (tG t)) ≤ 400 then (.inl (none, (wH t (cmtH (tH t))))) else
  .inr (xAE, (wG t (rollQ (tH t) (tG t))))
theorem d_X11_commitOrThrow_0 : decode (mB M_X11_commitOrThrow) 0 = .ok (.aload_n 0, 1) := by decide +kernel
theorem d_X11_commitOrThrow_1 : decode (mB M_X11_commitOrThrow) 1 = .ok (.getfield 26, 3) := by decide +kernel
theorem d_X11_commitOrThrow_4 : decode (mB M_X11_commitOrThrow) 4 = .ok (.getfield 195, 3) := by decide +kernel
theorem d_X11_commitOrThrow_7 : decode (mB M_X11_commitOrThrow) 7 = .ok (.sipush 400, 3) := by decide +kernel
theorem d_X11_commitOrThrow_10 : decode (mB M_X11_commitOrThrow) 10 = .ok (.if_icmp .le 25, 3) := by decide +kernel
theorem d_X11_commitOrThrow_13 : decode (mB M_X11_commitOrThrow) 13 = .ok (.aload_n 0, 1) := by decide +kernel
theorem d_X11_commitOrThrow_14 : decode (mB M_X11_commitOrThrow) 14 = .ok (.getfield 36, 3) := by decide +kernel
theorem d_X11_commitOrThrow_17 : decode (mB M_X11_commitOrThrow) 17 = .ok (.aload_n 0, 1) := by decide +kernel
theorem d_X11_commitOrThrow_18 : decode (mB M_X11_commitOrThrow) 18 = .ok (.getfield 26, 3) := by decide +kernel
theorem d_X11_commitOrThrow_21 : decode (mB M_X11_commitOrThrow) 21 = .ok (.invokevirtual 321, 3) := by decide +kernel
theorem d_X11_commitOrThrow_35 : decode (mB M_X11_commitOrThrow) 35 = .ok (.aload_n 0, 1) := by decide +kernel
theorem d_X11_commitOrThrow_36 : decode (mB M_X11_commitOrThrow) 36 = .ok (.getfield 36, 3) := by decide +kernel
theorem d_X11_commitOrThrow_39 : decode (mB M_X11_commitOrThrow) 39 = .ok (.invokevirtual 300, 3) := by decide +kernel
theorem d_X11_commitOrThrow_42 : decode (mB M_X11_commitOrThrow) 42 = .ok (.return_, 1) := by decide +kernel
theorem c_commitOrThrow {E : mEnv} (hE : E.1.stackTraces = false) (m : List mE) (t : cT)   : Rc E M_X11_commitOrThrow m [.ref 100] t (o_commitOrThrow t) := by
  refine Rc.of hE rfl pn_X11 (Nat.le_of_ble_eq_true rfl) ?_
  refine g_eq (S' := (0, [some (.ref 100)], [], (m, cw t))) rfl ?_
  refine g_aload_n d_X11_commitOrThrow_0 rfl ?_
  refine g_getf d_X11_commitOrThrow_1 f_X11_26 rfl rfl ?_
  refine g_getf d_X11_commitOrThrow_4 f_X11_195 rfl rfl ?_
  refine g_sipush (v := 400) d_X11_commitOrThrow_7 (by decide) ?_
  refine g_icmp_le (tgt := 35) d_X11_commitOrThrow_10 (by decide) (fun c_10 => ?_) (fun c_10 => ?_)
  · refine g_aload_n d_X11_commitOrThrow_35 rfl ?_
    refine g_getf d_X11_commitOrThrow_36 f_X11_36 rfl rfl ?_
    refine g_callV (As := []) d_X11_commitOrThrow_39 o_X3_commit l_X11_300 ⟨Nat.le_of_ble_eq_true rfl, Nat.le_of_ble_eq_true rfl⟩ (c_commit hE m t) rfl rfl rfl rfl rfl rfl ?_ (Nat.zero_add _)
    rw [show o_commitOrThrow t = .inl (none, (wH t (cmtH (tH t)))) by simp only [o_commitOrThrow, eq_true c_10, ↓reduceIte, Bool.false_eq_true, Bool.true_eq_false, not_true_eq_false, not_false_eq_true]; try rfl]
    exact g_retV d_X11_commitOrThrow_42 rfl (rfl)
  · refine g_aload_n d_X11_commitOrThrow_13 rfl ?_
    refine g_getf d_X11_commitOrThrow_14 f_X11_36 rfl rfl ?_
    refine g_aload_n d_X11_commitOrThrow_17 rfl ?_
    refine g_getf d_X11_commitOrThrow_18 f_X11_26 rfl rfl ?_
    refine g_callV (As := [.ref 104]) d_X11_commitOrThrow_21 o_X3_rollBack l_X11_321 ⟨Nat.le_of_ble_eq_true rfl, Nat.le_of_ble_eq_true rfl⟩ (c_rollBack hE m t) rfl rfl rfl rfl rfl rfl ?_ (Nat.zero_add _)
    rw [show o_commitOrThrow t = .inr (xAE, (wG t (rollQ (tH t) (tG t)))) by simp only [o_commitOrThrow, eq_false c_10, ↓reduceIte, Bool.false_eq_true, Bool.true_eq_false, not_true_eq_false, not_false_eq_true]; try rfl]
    exact g_throw (n := 0) th_X11_commitOrThrow_24 rfl
def o_feed (t : cT) (c : Int32) : mO :=
  if c < 32 then (.inr (xIAE, t)) else
  if c ≤ 126 then (if (tI t).2 < 80 then (.inl (some (.int (tI (wI t (iAdd (tI t) c))).2), (wI t (iAdd (tI t) c)))) else
    .inr (xISE, t)) else
  .inr (xIAE, t)
theorem d_X11_feed_0 : decode (mB M_X11_feed) 0 = .ok (.iload_n 1, 1) := by decide +kernel
theorem d_X11_feed_1 : decode (mB M_X11_feed) 1 = .ok (.bipush 32, 2) := by decide +kernel
theorem d_X11_feed_3 : decode (mB M_X11_feed) 3 = .ok (.if_icmp .lt 9, 3) := by decide +kernel
theorem d_X11_feed_6 : decode (mB M_X11_feed) 6 = .ok (.iload_n 1, 1) := by decide +kernel
theorem d_X11_feed_7 : decode (mB M_X11_feed) 7 = .ok (.bipush 126, 2) := by decide +kernel
theorem d_X11_feed_9 : decode (mB M_X11_feed) 9 = .ok (.if_icmp .le 13, 3) := by decide +kernel
theorem d_X11_feed_22 : decode (mB M_X11_feed) 22 = .ok (.aload_n 0, 1) := by decide +kernel
theorem d_X11_feed_23 : decode (mB M_X11_feed) 23 = .ok (.getfield 10, 3) := by decide +kernel
theorem d_X11_feed_26 : decode (mB M_X11_feed) 26 = .ok (.getfield 91, 3) := by decide +kernel
theorem d_X11_feed_29 : decode (mB M_X11_feed) 29 = .ok (.bipush 80, 2) := by decide +kernel
theorem d_X11_feed_31 : decode (mB M_X11_feed) 31 = .ok (.if_icmp .lt 13, 3) := by decide +kernel
theorem d_X11_feed_44 : decode (mB M_X11_feed) 44 = .ok (.aload_n 0, 1) := by decide +kernel
theorem d_X11_feed_45 : decode (mB M_X11_feed) 45 = .ok (.getfield 10, 3) := by decide +kernel
theorem d_X11_feed_48 : decode (mB M_X11_feed) 48 = .ok (.iload_n 1, 1) := by decide +kernel
theorem d_X11_feed_49 : decode (mB M_X11_feed) 49 = .ok (.invokevirtual 99, 3) := by decide +kernel
theorem d_X11_feed_52 : decode (mB M_X11_feed) 52 = .ok (.aload_n 0, 1) := by decide +kernel
theorem d_X11_feed_53 : decode (mB M_X11_feed) 53 = .ok (.getfield 10, 3) := by decide +kernel
theorem d_X11_feed_56 : decode (mB M_X11_feed) 56 = .ok (.getfield 91, 3) := by decide +kernel
theorem d_X11_feed_59 : decode (mB M_X11_feed) 59 = .ok (.ireturn, 1) := by decide +kernel
theorem c_feed {E : mEnv} (hE : E.1.stackTraces = false) (m : List mE) (t : cT) (c : Int32)  : Rc E M_X11_feed m [.ref 100, .int c] t (o_feed t c) := by
  refine Rc.of hE rfl pn_X11 (Nat.le_of_ble_eq_true rfl) ?_
  refine g_eq (S' := (0, [some (.ref 100), some (.int c)], [], (m, cw t))) rfl ?_
  refine g_iload_n d_X11_feed_0 rfl ?_
  refine g_bipush (v := 32) d_X11_feed_1 (by decide) ?_
  refine g_icmp_lt (tgt := 12) d_X11_feed_3 (by decide) (fun c_3 => ?_) (fun c_3 => ?_)
  · rw [show o_feed t c = .inr (xIAE, t) by simp only [o_feed, eq_true c_3, ↓reduceIte, Bool.false_eq_true, Bool.true_eq_false, not_true_eq_false, not_false_eq_true]; try rfl]
    exact g_throw (n := 0) th_X11_feed_12 rfl
  · refine g_iload_n d_X11_feed_6 rfl ?_
    refine g_bipush (v := 126) d_X11_feed_7 (by decide) ?_
    refine g_icmp_le (tgt := 22) d_X11_feed_9 (by decide) (fun c_9 => ?_) (fun c_9 => ?_)
    · refine g_aload_n d_X11_feed_22 rfl ?_
      refine g_getf d_X11_feed_23 f_X11_10 rfl rfl ?_
      refine g_getf d_X11_feed_26 f_X11_91 rfl rfl ?_
      refine g_bipush (v := 80) d_X11_feed_29 (by decide) ?_
      refine g_icmp_lt (tgt := 44) d_X11_feed_31 (by decide) (fun c_31 => ?_) (fun c_31 => ?_)
      · refine g_aload_n d_X11_feed_44 rfl ?_
        refine g_getf d_X11_feed_45 f_X11_10 rfl rfl ?_
        refine g_iload_n d_X11_feed_48 rfl ?_
        refine g_callV (As := [.int c]) d_X11_feed_49 o_X10_add l_X11_99 ⟨Nat.le_of_ble_eq_true rfl, Nat.le_of_ble_eq_true rfl⟩ (c_add hE m t c) rfl rfl rfl rfl rfl rfl ?_ (Nat.zero_add _)
        refine g_aload_n d_X11_feed_52 rfl ?_
        refine g_getf d_X11_feed_53 f_X11_10 rfl rfl ?_
        refine g_getf d_X11_feed_56 f_X11_91 rfl rfl ?_
        rw [show o_feed t c = .inl (some (.int (tI (wI t (iAdd (tI t) c))).2), (wI t (iAdd (tI t) c))) by simp only [o_feed, eq_false c_3, eq_true c_9, eq_true c_31, ↓reduceIte, Bool.false_eq_true, Bool.true_eq_false, not_true_eq_false, not_false_eq_true]; try rfl]
        exact g_retI d_X11_feed_59 rfl (rfl) (rfl)
      · rw [show o_feed t c = .inr (xISE, t) by simp only [o_feed, eq_false c_3, eq_true c_9, eq_false c_31, ↓reduceIte, Bool.false_eq_true, Bool.true_eq_false, not_true_eq_false, not_false_eq_true]; try rfl]
        exact g_throw (n := 0) th_X11_feed_34 rfl
    · rw [show o_feed t c = .inr (xIAE, t) by simp only [o_feed, eq_false c_3, eq_false c_9, ↓reduceIte, Bool.false_eq_true, Bool.true_eq_false, not_true_eq_false, not_false_eq_true]; try rfl]
      exact g_throw (n := 0) th_X11_feed_12 rfl
theorem sgnF_nar (q : GmT) (c : Int32) : narrow .char (.int (sgnF q c)) = .int (sgnF q c) := by
  unfold sgnF
  repeat (first | rfl | split)
def o_cell (t : cT) (i j : Int32) : mO :=
  if (decide (0 < gR (qG (tG t)))) = true then (if (gHp (qG (tG t)) i j) = true then (.inl (some (.int (sgnF (tG t) ((i * (gC (qG (tG t)))) + j))), t)) else
    .inr (xIOOBE, t)) else
  .inr (xISE, t)
theorem d_X11_cell_0 : decode (mB M_X11_cell) 0 = .ok (.aload_n 0, 1) := by decide +kernel
theorem d_X11_cell_1 : decode (mB M_X11_cell) 1 = .ok (.invokevirtual 139, 3) := by decide +kernel
theorem d_X11_cell_4 : decode (mB M_X11_cell) 4 = .ok (.aload_n 0, 1) := by decide +kernel
theorem d_X11_cell_5 : decode (mB M_X11_cell) 5 = .ok (.getfield 26, 3) := by decide +kernel
theorem d_X11_cell_8 : decode (mB M_X11_cell) 8 = .ok (.getfield 42, 3) := by decide +kernel
theorem d_X11_cell_11 : decode (mB M_X11_cell) 11 = .ok (.iload_n 1, 1) := by decide +kernel
theorem d_X11_cell_12 : decode (mB M_X11_cell) 12 = .ok (.iload_n 2, 1) := by decide +kernel
theorem d_X11_cell_13 : decode (mB M_X11_cell) 13 = .ok (.invokevirtual 142, 3) := by decide +kernel
theorem d_X11_cell_16 : decode (mB M_X11_cell) 16 = .ok (.ifCond .ne 13, 3) := by decide +kernel
theorem d_X11_cell_29 : decode (mB M_X11_cell) 29 = .ok (.aload_n 0, 1) := by decide +kernel
theorem d_X11_cell_30 : decode (mB M_X11_cell) 30 = .ok (.getfield 26, 3) := by decide +kernel
theorem d_X11_cell_33 : decode (mB M_X11_cell) 33 = .ok (.iload_n 1, 1) := by decide +kernel
theorem d_X11_cell_34 : decode (mB M_X11_cell) 34 = .ok (.aload_n 0, 1) := by decide +kernel
theorem d_X11_cell_35 : decode (mB M_X11_cell) 35 = .ok (.getfield 26, 3) := by decide +kernel
theorem d_X11_cell_38 : decode (mB M_X11_cell) 38 = .ok (.getfield 42, 3) := by decide +kernel
theorem d_X11_cell_41 : decode (mB M_X11_cell) 41 = .ok (.getfield 151, 3) := by decide +kernel
theorem d_X11_cell_44 : decode (mB M_X11_cell) 44 = .ok (.imul, 1) := by decide +kernel
theorem d_X11_cell_45 : decode (mB M_X11_cell) 45 = .ok (.iload_n 2, 1) := by decide +kernel
theorem d_X11_cell_46 : decode (mB M_X11_cell) 46 = .ok (.iadd, 1) := by decide +kernel
theorem d_X11_cell_47 : decode (mB M_X11_cell) 47 = .ok (.invokevirtual 154, 3) := by decide +kernel
theorem d_X11_cell_50 : decode (mB M_X11_cell) 50 = .ok (.ireturn, 1) := by decide +kernel
theorem c_cell {E : mEnv} (hE : E.1.stackTraces = false) (m : List mE) (t : cT) (i j : Int32)  : Rc E M_X11_cell m [.ref 100, .int i, .int j] t (o_cell t i j) := by
  refine Rc.of hE rfl pn_X11 (Nat.le_of_ble_eq_true rfl) ?_
  refine g_eq (S' := (0, [some (.ref 100), some (.int i), some (.int j)], [], (m, cw t))) rfl ?_
  refine g_aload_n d_X11_cell_0 rfl ?_
  by_cases h_1_0 : (decide (0 < gR (qG (tG t)))) = true
  · have hc : Rt E M_X11_requireRoom 0 [.ref 100] (m, cw t) none (m, cw t) := by have hc := c_room hE m t; rw [show o_room t = .inl (none, t) by simp only [o_room, eq_true h_1_0, ↓reduceIte, Bool.false_eq_true, Bool.true_eq_false, not_true_eq_false, not_false_eq_true]; try rfl] at hc; exact hc
    refine g_callV (As := []) d_X11_cell_1 o_X11_requireRoom l_X11_139 ⟨Nat.le_of_ble_eq_true rfl, Nat.le_of_ble_eq_true rfl⟩ hc (rfl) rfl rfl rfl rfl rfl ?_ (Nat.zero_add _)
    refine g_aload_n d_X11_cell_4 rfl ?_
    refine g_getf d_X11_cell_5 f_X11_26 rfl rfl ?_
    refine g_getf d_X11_cell_8 f_X11_42 rfl rfl ?_
    refine g_iload_n d_X11_cell_11 rfl ?_
    refine g_iload_n d_X11_cell_12 rfl ?_
    refine g_callV (As := [.int i, .int j]) d_X11_cell_13 o_X2_hasPlace l_X11_142 ⟨Nat.le_of_ble_eq_true rfl, Nat.le_of_ble_eq_true rfl⟩ (c_hasPlace hE 105 (qG (tG t)) _ rfl i j) rfl rfl rfl rfl rfl rfl ?_ (Nat.zero_add _)
    refine g_ifb_ne (tgt := 29) d_X11_cell_16 (by decide) (fun c_16 => ?_) (fun c_16 => ?_)
    · refine g_aload_n d_X11_cell_29 rfl ?_
      refine g_getf d_X11_cell_30 f_X11_26 rfl rfl ?_
      refine g_iload_n d_X11_cell_33 rfl ?_
      refine g_aload_n d_X11_cell_34 rfl ?_
      refine g_getf d_X11_cell_35 f_X11_26 rfl rfl ?_
      refine g_getf d_X11_cell_38 f_X11_42 rfl rfl ?_
      refine g_getf d_X11_cell_41 f_X11_151 rfl rfl ?_
      refine g_imul d_X11_cell_44 ?_
      refine g_iload_n d_X11_cell_45 rfl ?_
      refine g_iadd d_X11_cell_46 ?_
      refine g_callV (As := [.int ((i * (gC (qG (tG t)))) + j)]) d_X11_cell_47 o_X0_signOf l_X11_154 ⟨Nat.le_of_ble_eq_true rfl, Nat.le_of_ble_eq_true rfl⟩ (c_signOf hE m t ((i * (gC (qG (tG t)))) + j)) rfl rfl rfl rfl rfl rfl ?_ (Nat.zero_add _)
      rw [show o_cell t i j = .inl (some (.int (sgnF (tG t) ((i * (gC (qG (tG t)))) + j))), t) by simp only [o_cell, eq_true h_1_0, c_16, ↓reduceIte, Bool.false_eq_true, Bool.true_eq_false, not_true_eq_false, not_false_eq_true]; try rfl]
      exact g_retC d_X11_cell_50 rfl (sgnF_nar _ _) (rfl) (rfl)
    · rw [show o_cell t i j = .inr (xIOOBE, t) by simp only [o_cell, eq_true h_1_0, c_16, ↓reduceIte, Bool.false_eq_true, Bool.true_eq_false, not_true_eq_false, not_false_eq_true]; try rfl]
      exact g_throw (n := 0) th_X11_cell_19 rfl
  rw [show o_cell t i j = .inr (xISE, t) by simp only [o_cell, eq_false h_1_0, ↓reduceIte, Bool.false_eq_true, Bool.true_eq_false, not_true_eq_false, not_false_eq_true]; try rfl]
  have hc : Rx E M_X11_requireRoom [.ref 100] (m, cw t) xISE (m, cw t) := by have hc := c_room hE m t; rw [show o_room t = .inr (xISE, t) by simp only [o_room, eq_false h_1_0, ↓reduceIte, Bool.false_eq_true, Bool.true_eq_false, not_true_eq_false, not_false_eq_true]; try rfl] at hc; exact hc
  exact g_xcallV (As := []) d_X11_cell_1 o_X11_requireRoom l_X11_139 ⟨Nat.le_of_ble_eq_true rfl, Nat.le_of_ble_eq_true rfl⟩ hc (rfl) rfl rfl rfl rfl
def lsT (t : cT) (q : Int64) : cT := wM t ((lsM (qG (tG t)) q (tM t).1).2, lsS (qG (tG t)) q (tM t).1 (tM t).2)
def o_bound (t : cT)  : mO :=
  if (decide (0 < gR (qG (tG t)))) = true then (if (lsF (qG (tG t)) ((qN (tG t)).1) (tM t).1 (tM t).2) = (-1) then (.inr (xNSEE, (lsT t ((qN (tG t)).1)))) else
    .inl (some (.int (lsF (qG (tG t)) ((qN (tG t)).1) (tM t).1 (tM t).2)), (lsT t ((qN (tG t)).1)))) else
  .inr (xISE, t)
theorem d_X11_bound_0 : decode (mB M_X11_bound) 0 = .ok (.aload_n 0, 1) := by decide +kernel
theorem d_X11_bound_1 : decode (mB M_X11_bound) 1 = .ok (.invokevirtual 139, 3) := by decide +kernel
theorem d_X11_bound_4 : decode (mB M_X11_bound) 4 = .ok (.aload_n 0, 1) := by decide +kernel
theorem d_X11_bound_5 : decode (mB M_X11_bound) 5 = .ok (.getfield 56, 3) := by decide +kernel
theorem d_X11_bound_8 : decode (mB M_X11_bound) 8 = .ok (.aload_n 0, 1) := by decide +kernel
theorem d_X11_bound_9 : decode (mB M_X11_bound) 9 = .ok (.getfield 26, 3) := by decide +kernel
theorem d_X11_bound_12 : decode (mB M_X11_bound) 12 = .ok (.getfield 158, 3) := by decide +kernel
theorem d_X11_bound_15 : decode (mB M_X11_bound) 15 = .ok (.getfield 162, 3) := by decide +kernel
theorem d_X11_bound_18 : decode (mB M_X11_bound) 18 = .ok (.invokevirtual 242, 3) := by decide +kernel
theorem d_X11_bound_21 : decode (mB M_X11_bound) 21 = .ok (.istore_n 1, 1) := by decide +kernel
theorem d_X11_bound_22 : decode (mB M_X11_bound) 22 = .ok (.iload_n 1, 1) := by decide +kernel
theorem d_X11_bound_23 : decode (mB M_X11_bound) 23 = .ok (.iconst (-1), 1) := by decide +kernel
theorem d_X11_bound_24 : decode (mB M_X11_bound) 24 = .ok (.if_icmp .ne 13, 3) := by decide +kernel
theorem d_X11_bound_37 : decode (mB M_X11_bound) 37 = .ok (.iload_n 1, 1) := by decide +kernel
theorem d_X11_bound_38 : decode (mB M_X11_bound) 38 = .ok (.ireturn, 1) := by decide +kernel
theorem c_bound {E : mEnv} (hE : E.1.stackTraces = false) (m : List mE) (t : cT)   : Rc E M_X11_bound m [.ref 100] t (o_bound t) := by
  refine Rc.of hE rfl pn_X11 (Nat.le_of_ble_eq_true rfl) ?_
  refine g_eq (S' := (0, [some (.ref 100), none], [], (m, cw t))) rfl ?_
  refine g_aload_n d_X11_bound_0 rfl ?_
  by_cases h_1_0 : (decide (0 < gR (qG (tG t)))) = true
  · have hc : Rt E M_X11_requireRoom 0 [.ref 100] (m, cw t) none (m, cw t) := by have hc := c_room hE m t; rw [show o_room t = .inl (none, t) by simp only [o_room, eq_true h_1_0, ↓reduceIte, Bool.false_eq_true, Bool.true_eq_false, not_true_eq_false, not_false_eq_true]; try rfl] at hc; exact hc
    refine g_callV (As := []) d_X11_bound_1 o_X11_requireRoom l_X11_139 ⟨Nat.le_of_ble_eq_true rfl, Nat.le_of_ble_eq_true rfl⟩ hc (rfl) rfl rfl rfl rfl rfl ?_ (Nat.zero_add _)
    refine g_aload_n d_X11_bound_4 rfl ?_
    refine g_getf d_X11_bound_5 f_X11_56 rfl rfl ?_
    refine g_aload_n d_X11_bound_8 rfl ?_
    refine g_getf d_X11_bound_9 f_X11_26 rfl rfl ?_
    refine g_getf d_X11_bound_12 f_X11_158 rfl rfl ?_
    refine g_getf d_X11_bound_15 f_X11_162 rfl rfl ?_
    refine g_callV (As := [.long ((qN (tG t)).1)]) d_X11_bound_18 o_X5_leastSum l_X11_242 ⟨Nat.le_of_ble_eq_true rfl, Nat.le_of_ble_eq_true rfl⟩ (c_leastSum hE m t ((qN (tG t)).1)) rfl rfl rfl rfl rfl rfl ?_ (Nat.zero_add _)
    refine g_istore_n (L' := [some (.ref 100), some (.int (lsF (qG (tG t)) ((qN (tG t)).1) (tM t).1 (tM t).2))]) d_X11_bound_21 rfl rfl ?_
    refine g_iload_n d_X11_bound_22 rfl ?_
    refine g_iconst (v := (-1)) d_X11_bound_23 (by decide) ?_
    refine g_icmp_ne (tgt := 37) d_X11_bound_24 (by decide) (fun c_24 => ?_) (fun c_24 => ?_)
    · refine g_iload_n d_X11_bound_37 rfl ?_
      rw [show o_bound t = .inl (some (.int (lsF (qG (tG t)) ((qN (tG t)).1) (tM t).1 (tM t).2)), (lsT t ((qN (tG t)).1))) by simp only [o_bound, eq_true h_1_0, eq_false c_24, ↓reduceIte, Bool.false_eq_true, Bool.true_eq_false, not_true_eq_false, not_false_eq_true]; try rfl]
      exact g_retI d_X11_bound_38 rfl (rfl) (rfl)
    · rw [show o_bound t = .inr (xNSEE, (lsT t ((qN (tG t)).1))) by simp only [o_bound, eq_true h_1_0, eq_true c_24, ↓reduceIte, Bool.false_eq_true, Bool.true_eq_false, not_true_eq_false, not_false_eq_true]; try rfl]
      exact g_throw (n := 0) th_X11_bound_27 rfl
  rw [show o_bound t = .inr (xISE, t) by simp only [o_bound, eq_false h_1_0, ↓reduceIte, Bool.false_eq_true, Bool.true_eq_false, not_true_eq_false, not_false_eq_true]; try rfl]
  have hc : Rx E M_X11_requireRoom [.ref 100] (m, cw t) xISE (m, cw t) := by have hc := c_room hE m t; rw [show o_room t = .inr (xISE, t) by simp only [o_room, eq_false h_1_0, ↓reduceIte, Bool.false_eq_true, Bool.true_eq_false, not_true_eq_false, not_false_eq_true]; try rfl] at hc; exact hc
  exact g_xcallV (As := []) d_X11_bound_1 o_X11_requireRoom l_X11_139 ⟨Nat.le_of_ble_eq_true rfl, Nat.le_of_ble_eq_true rfl⟩ hc (rfl) rfl rfl rfl rfl
def o_stuck (t : cT) (b : Bool) : mO :=
  if (decide (0 < gR (qG (tG t)))) = true then (if b = true then (if (gSr (qG (tG t)) ((qN (tG t)).1)) = 0 then (.inr (xISE, t)) else
      .inl (some (.int (gSd (qG (tG t)) ((qN (tG t)).1) (gSr (qG (tG t)) ((qN (tG t)).1)))), t)) else
    .inl (some (.int (gSr (qG (tG t)) ((qN (tG t)).1))), t)) else
  .inr (xISE, t)
theorem d_X11_stuck_0 : decode (mB M_X11_stuck) 0 = .ok (.aload_n 0, 1) := by decide +kernel
theorem d_X11_stuck_1 : decode (mB M_X11_stuck) 1 = .ok (.invokevirtual 139, 3) := by decide +kernel
theorem d_X11_stuck_4 : decode (mB M_X11_stuck) 4 = .ok (.aload_n 0, 1) := by decide +kernel
theorem d_X11_stuck_5 : decode (mB M_X11_stuck) 5 = .ok (.getfield 26, 3) := by decide +kernel
theorem d_X11_stuck_8 : decode (mB M_X11_stuck) 8 = .ok (.getfield 158, 3) := by decide +kernel
theorem d_X11_stuck_11 : decode (mB M_X11_stuck) 11 = .ok (.getfield 162, 3) := by decide +kernel
theorem d_X11_stuck_14 : decode (mB M_X11_stuck) 14 = .ok (.lstore_n 2, 1) := by decide +kernel
theorem d_X11_stuck_15 : decode (mB M_X11_stuck) 15 = .ok (.aload_n 0, 1) := by decide +kernel
theorem d_X11_stuck_16 : decode (mB M_X11_stuck) 16 = .ok (.getfield 26, 3) := by decide +kernel
theorem d_X11_stuck_19 : decode (mB M_X11_stuck) 19 = .ok (.getfield 42, 3) := by decide +kernel
theorem d_X11_stuck_22 : decode (mB M_X11_stuck) 22 = .ok (.lload_n 2, 1) := by decide +kernel
theorem d_X11_stuck_23 : decode (mB M_X11_stuck) 23 = .ok (.invokevirtual 247, 3) := by decide +kernel
theorem d_X11_stuck_26 : decode (mB M_X11_stuck) 26 = .ok (.istore 4, 2) := by decide +kernel
theorem d_X11_stuck_28 : decode (mB M_X11_stuck) 28 = .ok (.iload_n 1, 1) := by decide +kernel
theorem d_X11_stuck_29 : decode (mB M_X11_stuck) 29 = .ok (.ifCond .ne 6, 3) := by decide +kernel
theorem d_X11_stuck_32 : decode (mB M_X11_stuck) 32 = .ok (.iload 4, 2) := by decide +kernel
theorem d_X11_stuck_34 : decode (mB M_X11_stuck) 34 = .ok (.ireturn, 1) := by decide +kernel
theorem d_X11_stuck_35 : decode (mB M_X11_stuck) 35 = .ok (.iload 4, 2) := by decide +kernel
theorem d_X11_stuck_37 : decode (mB M_X11_stuck) 37 = .ok (.ifCond .ne 13, 3) := by decide +kernel
theorem d_X11_stuck_50 : decode (mB M_X11_stuck) 50 = .ok (.aload_n 0, 1) := by decide +kernel
theorem d_X11_stuck_51 : decode (mB M_X11_stuck) 51 = .ok (.getfield 26, 3) := by decide +kernel
theorem d_X11_stuck_54 : decode (mB M_X11_stuck) 54 = .ok (.getfield 42, 3) := by decide +kernel
theorem d_X11_stuck_57 : decode (mB M_X11_stuck) 57 = .ok (.lload_n 2, 1) := by decide +kernel
theorem d_X11_stuck_58 : decode (mB M_X11_stuck) 58 = .ok (.iload 4, 2) := by decide +kernel
theorem d_X11_stuck_60 : decode (mB M_X11_stuck) 60 = .ok (.invokevirtual 252, 3) := by decide +kernel
theorem d_X11_stuck_63 : decode (mB M_X11_stuck) 63 = .ok (.ireturn, 1) := by decide +kernel
theorem c_stuck {E : mEnv} (hE : E.1.stackTraces = false) (m : List mE) (t : cT) (b : Bool)  : Rc E M_X11_stuck m [.ref 100, .int ((bI b))] t (o_stuck t b) := by
  refine Rc.of hE rfl pn_X11 (Nat.le_of_ble_eq_true rfl) ?_
  refine g_eq (S' := (0, [some (.ref 100), some (.int (bI b)), none, none, none], [], (m, cw t))) rfl ?_
  refine g_aload_n d_X11_stuck_0 rfl ?_
  by_cases h_1_0 : (decide (0 < gR (qG (tG t)))) = true
  · have hc : Rt E M_X11_requireRoom 0 [.ref 100] (m, cw t) none (m, cw t) := by have hc := c_room hE m t; rw [show o_room t = .inl (none, t) by simp only [o_room, eq_true h_1_0, ↓reduceIte, Bool.false_eq_true, Bool.true_eq_false, not_true_eq_false, not_false_eq_true]; try rfl] at hc; exact hc
    refine g_callV (As := []) d_X11_stuck_1 o_X11_requireRoom l_X11_139 ⟨Nat.le_of_ble_eq_true rfl, Nat.le_of_ble_eq_true rfl⟩ hc (rfl) rfl rfl rfl rfl rfl ?_ (Nat.zero_add _)
    refine g_aload_n d_X11_stuck_4 rfl ?_
    refine g_getf d_X11_stuck_5 f_X11_26 rfl rfl ?_
    refine g_getf d_X11_stuck_8 f_X11_158 rfl rfl ?_
    refine g_getf d_X11_stuck_11 f_X11_162 rfl rfl ?_
    refine g_lstore_n (L' := [some (.ref 100), some (.int (bI b)), some (.long ((qN (tG t)).1)), none, none]) d_X11_stuck_14 rfl rfl ?_
    refine g_aload_n d_X11_stuck_15 rfl ?_
    refine g_getf d_X11_stuck_16 f_X11_26 rfl rfl ?_
    refine g_getf d_X11_stuck_19 f_X11_42 rfl rfl ?_
    refine g_lload_n d_X11_stuck_22 rfl ?_
    refine g_callV (As := [.long ((qN (tG t)).1)]) d_X11_stuck_23 o_X2_stuckReason l_X11_247 ⟨Nat.le_of_ble_eq_true rfl, Nat.le_of_ble_eq_true rfl⟩ (c_stuckReason hE 105 (qG (tG t)) _ rfl ((qN (tG t)).1)) rfl rfl rfl rfl rfl rfl ?_ (Nat.zero_add _)
    refine g_istore (L' := [some (.ref 100), some (.int (bI b)), some (.long ((qN (tG t)).1)), none, some (.int (gSr (qG (tG t)) ((qN (tG t)).1)))]) d_X11_stuck_26 rfl rfl ?_
    refine g_iload_n d_X11_stuck_28 rfl ?_
    refine g_ifb_ne (tgt := 35) d_X11_stuck_29 (by decide) (fun c_29 => ?_) (fun c_29 => ?_)
    · refine g_iload d_X11_stuck_35 rfl ?_
      refine g_if_ne (tgt := 50) d_X11_stuck_37 (by decide) (fun c_37 => ?_) (fun c_37 => ?_)
      · refine g_aload_n d_X11_stuck_50 rfl ?_
        refine g_getf d_X11_stuck_51 f_X11_26 rfl rfl ?_
        refine g_getf d_X11_stuck_54 f_X11_42 rfl rfl ?_
        refine g_lload_n d_X11_stuck_57 rfl ?_
        refine g_iload d_X11_stuck_58 rfl ?_
        refine g_callV (As := [.long ((qN (tG t)).1), .int (gSr (qG (tG t)) ((qN (tG t)).1))]) d_X11_stuck_60 o_X2_stuckDetail l_X11_252 ⟨Nat.le_of_ble_eq_true rfl, Nat.le_of_ble_eq_true rfl⟩ (c_stuckDetail hE 105 (qG (tG t)) _ rfl ((qN (tG t)).1) (gSr (qG (tG t)) ((qN (tG t)).1))) rfl rfl rfl rfl rfl rfl ?_ (Nat.zero_add _)
        rw [show o_stuck t b = .inl (some (.int (gSd (qG (tG t)) ((qN (tG t)).1) (gSr (qG (tG t)) ((qN (tG t)).1)))), t) by simp only [o_stuck, eq_true h_1_0, c_29, eq_false c_37, ↓reduceIte, Bool.false_eq_true, Bool.true_eq_false, not_true_eq_false, not_false_eq_true]; try rfl]
        exact g_retI d_X11_stuck_63 rfl (rfl) (rfl)
      · rw [show o_stuck t b = .inr (xISE, t) by simp only [o_stuck, eq_true h_1_0, c_29, eq_true c_37, ↓reduceIte, Bool.false_eq_true, Bool.true_eq_false, not_true_eq_false, not_false_eq_true]; try rfl]
        exact g_throw (n := 0) th_X11_stuck_40 rfl
    · refine g_iload d_X11_stuck_32 rfl ?_
      rw [show o_stuck t b = .inl (some (.int (gSr (qG (tG t)) ((qN (tG t)).1))), t) by simp only [o_stuck, eq_true h_1_0, c_29, ↓reduceIte, Bool.false_eq_true, Bool.true_eq_false, not_true_eq_false, not_false_eq_true]; try rfl]
      exact g_retI d_X11_stuck_34 rfl (rfl) (rfl)
  rw [show o_stuck t b = .inr (xISE, t) by simp only [o_stuck, eq_false h_1_0, ↓reduceIte, Bool.false_eq_true, Bool.true_eq_false, not_true_eq_false, not_false_eq_true]; try rfl]
  have hc : Rx E M_X11_requireRoom [.ref 100] (m, cw t) xISE (m, cw t) := by have hc := c_room hE m t; rw [show o_room t = .inr (xISE, t) by simp only [o_room, eq_false h_1_0, ↓reduceIte, Bool.false_eq_true, Bool.true_eq_false, not_true_eq_false, not_false_eq_true]; try rfl] at hc; exact hc
  exact g_xcallV (As := []) d_X11_stuck_1 o_X11_requireRoom l_X11_139 ⟨Nat.le_of_ble_eq_true rfl, Nat.le_of_ble_eq_true rfl⟩ hc (rfl) rfl rfl rfl rfl
def o_goalRoom (t : cT) (i j : Int32) : mO :=
  if (decide (0 < gR (qG (tG t)))) = true then (if (goF (qG (tG t)) i) = 0 then (.inr (xNSEE, t)) else
    if j < (-2) then (.inr (xNSEE, t)) else
    if j < (bcF (goF (qG (tG t)) i)) then (if j = (-2) then (.inl (some (.int (bcF (goF (qG (tG t)) i))), t)) else
      if j = (-1) then (.inl (some (.int (lowF (enF (qG (tG t)) (goF (qG (tG t)) i)))), t)) else
      .inl (some (.int (gaF (qG (tG t)) (goF (qG (tG t)) i) j (tL t).1)), (wL t (laL (qG (tG t)) (goF (qG (tG t)) i) (tL t).1)))) else
    .inr (xNSEE, t)) else
  .inr (xISE, t)
theorem d_X11_goalRoom_0 : decode (mB M_X11_goalRoom) 0 = .ok (.aload_n 0, 1) := by decide +kernel
theorem d_X11_goalRoom_1 : decode (mB M_X11_goalRoom) 1 = .ok (.invokevirtual 139, 3) := by decide +kernel
theorem d_X11_goalRoom_4 : decode (mB M_X11_goalRoom) 4 = .ok (.aload_n 0, 1) := by decide +kernel
theorem d_X11_goalRoom_5 : decode (mB M_X11_goalRoom) 5 = .ok (.getfield 49, 3) := by decide +kernel
theorem d_X11_goalRoom_8 : decode (mB M_X11_goalRoom) 8 = .ok (.iload_n 1, 1) := by decide +kernel
theorem d_X11_goalRoom_9 : decode (mB M_X11_goalRoom) 9 = .ok (.invokevirtual 256, 3) := by decide +kernel
theorem d_X11_goalRoom_12 : decode (mB M_X11_goalRoom) 12 = .ok (.lstore_n 3, 1) := by decide +kernel
theorem d_X11_goalRoom_13 : decode (mB M_X11_goalRoom) 13 = .ok (.lload_n 3, 1) := by decide +kernel
theorem d_X11_goalRoom_14 : decode (mB M_X11_goalRoom) 14 = .ok (.lconst 0, 1) := by decide +kernel
theorem d_X11_goalRoom_15 : decode (mB M_X11_goalRoom) 15 = .ok (.lcmp, 1) := by decide +kernel
theorem d_X11_goalRoom_16 : decode (mB M_X11_goalRoom) 16 = .ok (.ifCond .eq 17, 3) := by decide +kernel
theorem d_X11_goalRoom_19 : decode (mB M_X11_goalRoom) 19 = .ok (.iload_n 2, 1) := by decide +kernel
theorem d_X11_goalRoom_20 : decode (mB M_X11_goalRoom) 20 = .ok (.bipush (-2), 2) := by decide +kernel
theorem d_X11_goalRoom_22 : decode (mB M_X11_goalRoom) 22 = .ok (.if_icmp .lt 11, 3) := by decide +kernel
theorem d_X11_goalRoom_25 : decode (mB M_X11_goalRoom) 25 = .ok (.iload_n 2, 1) := by decide +kernel
theorem d_X11_goalRoom_26 : decode (mB M_X11_goalRoom) 26 = .ok (.lload_n 3, 1) := by decide +kernel
theorem d_X11_goalRoom_27 : decode (mB M_X11_goalRoom) 27 = .ok (.invokestatic 133, 3) := by decide +kernel
theorem d_X11_goalRoom_30 : decode (mB M_X11_goalRoom) 30 = .ok (.if_icmp .lt 14, 3) := by decide +kernel
theorem d_X11_goalRoom_44 : decode (mB M_X11_goalRoom) 44 = .ok (.iload_n 2, 1) := by decide +kernel
theorem d_X11_goalRoom_45 : decode (mB M_X11_goalRoom) 45 = .ok (.bipush (-2), 2) := by decide +kernel
theorem d_X11_goalRoom_47 : decode (mB M_X11_goalRoom) 47 = .ok (.if_icmp .ne 8, 3) := by decide +kernel
theorem d_X11_goalRoom_50 : decode (mB M_X11_goalRoom) 50 = .ok (.lload_n 3, 1) := by decide +kernel
theorem d_X11_goalRoom_51 : decode (mB M_X11_goalRoom) 51 = .ok (.invokestatic 133, 3) := by decide +kernel
theorem d_X11_goalRoom_54 : decode (mB M_X11_goalRoom) 54 = .ok (.ireturn, 1) := by decide +kernel
theorem d_X11_goalRoom_55 : decode (mB M_X11_goalRoom) 55 = .ok (.iload_n 2, 1) := by decide +kernel
theorem d_X11_goalRoom_56 : decode (mB M_X11_goalRoom) 56 = .ok (.iconst (-1), 1) := by decide +kernel
theorem d_X11_goalRoom_57 : decode (mB M_X11_goalRoom) 57 = .ok (.if_icmp .ne 17, 3) := by decide +kernel
theorem d_X11_goalRoom_60 : decode (mB M_X11_goalRoom) 60 = .ok (.aload_n 0, 1) := by decide +kernel
theorem d_X11_goalRoom_61 : decode (mB M_X11_goalRoom) 61 = .ok (.getfield 49, 3) := by decide +kernel
theorem d_X11_goalRoom_64 : decode (mB M_X11_goalRoom) 64 = .ok (.lload_n 3, 1) := by decide +kernel
theorem d_X11_goalRoom_65 : decode (mB M_X11_goalRoom) 65 = .ok (.invokevirtual 261, 3) := by decide +kernel
theorem d_X11_goalRoom_68 : decode (mB M_X11_goalRoom) 68 = .ok (.invokestatic 264, 3) := by decide +kernel
theorem d_X11_goalRoom_71 : decode (mB M_X11_goalRoom) 71 = .ok (.goto 12, 3) := by decide +kernel
theorem d_X11_goalRoom_74 : decode (mB M_X11_goalRoom) 74 = .ok (.aload_n 0, 1) := by decide +kernel
theorem d_X11_goalRoom_75 : decode (mB M_X11_goalRoom) 75 = .ok (.getfield 49, 3) := by decide +kernel
theorem d_X11_goalRoom_78 : decode (mB M_X11_goalRoom) 78 = .ok (.lload_n 3, 1) := by decide +kernel
theorem d_X11_goalRoom_79 : decode (mB M_X11_goalRoom) 79 = .ok (.iload_n 2, 1) := by decide +kernel
theorem d_X11_goalRoom_80 : decode (mB M_X11_goalRoom) 80 = .ok (.invokevirtual 267, 3) := by decide +kernel
theorem d_X11_goalRoom_83 : decode (mB M_X11_goalRoom) 83 = .ok (.ireturn, 1) := by decide +kernel
theorem c_goalRoom {E : mEnv} (hE : E.1.stackTraces = false) (m : List mE) (t : cT) (i j : Int32)  : Rc E M_X11_goalRoom m [.ref 100, .int i, .int j] t (o_goalRoom t i j) := by
  refine Rc.of hE rfl pn_X11 (Nat.le_of_ble_eq_true rfl) ?_
  refine g_eq (S' := (0, [some (.ref 100), some (.int i), some (.int j), none, none], [], (m, cw t))) rfl ?_
  refine g_aload_n d_X11_goalRoom_0 rfl ?_
  by_cases h_1_0 : (decide (0 < gR (qG (tG t)))) = true
  · have hc : Rt E M_X11_requireRoom 0 [.ref 100] (m, cw t) none (m, cw t) := by have hc := c_room hE m t; rw [show o_room t = .inl (none, t) by simp only [o_room, eq_true h_1_0, ↓reduceIte, Bool.false_eq_true, Bool.true_eq_false, not_true_eq_false, not_false_eq_true]; try rfl] at hc; exact hc
    refine g_callV (As := []) d_X11_goalRoom_1 o_X11_requireRoom l_X11_139 ⟨Nat.le_of_ble_eq_true rfl, Nat.le_of_ble_eq_true rfl⟩ hc (rfl) rfl rfl rfl rfl rfl ?_ (Nat.zero_add _)
    refine g_aload_n d_X11_goalRoom_4 rfl ?_
    refine g_getf d_X11_goalRoom_5 f_X11_49 rfl rfl ?_
    refine g_iload_n d_X11_goalRoom_8 rfl ?_
    refine g_callV (As := [.int i]) d_X11_goalRoom_9 o_X1_goalsOf l_X11_256 ⟨Nat.le_of_ble_eq_true rfl, Nat.le_of_ble_eq_true rfl⟩ (c_goalsOf hE m t i) rfl rfl rfl rfl rfl rfl ?_ (Nat.zero_add _)
    refine g_lstore_n (L' := [some (.ref 100), some (.int i), some (.int j), some (.long (goF (qG (tG t)) i)), none]) d_X11_goalRoom_12 rfl rfl ?_
    refine g_lload_n d_X11_goalRoom_13 rfl ?_
    refine g_lconst (v := 0) d_X11_goalRoom_14 (by decide) ?_
    refine g_lcmp_eq (tgt := 33) d_X11_goalRoom_15 d_X11_goalRoom_16 (by decide) (fun c_15 => ?_) (fun c_15 => ?_)
    · rw [show o_goalRoom t i j = .inr (xNSEE, t) by simp only [o_goalRoom, eq_true h_1_0, eq_true c_15, ↓reduceIte, Bool.false_eq_true, Bool.true_eq_false, not_true_eq_false, not_false_eq_true]; try rfl]
      exact g_throw (n := 0) th_X11_goalRoom_33 rfl
    · refine g_iload_n d_X11_goalRoom_19 rfl ?_
      refine g_bipush (v := (-2)) d_X11_goalRoom_20 (by decide) ?_
      refine g_icmp_lt (tgt := 33) d_X11_goalRoom_22 (by decide) (fun c_22 => ?_) (fun c_22 => ?_)
      · rw [show o_goalRoom t i j = .inr (xNSEE, t) by simp only [o_goalRoom, eq_true h_1_0, eq_false c_15, eq_true c_22, ↓reduceIte, Bool.false_eq_true, Bool.true_eq_false, not_true_eq_false, not_false_eq_true]; try rfl]
        exact g_throw (n := 0) th_X11_goalRoom_33 rfl
      · refine g_iload_n d_X11_goalRoom_25 rfl ?_
        refine g_lload_n d_X11_goalRoom_26 rfl ?_
        refine g_callS (As := [.long (goF (qG (tG t)) i)]) d_X11_goalRoom_27 o_J13_bitCount_95d88 l_X11_133 ⟨Nat.le_of_ble_eq_true rfl, Nat.le_of_ble_eq_true rfl⟩ (c_bitCount hE (goF (qG (tG t)) i) _) rfl rfl ?_ (Nat.zero_add _)
        refine g_icmp_lt (tgt := 44) d_X11_goalRoom_30 (by decide) (fun c_30 => ?_) (fun c_30 => ?_)
        · refine g_iload_n d_X11_goalRoom_44 rfl ?_
          refine g_bipush (v := (-2)) d_X11_goalRoom_45 (by decide) ?_
          refine g_icmp_ne (tgt := 55) d_X11_goalRoom_47 (by decide) (fun c_47 => ?_) (fun c_47 => ?_)
          · refine g_iload_n d_X11_goalRoom_55 rfl ?_
            refine g_iconst (v := (-1)) d_X11_goalRoom_56 (by decide) ?_
            refine g_icmp_ne (tgt := 74) d_X11_goalRoom_57 (by decide) (fun c_57 => ?_) (fun c_57 => ?_)
            · refine g_aload_n d_X11_goalRoom_74 rfl ?_
              refine g_getf d_X11_goalRoom_75 f_X11_49 rfl rfl ?_
              refine g_lload_n d_X11_goalRoom_78 rfl ?_
              refine g_iload_n d_X11_goalRoom_79 rfl ?_
              refine g_callV (As := [.long (goF (qG (tG t)) i), .int j]) d_X11_goalRoom_80 o_X1_goalAt l_X11_267 ⟨Nat.le_of_ble_eq_true rfl, Nat.le_of_ble_eq_true rfl⟩ (c_goalAt hE m t (goF (qG (tG t)) i) j) rfl rfl rfl rfl rfl rfl ?_ (Nat.zero_add _)
              rw [show o_goalRoom t i j = .inl (some (.int (gaF (qG (tG t)) (goF (qG (tG t)) i) j (tL t).1)), (wL t (laL (qG (tG t)) (goF (qG (tG t)) i) (tL t).1))) by simp only [o_goalRoom, eq_true h_1_0, eq_false c_15, eq_false c_22, eq_true c_30, eq_false c_47, eq_false c_57, ↓reduceIte, Bool.false_eq_true, Bool.true_eq_false, not_true_eq_false, not_false_eq_true]; try rfl]
              exact g_retI d_X11_goalRoom_83 rfl (rfl) (rfl)
            · refine g_aload_n d_X11_goalRoom_60 rfl ?_
              refine g_getf d_X11_goalRoom_61 f_X11_49 rfl rfl ?_
              refine g_lload_n d_X11_goalRoom_64 rfl ?_
              refine g_callV (As := [.long (goF (qG (tG t)) i)]) d_X11_goalRoom_65 o_X1_entrances l_X11_261 ⟨Nat.le_of_ble_eq_true rfl, Nat.le_of_ble_eq_true rfl⟩ (c_entrances hE m t (goF (qG (tG t)) i)) rfl rfl rfl rfl rfl rfl ?_ (Nat.zero_add _)
              refine g_callS (As := [.long (enF (qG (tG t)) (goF (qG (tG t)) i))]) d_X11_goalRoom_68 o_X11_lowest l_X11_264 ⟨Nat.le_of_ble_eq_true rfl, Nat.le_of_ble_eq_true rfl⟩ (c_lowest hE (enF (qG (tG t)) (goF (qG (tG t)) i)) _) rfl rfl ?_ (Nat.zero_add _)
              refine g_goto (tgt := 83) d_X11_goalRoom_71 (by decide) ?_
              rw [show o_goalRoom t i j = .inl (some (.int (lowF (enF (qG (tG t)) (goF (qG (tG t)) i)))), t) by simp only [o_goalRoom, eq_true h_1_0, eq_false c_15, eq_false c_22, eq_true c_30, eq_false c_47, eq_true c_57, ↓reduceIte, Bool.false_eq_true, Bool.true_eq_false, not_true_eq_false, not_false_eq_true]; try rfl]
              exact g_retI d_X11_goalRoom_83 rfl (rfl) (rfl)
          · refine g_lload_n d_X11_goalRoom_50 rfl ?_
            refine g_callS (As := [.long (goF (qG (tG t)) i)]) d_X11_goalRoom_51 o_J13_bitCount_95d88 l_X11_133 ⟨Nat.le_of_ble_eq_true rfl, Nat.le_of_ble_eq_true rfl⟩ (c_bitCount hE (goF (qG (tG t)) i) _) rfl rfl ?_ (Nat.zero_add _)
            rw [show o_goalRoom t i j = .inl (some (.int (bcF (goF (qG (tG t)) i))), t) by simp only [o_goalRoom, eq_true h_1_0, eq_false c_15, eq_false c_22, eq_true c_30, eq_true c_47, ↓reduceIte, Bool.false_eq_true, Bool.true_eq_false, not_true_eq_false, not_false_eq_true]; try rfl]
            exact g_retI d_X11_goalRoom_54 rfl (rfl) (rfl)
        · rw [show o_goalRoom t i j = .inr (xNSEE, t) by simp only [o_goalRoom, eq_true h_1_0, eq_false c_15, eq_false c_22, eq_false c_30, ↓reduceIte, Bool.false_eq_true, Bool.true_eq_false, not_true_eq_false, not_false_eq_true]; try rfl]
          exact g_throw (n := 0) th_X11_goalRoom_33 rfl
  rw [show o_goalRoom t i j = .inr (xISE, t) by simp only [o_goalRoom, eq_false h_1_0, ↓reduceIte, Bool.false_eq_true, Bool.true_eq_false, not_true_eq_false, not_false_eq_true]; try rfl]
  have hc : Rx E M_X11_requireRoom [.ref 100] (m, cw t) xISE (m, cw t) := by have hc := c_room hE m t; rw [show o_room t = .inr (xISE, t) by simp only [o_room, eq_false h_1_0, ↓reduceIte, Bool.false_eq_true, Bool.true_eq_false, not_true_eq_false, not_false_eq_true]; try rfl] at hc; exact hc
  exact g_xcallV (As := []) d_X11_goalRoom_1 o_X11_requireRoom l_X11_139 ⟨Nat.le_of_ble_eq_true rfl, Nat.le_of_ble_eq_true rfl⟩ hc (rfl) rfl rfl rfl rfl
def o_distance (t : cT) (i j : Int32) : mO :=
  if (decide (0 < gR (qG (tG t)))) = true then (if (hasF (gO (qG (tG t))) i) = true then (if j = (-1) then (if (gLe (qG (tG t)) (jshl 1 i) (gG (qG (tG t)))) = (-1) then (.inr (xNSEE, t)) else
        .inl (some (.int (gLe (qG (tG t)) (jshl 1 i) (gG (qG (tG t))))), t)) else
      if (hasF (gG (qG (tG t))) j) = true then (if (gLe (qG (tG t)) (jshl 1 i) (jshl 1 j)) = (-1) then (.inr (xNSEE, t)) else
        .inl (some (.int (gLe (qG (tG t)) (jshl 1 i) (jshl 1 j))), t)) else
      .inr (xIOOBE, t)) else
    .inr (xIOOBE, t)) else
  .inr (xISE, t)
theorem d_X11_distance_0 : decode (mB M_X11_distance) 0 = .ok (.aload_n 0, 1) := by decide +kernel
theorem d_X11_distance_1 : decode (mB M_X11_distance) 1 = .ok (.invokevirtual 139, 3) := by decide +kernel
theorem d_X11_distance_4 : decode (mB M_X11_distance) 4 = .ok (.aload_n 0, 1) := by decide +kernel
theorem d_X11_distance_5 : decode (mB M_X11_distance) 5 = .ok (.getfield 26, 3) := by decide +kernel
theorem d_X11_distance_8 : decode (mB M_X11_distance) 8 = .ok (.getfield 42, 3) := by decide +kernel
theorem d_X11_distance_11 : decode (mB M_X11_distance) 11 = .ok (.astore_n 3, 1) := by decide +kernel
theorem d_X11_distance_12 : decode (mB M_X11_distance) 12 = .ok (.aload_n 3, 1) := by decide +kernel
theorem d_X11_distance_13 : decode (mB M_X11_distance) 13 = .ok (.getfield 127, 3) := by decide +kernel
theorem d_X11_distance_16 : decode (mB M_X11_distance) 16 = .ok (.iload_n 1, 1) := by decide +kernel
theorem d_X11_distance_17 : decode (mB M_X11_distance) 17 = .ok (.invokestatic 221, 3) := by decide +kernel
theorem d_X11_distance_20 : decode (mB M_X11_distance) 20 = .ok (.ifCond .ne 13, 3) := by decide +kernel
theorem d_X11_distance_33 : decode (mB M_X11_distance) 33 = .ok (.iload_n 2, 1) := by decide +kernel
theorem d_X11_distance_34 : decode (mB M_X11_distance) 34 = .ok (.iconst (-1), 1) := by decide +kernel
theorem d_X11_distance_35 : decode (mB M_X11_distance) 35 = .ok (.if_icmp .eq 24, 3) := by decide +kernel
theorem d_X11_distance_38 : decode (mB M_X11_distance) 38 = .ok (.aload_n 3, 1) := by decide +kernel
theorem d_X11_distance_39 : decode (mB M_X11_distance) 39 = .ok (.getfield 167, 3) := by decide +kernel
theorem d_X11_distance_42 : decode (mB M_X11_distance) 42 = .ok (.iload_n 2, 1) := by decide +kernel
theorem d_X11_distance_43 : decode (mB M_X11_distance) 43 = .ok (.invokestatic 221, 3) := by decide +kernel
theorem d_X11_distance_46 : decode (mB M_X11_distance) 46 = .ok (.ifCond .ne 13, 3) := by decide +kernel
theorem d_X11_distance_59 : decode (mB M_X11_distance) 59 = .ok (.aload_n 3, 1) := by decide +kernel
theorem d_X11_distance_60 : decode (mB M_X11_distance) 60 = .ok (.iload_n 1, 1) := by decide +kernel
theorem d_X11_distance_61 : decode (mB M_X11_distance) 61 = .ok (.invokestatic 229, 3) := by decide +kernel
theorem d_X11_distance_64 : decode (mB M_X11_distance) 64 = .ok (.iload_n 2, 1) := by decide +kernel
theorem d_X11_distance_65 : decode (mB M_X11_distance) 65 = .ok (.iconst (-1), 1) := by decide +kernel
theorem d_X11_distance_66 : decode (mB M_X11_distance) 66 = .ok (.if_icmp .ne 10, 3) := by decide +kernel
theorem d_X11_distance_69 : decode (mB M_X11_distance) 69 = .ok (.aload_n 3, 1) := by decide +kernel
theorem d_X11_distance_70 : decode (mB M_X11_distance) 70 = .ok (.getfield 167, 3) := by decide +kernel
theorem d_X11_distance_73 : decode (mB M_X11_distance) 73 = .ok (.goto 7, 3) := by decide +kernel
theorem d_X11_distance_76 : decode (mB M_X11_distance) 76 = .ok (.iload_n 2, 1) := by decide +kernel
theorem d_X11_distance_77 : decode (mB M_X11_distance) 77 = .ok (.invokestatic 229, 3) := by decide +kernel
theorem d_X11_distance_80 : decode (mB M_X11_distance) 80 = .ok (.invokevirtual 233, 3) := by decide +kernel
theorem d_X11_distance_83 : decode (mB M_X11_distance) 83 = .ok (.istore 4, 2) := by decide +kernel
theorem d_X11_distance_85 : decode (mB M_X11_distance) 85 = .ok (.iload 4, 2) := by decide +kernel
theorem d_X11_distance_87 : decode (mB M_X11_distance) 87 = .ok (.iconst (-1), 1) := by decide +kernel
theorem d_X11_distance_88 : decode (mB M_X11_distance) 88 = .ok (.if_icmp .ne 13, 3) := by decide +kernel
theorem d_X11_distance_101 : decode (mB M_X11_distance) 101 = .ok (.iload 4, 2) := by decide +kernel
theorem d_X11_distance_103 : decode (mB M_X11_distance) 103 = .ok (.ireturn, 1) := by decide +kernel
theorem c_distance {E : mEnv} (hE : E.1.stackTraces = false) (m : List mE) (t : cT) (i j : Int32)  : Rc E M_X11_distance m [.ref 100, .int i, .int j] t (o_distance t i j) := by
  refine Rc.of hE rfl pn_X11 (Nat.le_of_ble_eq_true rfl) ?_
  refine g_eq (S' := (0, [some (.ref 100), some (.int i), some (.int j), none, none], [], (m, cw t))) rfl ?_
  refine g_aload_n d_X11_distance_0 rfl ?_
  by_cases h_1_0 : (decide (0 < gR (qG (tG t)))) = true
  · have hc : Rt E M_X11_requireRoom 0 [.ref 100] (m, cw t) none (m, cw t) := by have hc := c_room hE m t; rw [show o_room t = .inl (none, t) by simp only [o_room, eq_true h_1_0, ↓reduceIte, Bool.false_eq_true, Bool.true_eq_false, not_true_eq_false, not_false_eq_true]; try rfl] at hc; exact hc
    refine g_callV (As := []) d_X11_distance_1 o_X11_requireRoom l_X11_139 ⟨Nat.le_of_ble_eq_true rfl, Nat.le_of_ble_eq_true rfl⟩ hc (rfl) rfl rfl rfl rfl rfl ?_ (Nat.zero_add _)
    refine g_aload_n d_X11_distance_4 rfl ?_
    refine g_getf d_X11_distance_5 f_X11_26 rfl rfl ?_
    refine g_getf d_X11_distance_8 f_X11_42 rfl rfl ?_
    refine g_astore_n (L' := [some (.ref 100), some (.int i), some (.int j), some (.ref 105), none]) d_X11_distance_11 rfl rfl ?_
    refine g_aload_n d_X11_distance_12 rfl ?_
    refine g_getf d_X11_distance_13 f_X11_127 rfl rfl ?_
    refine g_iload_n d_X11_distance_16 rfl ?_
    refine g_callS (As := [.long (gO (qG (tG t))), .int i]) d_X11_distance_17 o_X11_has l_X11_221 ⟨Nat.le_of_ble_eq_true rfl, Nat.le_of_ble_eq_true rfl⟩ (c_has hE (gO (qG (tG t))) i _) rfl rfl ?_ (Nat.zero_add _)
    refine g_ifb_ne (tgt := 33) d_X11_distance_20 (by decide) (fun c_20 => ?_) (fun c_20 => ?_)
    · refine g_iload_n d_X11_distance_33 rfl ?_
      refine g_iconst (v := (-1)) d_X11_distance_34 (by decide) ?_
      refine g_icmp_eq (tgt := 59) d_X11_distance_35 (by decide) (fun c_35 => ?_) (fun c_35 => ?_)
      · refine g_aload_n d_X11_distance_59 rfl ?_
        refine g_iload_n d_X11_distance_60 rfl ?_
        refine g_callS (As := [.int i]) d_X11_distance_61 o_X11_bit l_X11_229 ⟨Nat.le_of_ble_eq_true rfl, Nat.le_of_ble_eq_true rfl⟩ (c_bit hE i _) rfl rfl ?_ (Nat.zero_add _)
        refine g_iload_n d_X11_distance_64 rfl ?_
        refine g_iconst (v := (-1)) d_X11_distance_65 (by decide) ?_
        refine g_icmp_ne (tgt := 76) d_X11_distance_66 (by decide) (fun c_66 => absurd c_35 c_66) (fun c_66 => ?_)
        refine g_aload_n d_X11_distance_69 rfl ?_
        refine g_getf d_X11_distance_70 f_X11_167 rfl rfl ?_
        refine g_goto (tgt := 80) d_X11_distance_73 (by decide) ?_
        refine g_callV (As := [.long (jshl 1 i), .long (gG (qG (tG t)))]) d_X11_distance_80 o_X2_leastPushes l_X11_233 ⟨Nat.le_of_ble_eq_true rfl, Nat.le_of_ble_eq_true rfl⟩ (c_leastPushes hE 105 (qG (tG t)) _ rfl (jshl 1 i) (gG (qG (tG t)))) rfl rfl rfl rfl rfl rfl ?_ (Nat.zero_add _)
        refine g_istore (L' := [some (.ref 100), some (.int i), some (.int j), some (.ref 105), some (.int (gLe (qG (tG t)) (jshl 1 i) (gG (qG (tG t)))))]) d_X11_distance_83 rfl rfl ?_
        refine g_iload d_X11_distance_85 rfl ?_
        refine g_iconst (v := (-1)) d_X11_distance_87 (by decide) ?_
        refine g_icmp_ne (tgt := 101) d_X11_distance_88 (by decide) (fun c_88 => ?_) (fun c_88 => ?_)
        · refine g_iload d_X11_distance_101 rfl ?_
          rw [show o_distance t i j = .inl (some (.int (gLe (qG (tG t)) (jshl 1 i) (gG (qG (tG t))))), t) by simp only [o_distance, eq_true h_1_0, c_20, eq_true c_35, eq_false c_88, ↓reduceIte, Bool.false_eq_true, Bool.true_eq_false, not_true_eq_false, not_false_eq_true]; try rfl]
          exact g_retI d_X11_distance_103 rfl (rfl) (rfl)
        · rw [show o_distance t i j = .inr (xNSEE, t) by simp only [o_distance, eq_true h_1_0, c_20, eq_true c_35, eq_true c_88, ↓reduceIte, Bool.false_eq_true, Bool.true_eq_false, not_true_eq_false, not_false_eq_true]; try rfl]
          exact g_throw (n := 0) th_X11_distance_91 rfl
      · refine g_aload_n d_X11_distance_38 rfl ?_
        refine g_getf d_X11_distance_39 f_X11_167 rfl rfl ?_
        refine g_iload_n d_X11_distance_42 rfl ?_
        refine g_callS (As := [.long (gG (qG (tG t))), .int j]) d_X11_distance_43 o_X11_has l_X11_221 ⟨Nat.le_of_ble_eq_true rfl, Nat.le_of_ble_eq_true rfl⟩ (c_has hE (gG (qG (tG t))) j _) rfl rfl ?_ (Nat.zero_add _)
        refine g_ifb_ne (tgt := 59) d_X11_distance_46 (by decide) (fun c_46 => ?_) (fun c_46 => ?_)
        · refine g_aload_n d_X11_distance_59 rfl ?_
          refine g_iload_n d_X11_distance_60 rfl ?_
          refine g_callS (As := [.int i]) d_X11_distance_61 o_X11_bit l_X11_229 ⟨Nat.le_of_ble_eq_true rfl, Nat.le_of_ble_eq_true rfl⟩ (c_bit hE i _) rfl rfl ?_ (Nat.zero_add _)
          refine g_iload_n d_X11_distance_64 rfl ?_
          refine g_iconst (v := (-1)) d_X11_distance_65 (by decide) ?_
          refine g_icmp_ne (tgt := 76) d_X11_distance_66 (by decide) (fun c_66 => ?_) (fun c_66 => absurd c_66 c_35)
          refine g_iload_n d_X11_distance_76 rfl ?_
          refine g_callS (As := [.int j]) d_X11_distance_77 o_X11_bit l_X11_229 ⟨Nat.le_of_ble_eq_true rfl, Nat.le_of_ble_eq_true rfl⟩ (c_bit hE j _) rfl rfl ?_ (Nat.zero_add _)
          refine g_callV (As := [.long (jshl 1 i), .long (jshl 1 j)]) d_X11_distance_80 o_X2_leastPushes l_X11_233 ⟨Nat.le_of_ble_eq_true rfl, Nat.le_of_ble_eq_true rfl⟩ (c_leastPushes hE 105 (qG (tG t)) _ rfl (jshl 1 i) (jshl 1 j)) rfl rfl rfl rfl rfl rfl ?_ (Nat.zero_add _)
          refine g_istore (L' := [some (.ref 100), some (.int i), some (.int j), some (.ref 105), some (.int (gLe (qG (tG t)) (jshl 1 i) (jshl 1 j)))]) d_X11_distance_83 rfl rfl ?_
          refine g_iload d_X11_distance_85 rfl ?_
          refine g_iconst (v := (-1)) d_X11_distance_87 (by decide) ?_
          refine g_icmp_ne (tgt := 101) d_X11_distance_88 (by decide) (fun c_88 => ?_) (fun c_88 => ?_)
          · refine g_iload d_X11_distance_101 rfl ?_
            rw [show o_distance t i j = .inl (some (.int (gLe (qG (tG t)) (jshl 1 i) (jshl 1 j))), t) by simp only [o_distance, eq_true h_1_0, c_20, eq_false c_35, c_46, eq_false c_88, ↓reduceIte, Bool.false_eq_true, Bool.true_eq_false, not_true_eq_false, not_false_eq_true]; try rfl]
            exact g_retI d_X11_distance_103 rfl (rfl) (rfl)
          · rw [show o_distance t i j = .inr (xNSEE, t) by simp only [o_distance, eq_true h_1_0, c_20, eq_false c_35, c_46, eq_true c_88, ↓reduceIte, Bool.false_eq_true, Bool.true_eq_false, not_true_eq_false, not_false_eq_true]; try rfl]
            exact g_throw (n := 0) th_X11_distance_91 rfl
        · rw [show o_distance t i j = .inr (xIOOBE, t) by simp only [o_distance, eq_true h_1_0, c_20, eq_false c_35, c_46, ↓reduceIte, Bool.false_eq_true, Bool.true_eq_false, not_true_eq_false, not_false_eq_true]; try rfl]
          exact g_throw (n := 0) th_X11_distance_49 rfl
    · rw [show o_distance t i j = .inr (xIOOBE, t) by simp only [o_distance, eq_true h_1_0, c_20, ↓reduceIte, Bool.false_eq_true, Bool.true_eq_false, not_true_eq_false, not_false_eq_true]; try rfl]
      exact g_throw (n := 0) th_X11_distance_23 rfl
  rw [show o_distance t i j = .inr (xISE, t) by simp only [o_distance, eq_false h_1_0, ↓reduceIte, Bool.false_eq_true, Bool.true_eq_false, not_true_eq_false, not_false_eq_true]; try rfl]
  have hc : Rx E M_X11_requireRoom [.ref 100] (m, cw t) xISE (m, cw t) := by have hc := c_room hE m t; rw [show o_room t = .inr (xISE, t) by simp only [o_room, eq_false h_1_0, ↓reduceIte, Bool.false_eq_true, Bool.true_eq_false, not_true_eq_false, not_false_eq_true]; try rfl] at hc; exact hc
  exact g_xcallV (As := []) d_X11_distance_1 o_X11_requireRoom l_X11_139 ⟨Nat.le_of_ble_eq_true rfl, Nat.le_of_ble_eq_true rfl⟩ hc (rfl) rfl rfl rfl rfl
def o_step (t : cT) (d : Int32) : mO :=
  if d < 0 then (.inr (xIAE, t)) else
  if d < 4 then (if (decide (0 < gR (qG (tG t)))) = true then (if (qC (tG t)) < 400 then (if (pSr (qG (tG t)) (qN (tG t)).1 (qN (tG t)).2 d) = 0 then (if (pMp (qG (tG (wH t (hBeg (tH t) (tG t))))) (qN (tG (wH t (hBeg (tH t) (tG t))))).1 (qN (tG (wH t (hBeg (tH t) (tG t))))).2 d) = true then (.inl (some (.int 1), (wH (wG (wH t (hBeg (tH t) (tG t))) (mkQ (tG (wH t (hBeg (tH t) (tG t)))) d)) (cmtH (tH (wG (wH t (hBeg (tH t) (tG t))) (mkQ (tG (wH t (hBeg (tH t) (tG t)))) d))))))) else
          .inl (some (.int 0), (wH (wG (wH t (hBeg (tH t) (tG t))) (mkQ (tG (wH t (hBeg (tH t) (tG t)))) d)) (cmtH (tH (wG (wH t (hBeg (tH t) (tG t))) (mkQ (tG (wH t (hBeg (tH t) (tG t)))) d))))))) else
        .inr (xUOE, (keT t (pSr (qG (tG t)) (qN (tG t)).1 (qN (tG t)).2 d) (pSd (qG (tG t)) (qN (tG t)).2 (pSr (qG (tG t)) (qN (tG t)).1 (qN (tG t)).2 d) d)))) else
      .inr (xISE, t)) else
    .inr (xISE, t)) else
  .inr (xIAE, t)
theorem d_X11_step_0 : decode (mB M_X11_step) 0 = .ok (.iload_n 1, 1) := by decide +kernel
theorem d_X11_step_1 : decode (mB M_X11_step) 1 = .ok (.invokestatic 270, 3) := by decide +kernel
theorem d_X11_step_4 : decode (mB M_X11_step) 4 = .ok (.aload_n 0, 1) := by decide +kernel
theorem d_X11_step_5 : decode (mB M_X11_step) 5 = .ok (.invokevirtual 139, 3) := by decide +kernel
theorem d_X11_step_8 : decode (mB M_X11_step) 8 = .ok (.aload_n 0, 1) := by decide +kernel
theorem d_X11_step_9 : decode (mB M_X11_step) 9 = .ok (.getfield 26, 3) := by decide +kernel
theorem d_X11_step_12 : decode (mB M_X11_step) 12 = .ok (.getfield 195, 3) := by decide +kernel
theorem d_X11_step_15 : decode (mB M_X11_step) 15 = .ok (.sipush 400, 3) := by decide +kernel
theorem d_X11_step_18 : decode (mB M_X11_step) 18 = .ok (.if_icmp .lt 14, 3) := by decide +kernel
theorem d_X11_step_32 : decode (mB M_X11_step) 32 = .ok (.aload_n 0, 1) := by decide +kernel
theorem d_X11_step_33 : decode (mB M_X11_step) 33 = .ok (.getfield 26, 3) := by decide +kernel
theorem d_X11_step_36 : decode (mB M_X11_step) 36 = .ok (.getfield 158, 3) := by decide +kernel
theorem d_X11_step_39 : decode (mB M_X11_step) 39 = .ok (.iload_n 1, 1) := by decide +kernel
theorem d_X11_step_40 : decode (mB M_X11_step) 40 = .ok (.invokevirtual 276, 3) := by decide +kernel
theorem d_X11_step_43 : decode (mB M_X11_step) 43 = .ok (.istore_n 2, 1) := by decide +kernel
theorem d_X11_step_44 : decode (mB M_X11_step) 44 = .ok (.iload_n 2, 1) := by decide +kernel
theorem d_X11_step_45 : decode (mB M_X11_step) 45 = .ok (.ifCond .eq 31, 3) := by decide +kernel
theorem d_X11_step_48 : decode (mB M_X11_step) 48 = .ok (.aload_n 0, 1) := by decide +kernel
theorem d_X11_step_49 : decode (mB M_X11_step) 49 = .ok (.iload_n 2, 1) := by decide +kernel
theorem d_X11_step_50 : decode (mB M_X11_step) 50 = .ok (.aload_n 0, 1) := by decide +kernel
theorem d_X11_step_51 : decode (mB M_X11_step) 51 = .ok (.getfield 26, 3) := by decide +kernel
theorem d_X11_step_54 : decode (mB M_X11_step) 54 = .ok (.getfield 158, 3) := by decide +kernel
theorem d_X11_step_57 : decode (mB M_X11_step) 57 = .ok (.iload_n 2, 1) := by decide +kernel
theorem d_X11_step_58 : decode (mB M_X11_step) 58 = .ok (.iload_n 1, 1) := by decide +kernel
theorem d_X11_step_59 : decode (mB M_X11_step) 59 = .ok (.invokevirtual 280, 3) := by decide +kernel
theorem d_X11_step_62 : decode (mB M_X11_step) 62 = .ok (.invokevirtual 284, 3) := by decide +kernel
theorem d_X11_step_76 : decode (mB M_X11_step) 76 = .ok (.aload_n 0, 1) := by decide +kernel
theorem d_X11_step_77 : decode (mB M_X11_step) 77 = .ok (.getfield 36, 3) := by decide +kernel
theorem d_X11_step_80 : decode (mB M_X11_step) 80 = .ok (.aload_n 0, 1) := by decide +kernel
theorem d_X11_step_81 : decode (mB M_X11_step) 81 = .ok (.getfield 26, 3) := by decide +kernel
theorem d_X11_step_84 : decode (mB M_X11_step) 84 = .ok (.invokevirtual 293, 3) := by decide +kernel
theorem d_X11_step_87 : decode (mB M_X11_step) 87 = .ok (.aload_n 0, 1) := by decide +kernel
theorem d_X11_step_88 : decode (mB M_X11_step) 88 = .ok (.getfield 26, 3) := by decide +kernel
theorem d_X11_step_91 : decode (mB M_X11_step) 91 = .ok (.iload_n 1, 1) := by decide +kernel
theorem d_X11_step_92 : decode (mB M_X11_step) 92 = .ok (.invokevirtual 296, 3) := by decide +kernel
theorem d_X11_step_95 : decode (mB M_X11_step) 95 = .ok (.istore_n 3, 1) := by decide +kernel
theorem d_X11_step_96 : decode (mB M_X11_step) 96 = .ok (.aload_n 0, 1) := by decide +kernel
theorem d_X11_step_97 : decode (mB M_X11_step) 97 = .ok (.getfield 36, 3) := by decide +kernel
theorem d_X11_step_100 : decode (mB M_X11_step) 100 = .ok (.invokevirtual 300, 3) := by decide +kernel
theorem d_X11_step_103 : decode (mB M_X11_step) 103 = .ok (.iload_n 3, 1) := by decide +kernel
theorem d_X11_step_104 : decode (mB M_X11_step) 104 = .ok (.ifCond .eq 7, 3) := by decide +kernel
theorem d_X11_step_107 : decode (mB M_X11_step) 107 = .ok (.iconst 1, 1) := by decide +kernel
theorem d_X11_step_108 : decode (mB M_X11_step) 108 = .ok (.goto 4, 3) := by decide +kernel
theorem d_X11_step_111 : decode (mB M_X11_step) 111 = .ok (.iconst 0, 1) := by decide +kernel
theorem d_X11_step_112 : decode (mB M_X11_step) 112 = .ok (.ireturn, 1) := by decide +kernel
theorem c_step {E : mEnv} (hE : E.1.stackTraces = false) (m : List mE) (t : cT) (d : Int32)  : Rc E M_X11_step m [.ref 100, .int d] t (o_step t d) := by
  refine Rc.of hE rfl pn_X11 (Nat.le_of_ble_eq_true rfl) ?_
  refine g_eq (S' := (0, [some (.ref 100), some (.int d), none, none], [], (m, cw t))) rfl ?_
  refine g_iload_n d_X11_step_0 rfl ?_
  by_cases h_1_0 : d < 0
  · rw [show o_step t d = .inr (xIAE, t) by simp only [o_step, eq_true h_1_0, ↓reduceIte, Bool.false_eq_true, Bool.true_eq_false, not_true_eq_false, not_false_eq_true]; try rfl]
    have hc : Rx E M_X11_requireDirection [.int d] (m, cw t) xIAE (m, cw t) := by have hc := c_direction hE m t d; rw [show o_direction t d = .inr (xIAE, t) by simp only [o_direction, eq_true h_1_0, ↓reduceIte, Bool.false_eq_true, Bool.true_eq_false, not_true_eq_false, not_false_eq_true]; try rfl] at hc; exact hc
    exact g_xcallS (As := [.int d]) d_X11_step_1 o_X11_requireDirection l_X11_270 ⟨Nat.le_of_ble_eq_true rfl, Nat.le_of_ble_eq_true rfl⟩ hc rfl rfl
  by_cases h_1_1 : d < 4
  · have hc : Rt E M_X11_requireDirection 0 [.int d] (m, cw t) none (m, cw t) := by have hc := c_direction hE m t d; rw [show o_direction t d = .inl (none, t) by simp only [o_direction, eq_false h_1_0, eq_true h_1_1, ↓reduceIte, Bool.false_eq_true, Bool.true_eq_false, not_true_eq_false, not_false_eq_true]; try rfl] at hc; exact hc
    refine g_callS (As := [.int d]) d_X11_step_1 o_X11_requireDirection l_X11_270 ⟨Nat.le_of_ble_eq_true rfl, Nat.le_of_ble_eq_true rfl⟩ hc rfl rfl ?_ (Nat.zero_add _)
    refine g_aload_n d_X11_step_4 rfl ?_
    by_cases h_5_0 : (decide (0 < gR (qG (tG t)))) = true
    · have hc : Rt E M_X11_requireRoom 0 [.ref 100] (m, cw t) none (m, cw t) := by have hc := c_room hE m t; rw [show o_room t = .inl (none, t) by simp only [o_room, eq_true h_5_0, ↓reduceIte, Bool.false_eq_true, Bool.true_eq_false, not_true_eq_false, not_false_eq_true]; try rfl] at hc; exact hc
      refine g_callV (As := []) d_X11_step_5 o_X11_requireRoom l_X11_139 ⟨Nat.le_of_ble_eq_true rfl, Nat.le_of_ble_eq_true rfl⟩ hc (rfl) rfl rfl rfl rfl rfl ?_ (Nat.zero_add _)
      refine g_aload_n d_X11_step_8 rfl ?_
      refine g_getf d_X11_step_9 f_X11_26 rfl rfl ?_
      refine g_getf d_X11_step_12 f_X11_195 rfl rfl ?_
      refine g_sipush (v := 400) d_X11_step_15 (by decide) ?_
      refine g_icmp_lt (tgt := 32) d_X11_step_18 (by decide) (fun c_18 => ?_) (fun c_18 => ?_)
      · refine g_aload_n d_X11_step_32 rfl ?_
        refine g_getf d_X11_step_33 f_X11_26 rfl rfl ?_
        refine g_getf d_X11_step_36 f_X11_158 rfl rfl ?_
        refine g_iload_n d_X11_step_39 rfl ?_
        refine g_callV (As := [.int d]) d_X11_step_40 o_X6_stepReason l_X11_276 ⟨Nat.le_of_ble_eq_true rfl, Nat.le_of_ble_eq_true rfl⟩ (c_stepReason hE 106 105 (qG (tG t)) (qN (tG t)).1 (qN (tG t)).2 _ rfl rfl d) rfl rfl rfl rfl rfl rfl ?_ (Nat.zero_add _)
        refine g_istore_n (L' := [some (.ref 100), some (.int d), some (.int (pSr (qG (tG t)) (qN (tG t)).1 (qN (tG t)).2 d)), none]) d_X11_step_43 rfl rfl ?_
        refine g_iload_n d_X11_step_44 rfl ?_
        refine g_if_eq (tgt := 76) d_X11_step_45 (by decide) (fun c_45 => ?_) (fun c_45 => ?_)
        · refine g_aload_n d_X11_step_76 rfl ?_
          refine g_getf d_X11_step_77 f_X11_36 rfl rfl ?_
          refine g_aload_n d_X11_step_80 rfl ?_
          refine g_getf d_X11_step_81 f_X11_26 rfl rfl ?_
          refine g_callV (As := [.ref 104]) d_X11_step_84 o_X3_begin l_X11_293 ⟨Nat.le_of_ble_eq_true rfl, Nat.le_of_ble_eq_true rfl⟩ (c_hbegin hE m t) rfl rfl rfl rfl rfl rfl ?_ (Nat.zero_add _)
          refine g_aload_n d_X11_step_87 rfl ?_
          refine g_getf d_X11_step_88 f_X11_26 rfl rfl ?_
          refine g_iload_n d_X11_step_91 rfl ?_
          refine g_callV (As := [.int d]) d_X11_step_92 o_X0_makeStep l_X11_296 ⟨Nat.le_of_ble_eq_true rfl, Nat.le_of_ble_eq_true rfl⟩ (c_makeStep hE m (wH t (hBeg (tH t) (tG t))) d) rfl rfl rfl rfl rfl rfl ?_ (Nat.zero_add _)
          refine g_istore_n (L' := [some (.ref 100), some (.int d), some (.int (pSr (qG (tG t)) (qN (tG t)).1 (qN (tG t)).2 d)), some (.int (bI (pMp (qG (tG (wH t (hBeg (tH t) (tG t))))) (qN (tG (wH t (hBeg (tH t) (tG t))))).1 (qN (tG (wH t (hBeg (tH t) (tG t))))).2 d)))]) d_X11_step_95 rfl rfl ?_
          refine g_aload_n d_X11_step_96 rfl ?_
          refine g_getf d_X11_step_97 f_X11_36 rfl rfl ?_
          refine g_callV (As := []) d_X11_step_100 o_X3_commit l_X11_300 ⟨Nat.le_of_ble_eq_true rfl, Nat.le_of_ble_eq_true rfl⟩ (c_commit hE m (wG (wH t (hBeg (tH t) (tG t))) (mkQ (tG (wH t (hBeg (tH t) (tG t)))) d))) rfl rfl rfl rfl rfl rfl ?_ (Nat.zero_add _)
          refine g_iload_n d_X11_step_103 rfl ?_
          refine g_ifb_eq (tgt := 111) d_X11_step_104 (by decide) (fun c_104 => ?_) (fun c_104 => ?_)
          · refine g_iconst (v := 0) d_X11_step_111 (by decide) ?_
            rw [show o_step t d = .inl (some (.int 0), (wH (wG (wH t (hBeg (tH t) (tG t))) (mkQ (tG (wH t (hBeg (tH t) (tG t)))) d)) (cmtH (tH (wG (wH t (hBeg (tH t) (tG t))) (mkQ (tG (wH t (hBeg (tH t) (tG t)))) d)))))) by simp only [o_step, eq_false h_1_0, eq_true h_1_1, eq_true h_5_0, eq_true c_18, eq_true c_45, c_104, ↓reduceIte, Bool.false_eq_true, Bool.true_eq_false, not_true_eq_false, not_false_eq_true]; try rfl]
            exact g_retI d_X11_step_112 rfl (rfl) (rfl)
          · refine g_iconst (v := 1) d_X11_step_107 (by decide) ?_
            refine g_goto (tgt := 112) d_X11_step_108 (by decide) ?_
            rw [show o_step t d = .inl (some (.int 1), (wH (wG (wH t (hBeg (tH t) (tG t))) (mkQ (tG (wH t (hBeg (tH t) (tG t)))) d)) (cmtH (tH (wG (wH t (hBeg (tH t) (tG t))) (mkQ (tG (wH t (hBeg (tH t) (tG t)))) d)))))) by simp only [o_step, eq_false h_1_0, eq_true h_1_1, eq_true h_5_0, eq_true c_18, eq_true c_45, c_104, ↓reduceIte, Bool.false_eq_true, Bool.true_eq_false, not_true_eq_false, not_false_eq_true]; try rfl]
            exact g_retI d_X11_step_112 rfl (rfl) (rfl)
        · refine g_aload_n d_X11_step_48 rfl ?_
          refine g_iload_n d_X11_step_49 rfl ?_
          refine g_aload_n d_X11_step_50 rfl ?_
          refine g_getf d_X11_step_51 f_X11_26 rfl rfl ?_
          refine g_getf d_X11_step_54 f_X11_158 rfl rfl ?_
          refine g_iload_n d_X11_step_57 rfl ?_
          refine g_iload_n d_X11_step_58 rfl ?_
          refine g_callV (As := [.int (pSr (qG (tG t)) (qN (tG t)).1 (qN (tG t)).2 d), .int d]) d_X11_step_59 o_X6_stepDetail l_X11_280 ⟨Nat.le_of_ble_eq_true rfl, Nat.le_of_ble_eq_true rfl⟩ (c_stepDetail hE 106 105 (qG (tG t)) (qN (tG t)).1 (qN (tG t)).2 _ rfl rfl (pSr (qG (tG t)) (qN (tG t)).1 (qN (tG t)).2 d) d) rfl rfl rfl rfl rfl rfl ?_ (Nat.zero_add _)
          refine g_callV (As := [.int (pSr (qG (tG t)) (qN (tG t)).1 (qN (tG t)).2 d), .int (pSd (qG (tG t)) (qN (tG t)).2 (pSr (qG (tG t)) (qN (tG t)).1 (qN (tG t)).2 d) d)]) d_X11_step_62 o_X11_keepRefusal l_X11_284 ⟨Nat.le_of_ble_eq_true rfl, Nat.le_of_ble_eq_true rfl⟩ (c_keepRefusal hE m t (pSr (qG (tG t)) (qN (tG t)).1 (qN (tG t)).2 d) (pSd (qG (tG t)) (qN (tG t)).2 (pSr (qG (tG t)) (qN (tG t)).1 (qN (tG t)).2 d) d)) rfl rfl rfl rfl rfl rfl ?_ (Nat.zero_add _)
          rw [show o_step t d = .inr (xUOE, (keT t (pSr (qG (tG t)) (qN (tG t)).1 (qN (tG t)).2 d) (pSd (qG (tG t)) (qN (tG t)).2 (pSr (qG (tG t)) (qN (tG t)).1 (qN (tG t)).2 d) d))) by simp only [o_step, eq_false h_1_0, eq_true h_1_1, eq_true h_5_0, eq_true c_18, eq_false c_45, ↓reduceIte, Bool.false_eq_true, Bool.true_eq_false, not_true_eq_false, not_false_eq_true]; try rfl]
          exact g_throw (n := 0) th_X11_step_65 rfl
      · rw [show o_step t d = .inr (xISE, t) by simp only [o_step, eq_false h_1_0, eq_true h_1_1, eq_true h_5_0, eq_false c_18, ↓reduceIte, Bool.false_eq_true, Bool.true_eq_false, not_true_eq_false, not_false_eq_true]; try rfl]
        exact g_throw (n := 0) th_X11_step_21 rfl
    rw [show o_step t d = .inr (xISE, t) by simp only [o_step, eq_false h_1_0, eq_true h_1_1, eq_false h_5_0, ↓reduceIte, Bool.false_eq_true, Bool.true_eq_false, not_true_eq_false, not_false_eq_true]; try rfl]
    have hc : Rx E M_X11_requireRoom [.ref 100] (m, cw t) xISE (m, cw t) := by have hc := c_room hE m t; rw [show o_room t = .inr (xISE, t) by simp only [o_room, eq_false h_5_0, ↓reduceIte, Bool.false_eq_true, Bool.true_eq_false, not_true_eq_false, not_false_eq_true]; try rfl] at hc; exact hc
    exact g_xcallV (As := []) d_X11_step_5 o_X11_requireRoom l_X11_139 ⟨Nat.le_of_ble_eq_true rfl, Nat.le_of_ble_eq_true rfl⟩ hc (rfl) rfl rfl rfl rfl
  rw [show o_step t d = .inr (xIAE, t) by simp only [o_step, eq_false h_1_0, eq_false h_1_1, ↓reduceIte, Bool.false_eq_true, Bool.true_eq_false, not_true_eq_false, not_false_eq_true]; try rfl]
  have hc : Rx E M_X11_requireDirection [.int d] (m, cw t) xIAE (m, cw t) := by have hc := c_direction hE m t d; rw [show o_direction t d = .inr (xIAE, t) by simp only [o_direction, eq_false h_1_0, eq_false h_1_1, ↓reduceIte, Bool.false_eq_true, Bool.true_eq_false, not_true_eq_false, not_false_eq_true]; try rfl] at hc; exact hc
  exact g_xcallS (As := [.int d]) d_X11_step_1 o_X11_requireDirection l_X11_270 ⟨Nat.le_of_ble_eq_true rfl, Nat.le_of_ble_eq_true rfl⟩ hc rfl rfl
