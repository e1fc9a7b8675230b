/-! RoomText: reading a text as a room -/
def rClr : RtT := (0, 0, 0, 0, 0, -1, 0, 0, 0, 0)
theorem d_X7_clear_0 : decode (mB M_X7_clear) 0 = .ok (.aload_n 0, 1) := by decide +kernel
theorem d_X7_clear_1 : decode (mB M_X7_clear) 1 = .ok (.iconst 0, 1) := by decide +kernel
theorem d_X7_clear_2 : decode (mB M_X7_clear) 2 = .ok (.putfield 14, 3) := by decide +kernel
theorem d_X7_clear_5 : decode (mB M_X7_clear) 5 = .ok (.aload_n 0, 1) := by decide +kernel
theorem d_X7_clear_6 : decode (mB M_X7_clear) 6 = .ok (.iconst 0, 1) := by decide +kernel
theorem d_X7_clear_7 : decode (mB M_X7_clear) 7 = .ok (.putfield 18, 3) := by decide +kernel
theorem d_X7_clear_10 : decode (mB M_X7_clear) 10 = .ok (.aload_n 0, 1) := by decide +kernel
theorem d_X7_clear_11 : decode (mB M_X7_clear) 11 = .ok (.lconst 0, 1) := by decide +kernel
theorem d_X7_clear_12 : decode (mB M_X7_clear) 12 = .ok (.putfield 21, 3) := by decide +kernel
theorem d_X7_clear_15 : decode (mB M_X7_clear) 15 = .ok (.aload_n 0, 1) := by decide +kernel
theorem d_X7_clear_16 : decode (mB M_X7_clear) 16 = .ok (.lconst 0, 1) := by decide +kernel
theorem d_X7_clear_17 : decode (mB M_X7_clear) 17 = .ok (.putfield 25, 3) := by decide +kernel
theorem d_X7_clear_20 : decode (mB M_X7_clear) 20 = .ok (.aload_n 0, 1) := by decide +kernel
theorem d_X7_clear_21 : decode (mB M_X7_clear) 21 = .ok (.lconst 0, 1) := by decide +kernel
theorem d_X7_clear_22 : decode (mB M_X7_clear) 22 = .ok (.putfield 28, 3) := by decide +kernel
theorem d_X7_clear_25 : decode (mB M_X7_clear) 25 = .ok (.aload_n 0, 1) := by decide +kernel
theorem d_X7_clear_26 : decode (mB M_X7_clear) 26 = .ok (.iconst (-1), 1) := by decide +kernel
theorem d_X7_clear_27 : decode (mB M_X7_clear) 27 = .ok (.putfield 31, 3) := by decide +kernel
theorem d_X7_clear_30 : decode (mB M_X7_clear) 30 = .ok (.aload_n 0, 1) := by decide +kernel
theorem d_X7_clear_31 : decode (mB M_X7_clear) 31 = .ok (.iconst 0, 1) := by decide +kernel
theorem d_X7_clear_32 : decode (mB M_X7_clear) 32 = .ok (.putfield 34, 3) := by decide +kernel
theorem d_X7_clear_35 : decode (mB M_X7_clear) 35 = .ok (.aload_n 0, 1) := by decide +kernel
theorem d_X7_clear_36 : decode (mB M_X7_clear) 36 = .ok (.iconst 0, 1) := by decide +kernel
theorem d_X7_clear_37 : decode (mB M_X7_clear) 37 = .ok (.putfield 37, 3) := by decide +kernel
theorem d_X7_clear_40 : decode (mB M_X7_clear) 40 = .ok (.aload_n 0, 1) := by decide +kernel
theorem d_X7_clear_41 : decode (mB M_X7_clear) 41 = .ok (.iconst 0, 1) := by decide +kernel
theorem d_X7_clear_42 : decode (mB M_X7_clear) 42 = .ok (.putfield 40, 3) := by decide +kernel
theorem d_X7_clear_45 : decode (mB M_X7_clear) 45 = .ok (.aload_n 0, 1) := by decide +kernel
theorem d_X7_clear_46 : decode (mB M_X7_clear) 46 = .ok (.iconst 0, 1) := by decide +kernel
theorem d_X7_clear_47 : decode (mB M_X7_clear) 47 = .ok (.putfield 43, 3) := by decide +kernel
theorem d_X7_clear_50 : decode (mB M_X7_clear) 50 = .ok (.return_, 1) := by decide +kernel
theorem c_rclear {E : mEnv} (hE : E.1.stackTraces = false) (m : List mE) (t : cT)  : Rt E M_X7_clear 0 [.ref 103] ((m, cw t)) none ((m, cw (wT t rClr))) := by
  refine Rt.of hE rfl pn_X7 (Nat.le_of_ble_eq_true rfl) ?_
  refine g_eq (S' := (0, [some (.ref 103)], [], (m, cw t))) rfl ?_
  refine g_aload_n d_X7_clear_0 rfl ?_
  refine g_iconst (v := 0) d_X7_clear_1 (by decide) ?_
  refine g_putI (w' := (mset (m, cw t) 103 (.inr (7, [.int 0, .int (rC (tT t)), .long (rO (tT t)), .long (rG (tT t)), .long (rB (tT t)), .int (rP (tT t)), .int (rW (tT t)), .int (rN (tT t)), .int (rGc (tT t)), .int (rBc (tT t))])))) d_X7_clear_2 p_X7_14 rfl rfl rfl (Nat.le_of_ble_eq_true rfl) (rfl) ?_
  refine g_aload_n d_X7_clear_5 rfl ?_
  refine g_iconst (v := 0) d_X7_clear_6 (by decide) ?_
  refine g_putI (w' := (mset (m, cw t) 103 (.inr (7, [.int 0, .int 0, .long (rO (tT t)), .long (rG (tT t)), .long (rB (tT t)), .int (rP (tT t)), .int (rW (tT t)), .int (rN (tT t)), .int (rGc (tT t)), .int (rBc (tT t))])))) d_X7_clear_7 p_X7_18 rfl rfl (mget_eq rfl) (Nat.le_of_ble_eq_true rfl) (mset_mset) ?_
  refine g_aload_n d_X7_clear_10 rfl ?_
  refine g_lconst (v := 0) d_X7_clear_11 (by decide) ?_
  refine g_putL (w' := (mset (m, cw t) 103 (.inr (7, [.int 0, .int 0, .long 0, .long (rG (tT t)), .long (rB (tT t)), .int (rP (tT t)), .int (rW (tT t)), .int (rN (tT t)), .int (rGc (tT t)), .int (rBc (tT t))])))) d_X7_clear_12 p_X7_21 rfl rfl (mget_eq rfl) (Nat.le_of_ble_eq_true rfl) (mset_mset) ?_
  refine g_aload_n d_X7_clear_15 rfl ?_
  refine g_lconst (v := 0) d_X7_clear_16 (by decide) ?_
  refine g_putL (w' := (mset (m, cw t) 103 (.inr (7, [.int 0, .int 0, .long 0, .long 0, .long (rB (tT t)), .int (rP (tT t)), .int (rW (tT t)), .int (rN (tT t)), .int (rGc (tT t)), .int (rBc (tT t))])))) d_X7_clear_17 p_X7_25 rfl rfl (mget_eq rfl) (Nat.le_of_ble_eq_true rfl) (mset_mset) ?_
  refine g_aload_n d_X7_clear_20 rfl ?_
  refine g_lconst (v := 0) d_X7_clear_21 (by decide) ?_
  refine g_putL (w' := (mset (m, cw t) 103 (.inr (7, [.int 0, .int 0, .long 0, .long 0, .long 0, .int (rP (tT t)), .int (rW (tT t)), .int (rN (tT t)), .int (rGc (tT t)), .int (rBc (tT t))])))) d_X7_clear_22 p_X7_28 rfl rfl (mget_eq rfl) (Nat.le_of_ble_eq_true rfl) (mset_mset) ?_
  refine g_aload_n d_X7_clear_25 rfl ?_
  refine g_iconst (v := (-1)) d_X7_clear_26 (by decide) ?_
  refine g_putI (w' := (mset (m, cw t) 103 (.inr (7, [.int 0, .int 0, .long 0, .long 0, .long 0, .int (-1), .int (rW (tT t)), .int (rN (tT t)), .int (rGc (tT t)), .int (rBc (tT t))])))) d_X7_clear_27 p_X7_31 rfl rfl (mget_eq rfl) (Nat.le_of_ble_eq_true rfl) (mset_mset) ?_
  refine g_aload_n d_X7_clear_30 rfl ?_
  refine g_iconst (v := 0) d_X7_clear_31 (by decide) ?_
  refine g_putI (w' := (mset (m, cw t) 103 (.inr (7, [.int 0, .int 0, .long 0, .long 0, .long 0, .int (-1), .int 0, .int (rN (tT t)), .int (rGc (tT t)), .int (rBc (tT t))])))) d_X7_clear_32 p_X7_34 rfl rfl (mget_eq rfl) (Nat.le_of_ble_eq_true rfl) (mset_mset) ?_
  refine g_aload_n d_X7_clear_35 rfl ?_
  refine g_iconst (v := 0) d_X7_clear_36 (by decide) ?_
  refine g_putI (w' := (mset (m, cw t) 103 (.inr (7, [.int 0, .int 0, .long 0, .long 0, .long 0, .int (-1), .int 0, .int 0, .int (rGc (tT t)), .int (rBc (tT t))])))) d_X7_clear_37 p_X7_37 rfl rfl (mget_eq rfl) (Nat.le_of_ble_eq_true rfl) (mset_mset) ?_
  refine g_aload_n d_X7_clear_40 rfl ?_
  refine g_iconst (v := 0) d_X7_clear_41 (by decide) ?_
  refine g_putI (w' := (mset (m, cw t) 103 (.inr (7, [.int 0, .int 0, .long 0, .long 0, .long 0, .int (-1), .int 0, .int 0, .int 0, .int (rBc (tT t))])))) d_X7_clear_42 p_X7_40 rfl rfl (mget_eq rfl) (Nat.le_of_ble_eq_true rfl) (mset_mset) ?_
  refine g_aload_n d_X7_clear_45 rfl ?_
  refine g_iconst (v := 0) d_X7_clear_46 (by decide) ?_
  refine g_putI (w' := (mset (m, cw t) 103 (.inr (7, [.int 0, .int 0, .long 0, .long 0, .long 0, .int (-1), .int 0, .int 0, .int 0, .int 0])))) d_X7_clear_47 p_X7_43 rfl rfl (mget_eq rfl) (Nat.le_of_ble_eq_true rfl) (mset_mset) ?_
  exact g_retV d_X7_clear_50 rfl (rfl)
/-- the end of a row: whether it can end here, and the state behind -/
def rEndB (x : RtT) : Bool := if rW x = 0 then false else if rR x ≤ 0 then true else if rC x ≤ rW x then true else false
def rEndS (x : RtT) : RtT := if rEndB x = true then (rR x + 1, rW x, rO x, rG x, rB x, rP x, 0, rN x, rGc x, rBc x) else x
theorem d_X7_endRow_0 : decode (mB M_X7_endRow) 0 = .ok (.aload_n 0, 1) := by decide +kernel
theorem d_X7_endRow_1 : decode (mB M_X7_endRow) 1 = .ok (.getfield 34, 3) := by decide +kernel
theorem d_X7_endRow_4 : decode (mB M_X7_endRow) 4 = .ok (.ifCond .eq 21, 3) := by decide +kernel
theorem d_X7_endRow_7 : decode (mB M_X7_endRow) 7 = .ok (.aload_n 0, 1) := by decide +kernel
theorem d_X7_endRow_8 : decode (mB M_X7_endRow) 8 = .ok (.getfield 14, 3) := by decide +kernel
theorem d_X7_endRow_11 : decode (mB M_X7_endRow) 11 = .ok (.ifCond .le 16, 3) := by decide +kernel
theorem d_X7_endRow_14 : decode (mB M_X7_endRow) 14 = .ok (.aload_n 0, 1) := by decide +kernel
theorem d_X7_endRow_15 : decode (mB M_X7_endRow) 15 = .ok (.getfield 34, 3) := by decide +kernel
theorem d_X7_endRow_18 : decode (mB M_X7_endRow) 18 = .ok (.aload_n 0, 1) := by decide +kernel
theorem d_X7_endRow_19 : decode (mB M_X7_endRow) 19 = .ok (.getfield 18, 3) := by decide +kernel
theorem d_X7_endRow_22 : decode (mB M_X7_endRow) 22 = .ok (.if_icmp .ge 5, 3) := by decide +kernel
theorem d_X7_endRow_25 : decode (mB M_X7_endRow) 25 = .ok (.iconst 0, 1) := by decide +kernel
theorem d_X7_endRow_26 : decode (mB M_X7_endRow) 26 = .ok (.ireturn, 1) := by decide +kernel
theorem d_X7_endRow_27 : decode (mB M_X7_endRow) 27 = .ok (.aload_n 0, 1) := by decide +kernel
theorem d_X7_endRow_28 : decode (mB M_X7_endRow) 28 = .ok (.aload_n 0, 1) := by decide +kernel
theorem d_X7_endRow_29 : decode (mB M_X7_endRow) 29 = .ok (.getfield 34, 3) := by decide +kernel
theorem d_X7_endRow_32 : decode (mB M_X7_endRow) 32 = .ok (.putfield 18, 3) := by decide +kernel
theorem d_X7_endRow_35 : decode (mB M_X7_endRow) 35 = .ok (.aload_n 0, 1) := by decide +kernel
theorem d_X7_endRow_36 : decode (mB M_X7_endRow) 36 = .ok (.dup, 1) := by decide +kernel
theorem d_X7_endRow_37 : decode (mB M_X7_endRow) 37 = .ok (.getfield 14, 3) := by decide +kernel
theorem d_X7_endRow_40 : decode (mB M_X7_endRow) 40 = .ok (.iconst 1, 1) := by decide +kernel
theorem d_X7_endRow_41 : decode (mB M_X7_endRow) 41 = .ok (.iadd, 1) := by decide +kernel
theorem d_X7_endRow_42 : decode (mB M_X7_endRow) 42 = .ok (.putfield 14, 3) := by decide +kernel
theorem d_X7_endRow_45 : decode (mB M_X7_endRow) 45 = .ok (.aload_n 0, 1) := by decide +kernel
theorem d_X7_endRow_46 : decode (mB M_X7_endRow) 46 = .ok (.iconst 0, 1) := by decide +kernel
theorem d_X7_endRow_47 : decode (mB M_X7_endRow) 47 = .ok (.putfield 34, 3) := by decide +kernel
theorem d_X7_endRow_50 : decode (mB M_X7_endRow) 50 = .ok (.iconst 1, 1) := by decide +kernel
theorem d_X7_endRow_51 : decode (mB M_X7_endRow) 51 = .ok (.ireturn, 1) := by decide +kernel
theorem c_endRow {E : mEnv} (hE : E.1.stackTraces = false) (m : List mE) (t : cT)  : Rt E M_X7_endRow 0 [.ref 103] ((m, cw t)) (some (.int (bI (rEndB (tT t))))) ((m, cw (wT t (rEndS (tT t))))) := by
  refine Rt.of hE rfl pn_X7 (Nat.le_of_ble_eq_true rfl) ?_
  refine g_eq (S' := (0, [some (.ref 103)], [], (m, cw t))) rfl ?_
  refine g_aload_n d_X7_endRow_0 rfl ?_
  refine g_getf d_X7_endRow_1 f_X7_34 rfl rfl ?_
  refine g_if_eq (tgt := 25) d_X7_endRow_4 (by decide) (fun c_4 => ?_) (fun c_4 => ?_)
  · refine g_iconst (v := 0) d_X7_endRow_25 (by decide) ?_
    exact g_retZ d_X7_endRow_26 rfl (by decide) (by simp only [rEndB, eq_true c_4, ↓reduceIte, Bool.false_eq_true]; rfl) (by simp only [rEndS, rEndB, eq_true c_4, ↓reduceIte, Bool.false_eq_true]; rfl)
  · refine g_aload_n d_X7_endRow_7 rfl ?_
    refine g_getf d_X7_endRow_8 f_X7_14 rfl rfl ?_
    refine g_if_le (tgt := 27) d_X7_endRow_11 (by decide) (fun c_11 => ?_) (fun c_11 => ?_)
    · refine g_aload_n d_X7_endRow_27 rfl ?_
      refine g_aload_n d_X7_endRow_28 rfl ?_
      refine g_getf d_X7_endRow_29 f_X7_34 rfl rfl ?_
      refine g_putI (w' := (mset (m, cw t) 103 (.inr (7, [.int (rR (tT t)), .int (rW (tT t)), .long (rO (tT t)), .long (rG (tT t)), .long (rB (tT t)), .int (rP (tT t)), .int (rW (tT t)), .int (rN (tT t)), .int (rGc (tT t)), .int (rBc (tT t))])))) d_X7_endRow_32 p_X7_18 rfl rfl rfl (Nat.le_of_ble_eq_true rfl) (rfl) ?_
      refine g_aload_n d_X7_endRow_35 rfl ?_
      refine g_dup d_X7_endRow_36 rfl ?_
      refine g_getf d_X7_endRow_37 f_X7_14 (mget_eq rfl) rfl ?_
      refine g_iconst (v := 1) d_X7_endRow_40 (by decide) ?_
      refine g_iadd d_X7_endRow_41 ?_
      refine g_putI (w' := (mset (m, cw t) 103 (.inr (7, [.int ((rR (tT t)) + 1), .int (rW (tT t)), .long (rO (tT t)), .long (rG (tT t)), .long (rB (tT t)), .int (rP (tT t)), .int (rW (tT t)), .int (rN (tT t)), .int (rGc (tT t)), .int (rBc (tT t))])))) d_X7_endRow_42 p_X7_14 rfl rfl (mget_eq rfl) (Nat.le_of_ble_eq_true rfl) (mset_mset) ?_
      refine g_aload_n d_X7_endRow_45 rfl ?_
      refine g_iconst (v := 0) d_X7_endRow_46 (by decide) ?_
      refine g_putI (w' := (mset (m, cw t) 103 (.inr (7, [.int ((rR (tT t)) + 1), .int (rW (tT t)), .long (rO (tT t)), .long (rG (tT t)), .long (rB (tT t)), .int (rP (tT t)), .int 0, .int (rN (tT t)), .int (rGc (tT t)), .int (rBc (tT t))])))) d_X7_endRow_47 p_X7_34 rfl rfl (mget_eq rfl) (Nat.le_of_ble_eq_true rfl) (mset_mset) ?_
      refine g_iconst (v := 1) d_X7_endRow_50 (by decide) ?_
      exact g_retZ d_X7_endRow_51 rfl (by decide) (by simp only [rEndB, eq_false c_4, eq_true c_11, ↓reduceIte, Bool.false_eq_true]; rfl) (by simp only [rEndS, rEndB, eq_false c_4, eq_true c_11, ↓reduceIte, Bool.false_eq_true]; rfl)
    · refine g_aload_n d_X7_endRow_14 rfl ?_
      refine g_getf d_X7_endRow_15 f_X7_34 rfl rfl ?_
      refine g_aload_n d_X7_endRow_18 rfl ?_
      refine g_getf d_X7_endRow_19 f_X7_18 rfl rfl ?_
      refine g_icmp_ge (tgt := 27) d_X7_endRow_22 (by decide) (fun c_22 => ?_) (fun c_22 => ?_)
      · refine g_aload_n d_X7_endRow_27 rfl ?_
        refine g_aload_n d_X7_endRow_28 rfl ?_
        refine g_getf d_X7_endRow_29 f_X7_34 rfl rfl ?_
        refine g_putI (w' := (mset (m, cw t) 103 (.inr (7, [.int (rR (tT t)), .int (rW (tT t)), .long (rO (tT t)), .long (rG (tT t)), .long (rB (tT t)), .int (rP (tT t)), .int (rW (tT t)), .int (rN (tT t)), .int (rGc (tT t)), .int (rBc (tT t))])))) d_X7_endRow_32 p_X7_18 rfl rfl rfl (Nat.le_of_ble_eq_true rfl) (rfl) ?_
        refine g_aload_n d_X7_endRow_35 rfl ?_
        refine g_dup d_X7_endRow_36 rfl ?_
        refine g_getf d_X7_endRow_37 f_X7_14 (mget_eq rfl) rfl ?_
        refine g_iconst (v := 1) d_X7_endRow_40 (by decide) ?_
        refine g_iadd d_X7_endRow_41 ?_
        refine g_putI (w' := (mset (m, cw t) 103 (.inr (7, [.int ((rR (tT t)) + 1), .int (rW (tT t)), .long (rO (tT t)), .long (rG (tT t)), .long (rB (tT t)), .int (rP (tT t)), .int (rW (tT t)), .int (rN (tT t)), .int (rGc (tT t)), .int (rBc (tT t))])))) d_X7_endRow_42 p_X7_14 rfl rfl (mget_eq rfl) (Nat.le_of_ble_eq_true rfl) (mset_mset) ?_
        refine g_aload_n d_X7_endRow_45 rfl ?_
        refine g_iconst (v := 0) d_X7_endRow_46 (by decide) ?_
        refine g_putI (w' := (mset (m, cw t) 103 (.inr (7, [.int ((rR (tT t)) + 1), .int (rW (tT t)), .long (rO (tT t)), .long (rG (tT t)), .long (rB (tT t)), .int (rP (tT t)), .int 0, .int (rN (tT t)), .int (rGc (tT t)), .int (rBc (tT t))])))) d_X7_endRow_47 p_X7_34 rfl rfl (mget_eq rfl) (Nat.le_of_ble_eq_true rfl) (mset_mset) ?_
        refine g_iconst (v := 1) d_X7_endRow_50 (by decide) ?_
        exact g_retZ d_X7_endRow_51 rfl (by decide) (by simp only [rEndB, eq_false c_4, eq_false c_11, eq_true c_22, ↓reduceIte, Bool.false_eq_true]; rfl) (by simp only [rEndS, rEndB, eq_false c_4, eq_false c_11, eq_true c_22, ↓reduceIte, Bool.false_eq_true]; rfl)
      · refine g_iconst (v := 0) d_X7_endRow_25 (by decide) ?_
        exact g_retZ d_X7_endRow_26 rfl (by decide) (by simp only [rEndB, eq_false c_4, eq_false c_11, eq_false c_22, ↓reduceIte, Bool.false_eq_true]; rfl) (by simp only [rEndS, rEndB, eq_false c_4, eq_false c_11, eq_false c_22, ↓reduceIte, Bool.false_eq_true]; rfl)
theorem d_X7_isSide_0 : decode (mB M_X7_isSide) 0 = .ok (.iload_n 0, 1) := by decide +kernel
theorem d_X7_isSide_1 : decode (mB M_X7_isSide) 1 = .ok (.iconst 3, 1) := by decide +kernel
theorem d_X7_isSide_2 : decode (mB M_X7_isSide) 2 = .ok (.if_icmp .lt 13, 3) := by decide +kernel
theorem d_X7_isSide_5 : decode (mB M_X7_isSide) 5 = .ok (.iload_n 0, 1) := by decide +kernel
theorem d_X7_isSide_6 : decode (mB M_X7_isSide) 6 = .ok (.bipush 8, 2) := by decide +kernel
theorem d_X7_isSide_8 : decode (mB M_X7_isSide) 8 = .ok (.if_icmp .gt 7, 3) := by decide +kernel
theorem d_X7_isSide_11 : decode (mB M_X7_isSide) 11 = .ok (.iconst 1, 1) := by decide +kernel
theorem d_X7_isSide_12 : decode (mB M_X7_isSide) 12 = .ok (.goto 4, 3) := by decide +kernel
theorem d_X7_isSide_15 : decode (mB M_X7_isSide) 15 = .ok (.iconst 0, 1) := by decide +kernel
theorem d_X7_isSide_16 : decode (mB M_X7_isSide) 16 = .ok (.ireturn, 1) := by decide +kernel
def sdF (i : Int32) : Bool := if i < 3 then false else if 8 < i then false else true
theorem c_isSide {E : mEnv} (hE : E.1.stackTraces = false) (i : Int32) (w : mW) : Rt E M_X7_isSide 0 [.int i] w (some (.int (bI (sdF i)))) w := by
  refine Rt.of hE rfl pn_X7 (Nat.le_of_ble_eq_true rfl) ?_
  refine g_eq (S' := (0, [some (.int i)], [], w)) rfl ?_
  refine g_iload_n d_X7_isSide_0 rfl ?_
  refine g_iconst (v := 3) d_X7_isSide_1 (by decide) ?_
  refine g_icmp_lt (tgt := 15) d_X7_isSide_2 (by decide) (fun c_2 => ?_) (fun c_2 => ?_)
  · refine g_iconst (v := 0) d_X7_isSide_15 (by decide) ?_
    exact g_retZ d_X7_isSide_16 rfl (by decide) (by simp only [sdF, eq_true c_2, ↓reduceIte, Bool.false_eq_true]; rfl) (rfl)
  · refine g_iload_n d_X7_isSide_5 rfl ?_
    refine g_bipush (v := 8) d_X7_isSide_6 (by decide) ?_
    refine g_icmp_gt (tgt := 15) d_X7_isSide_8 (by decide) (fun c_8 => ?_) (fun c_8 => ?_)
    · refine g_iconst (v := 0) d_X7_isSide_15 (by decide) ?_
      exact g_retZ d_X7_isSide_16 rfl (by decide) (by simp only [sdF, eq_false c_2, eq_true c_8, ↓reduceIte, Bool.false_eq_true]; rfl) (rfl)
    · refine g_iconst (v := 1) d_X7_isSide_11 (by decide) ?_
      refine g_goto (tgt := 16) d_X7_isSide_12 (by decide) ?_
      exact g_retZ d_X7_isSide_16 rfl (by decide) (by simp only [sdF, eq_false c_2, eq_false c_8, ↓reduceIte, Bool.false_eq_true]; rfl) (rfl)
def rRoom (x : RtT) : Bool := if sdF (rR x) = true then (if sdF (rC x) = true then (if rP x = -1 then false else if rBc x ≤ 0 then false else if rGc x < rBc x then false else true) else false) else false
theorem d_X7_isRoom_0 : decode (mB M_X7_isRoom) 0 = .ok (.aload_n 0, 1) := by decide +kernel
theorem d_X7_isRoom_1 : decode (mB M_X7_isRoom) 1 = .ok (.getfield 14, 3) := by decide +kernel
theorem d_X7_isRoom_4 : decode (mB M_X7_isRoom) 4 = .ok (.invokestatic 72, 3) := by decide +kernel
theorem d_X7_isRoom_7 : decode (mB M_X7_isRoom) 7 = .ok (.ifCond .eq 43, 3) := by decide +kernel
theorem d_X7_isRoom_10 : decode (mB M_X7_isRoom) 10 = .ok (.aload_n 0, 1) := by decide +kernel
theorem d_X7_isRoom_11 : decode (mB M_X7_isRoom) 11 = .ok (.getfield 18, 3) := by decide +kernel
theorem d_X7_isRoom_14 : decode (mB M_X7_isRoom) 14 = .ok (.invokestatic 72, 3) := by decide +kernel
theorem d_X7_isRoom_17 : decode (mB M_X7_isRoom) 17 = .ok (.ifCond .eq 33, 3) := by decide +kernel
theorem d_X7_isRoom_20 : decode (mB M_X7_isRoom) 20 = .ok (.aload_n 0, 1) := by decide +kernel
theorem d_X7_isRoom_21 : decode (mB M_X7_isRoom) 21 = .ok (.getfield 31, 3) := by decide +kernel
theorem d_X7_isRoom_24 : decode (mB M_X7_isRoom) 24 = .ok (.iconst (-1), 1) := by decide +kernel
theorem d_X7_isRoom_25 : decode (mB M_X7_isRoom) 25 = .ok (.if_icmp .eq 25, 3) := by decide +kernel
theorem d_X7_isRoom_28 : decode (mB M_X7_isRoom) 28 = .ok (.aload_n 0, 1) := by decide +kernel
theorem d_X7_isRoom_29 : decode (mB M_X7_isRoom) 29 = .ok (.getfield 43, 3) := by decide +kernel
theorem d_X7_isRoom_32 : decode (mB M_X7_isRoom) 32 = .ok (.ifCond .le 18, 3) := by decide +kernel
theorem d_X7_isRoom_35 : decode (mB M_X7_isRoom) 35 = .ok (.aload_n 0, 1) := by decide +kernel
theorem d_X7_isRoom_36 : decode (mB M_X7_isRoom) 36 = .ok (.getfield 40, 3) := by decide +kernel
theorem d_X7_isRoom_39 : decode (mB M_X7_isRoom) 39 = .ok (.aload_n 0, 1) := by decide +kernel
theorem d_X7_isRoom_40 : decode (mB M_X7_isRoom) 40 = .ok (.getfield 43, 3) := by decide +kernel
theorem d_X7_isRoom_43 : decode (mB M_X7_isRoom) 43 = .ok (.if_icmp .lt 7, 3) := by decide +kernel
theorem d_X7_isRoom_46 : decode (mB M_X7_isRoom) 46 = .ok (.iconst 1, 1) := by decide +kernel
theorem d_X7_isRoom_47 : decode (mB M_X7_isRoom) 47 = .ok (.goto 4, 3) := by decide +kernel
theorem d_X7_isRoom_50 : decode (mB M_X7_isRoom) 50 = .ok (.iconst 0, 1) := by decide +kernel
theorem d_X7_isRoom_51 : decode (mB M_X7_isRoom) 51 = .ok (.ireturn, 1) := by decide +kernel
theorem c_isRoom {E : mEnv} (hE : E.1.stackTraces = false) (m : List mE) (t : cT)  : Rt E M_X7_isRoom 0 [.ref 103] ((m, cw t)) (some (.int (bI (rRoom (tT t))))) ((m, cw t)) := by
  refine Rt.of hE rfl pn_X7 (Nat.le_of_ble_eq_true rfl) ?_
  refine g_eq (S' := (0, [some (.ref 103)], [], (m, cw t))) rfl ?_
  refine g_aload_n d_X7_isRoom_0 rfl ?_
  refine g_getf d_X7_isRoom_1 f_X7_14 rfl rfl ?_
  refine g_callS (As := [.int (rR (tT t))]) d_X7_isRoom_4 o_X7_isSide l_X7_72 ⟨Nat.le_of_ble_eq_true rfl, Nat.le_of_ble_eq_true rfl⟩ (c_isSide hE (rR (tT t)) _) rfl rfl ?_ (Nat.zero_add _)
  refine g_ifb_eq (tgt := 50) d_X7_isRoom_7 (by decide) (fun c_7 => ?_) (fun c_7 => ?_)
  · refine g_iconst (v := 0) d_X7_isRoom_50 (by decide) ?_
    exact g_retZ d_X7_isRoom_51 rfl (by decide) (by simp only [rRoom, c_7, ↓reduceIte, Bool.false_eq_true]; rfl) (rfl)
  · refine g_aload_n d_X7_isRoom_10 rfl ?_
    refine g_getf d_X7_isRoom_11 f_X7_18 rfl rfl ?_
    refine g_callS (As := [.int (rC (tT t))]) d_X7_isRoom_14 o_X7_isSide l_X7_72 ⟨Nat.le_of_ble_eq_true rfl, Nat.le_of_ble_eq_true rfl⟩ (c_isSide hE (rC (tT t)) _) rfl rfl ?_ (Nat.zero_add _)
    refine g_ifb_eq (tgt := 50) d_X7_isRoom_17 (by decide) (fun c_17 => ?_) (fun c_17 => ?_)
    · refine g_iconst (v := 0) d_X7_isRoom_50 (by decide) ?_
      exact g_retZ d_X7_isRoom_51 rfl (by decide) (by simp only [rRoom, c_7, c_17, ↓reduceIte, Bool.false_eq_true]; rfl) (rfl)
    · refine g_aload_n d_X7_isRoom_20 rfl ?_
      refine g_getf d_X7_isRoom_21 f_X7_31 rfl rfl ?_
      refine g_iconst (v := (-1)) d_X7_isRoom_24 (by decide) ?_
      refine g_icmp_eq (tgt := 50) d_X7_isRoom_25 (by decide) (fun c_25 => ?_) (fun c_25 => ?_)
      · refine g_iconst (v := 0) d_X7_isRoom_50 (by decide) ?_
        exact g_retZ d_X7_isRoom_51 rfl (by decide) (by simp only [rRoom, c_7, c_17, eq_true c_25, ↓reduceIte, Bool.false_eq_true]; rfl) (rfl)
      · refine g_aload_n d_X7_isRoom_28 rfl ?_
        refine g_getf d_X7_isRoom_29 f_X7_43 rfl rfl ?_
        refine g_if_le (tgt := 50) d_X7_isRoom_32 (by decide) (fun c_32 => ?_) (fun c_32 => ?_)
        · refine g_iconst (v := 0) d_X7_isRoom_50 (by decide) ?_
          exact g_retZ d_X7_isRoom_51 rfl (by decide) (by simp only [rRoom, c_7, c_17, eq_false c_25, eq_true c_32, ↓reduceIte, Bool.false_eq_true]; rfl) (rfl)
        · refine g_aload_n d_X7_isRoom_35 rfl ?_
          refine g_getf d_X7_isRoom_36 f_X7_40 rfl rfl ?_
          refine g_aload_n d_X7_isRoom_39 rfl ?_
          refine g_getf d_X7_isRoom_40 f_X7_43 rfl rfl ?_
          refine g_icmp_lt (tgt := 50) d_X7_isRoom_43 (by decide) (fun c_43 => ?_) (fun c_43 => ?_)
          · refine g_iconst (v := 0) d_X7_isRoom_50 (by decide) ?_
            exact g_retZ d_X7_isRoom_51 rfl (by decide) (by simp only [rRoom, c_7, c_17, eq_false c_25, eq_false c_32, eq_true c_43, ↓reduceIte, Bool.false_eq_true]; rfl) (rfl)
          · refine g_iconst (v := 1) d_X7_isRoom_46 (by decide) ?_
            refine g_goto (tgt := 51) d_X7_isRoom_47 (by decide) ?_
            exact g_retZ d_X7_isRoom_51 rfl (by decide) (by simp only [rRoom, c_7, c_17, eq_false c_25, eq_false c_32, eq_false c_43, ↓reduceIte, Bool.false_eq_true]; rfl) (rfl)
def gCh (c : Int32) : Bool := if c = 46 then true else if c = 42 then true else if c = 43 then true else false
def bCh (c : Int32) : Bool := if c = 36 then true else if c = 42 then true else false
def pCh (c : Int32) : Bool := if c = 64 then true else if c = 43 then true else false
theorem d_X7_addCell_0 : decode (mB M_X7_addCell) 0 = .ok (.iload_n 1, 1) := by decide +kernel
theorem d_X7_addCell_1 : decode (mB M_X7_addCell) 1 = .ok (.bipush 46, 2) := by decide +kernel
theorem d_X7_addCell_3 : decode (mB M_X7_addCell) 3 = .ok (.if_icmp .eq 15, 3) := by decide +kernel
theorem d_X7_addCell_6 : decode (mB M_X7_addCell) 6 = .ok (.iload_n 1, 1) := by decide +kernel
theorem d_X7_addCell_7 : decode (mB M_X7_addCell) 7 = .ok (.bipush 42, 2) := by decide +kernel
theorem d_X7_addCell_9 : decode (mB M_X7_addCell) 9 = .ok (.if_icmp .eq 9, 3) := by decide +kernel
theorem d_X7_addCell_12 : decode (mB M_X7_addCell) 12 = .ok (.iload_n 1, 1) := by decide +kernel
theorem d_X7_addCell_13 : decode (mB M_X7_addCell) 13 = .ok (.bipush 43, 2) := by decide +kernel
theorem d_X7_addCell_15 : decode (mB M_X7_addCell) 15 = .ok (.if_icmp .ne 7, 3) := by decide +kernel
theorem d_X7_addCell_18 : decode (mB M_X7_addCell) 18 = .ok (.iconst 1, 1) := by decide +kernel
theorem d_X7_addCell_19 : decode (mB M_X7_addCell) 19 = .ok (.goto 4, 3) := by decide +kernel
theorem d_X7_addCell_22 : decode (mB M_X7_addCell) 22 = .ok (.iconst 0, 1) := by decide +kernel
theorem s_add1 {E : mEnv} (hE : E.1.stackTraces = false) (m : List mE) (t : cT) (c : Int32) : Go E M_X7_addCell 0 (0, [some (.ref 103), some (.int c), none, none, none, none, none], [], (m, cw t)) (.inl (23, [some (.ref 103), some (.int c), none, none, none, none, none], [.int (bI (gCh c))], (m, cw t))) := by
  refine g_iload_n d_X7_addCell_0 rfl ?_
  refine g_bipush (v := 46) d_X7_addCell_1 (by decide) ?_
  refine g_icmp_eq (tgt := 18) d_X7_addCell_3 (by decide) (fun c_3 => ?_) (fun c_3 => ?_)
  · refine g_iconst (v := 1) d_X7_addCell_18 (by decide) ?_
    refine g_goto (tgt := 23) d_X7_addCell_19 (by decide) ?_
    exact g_end (by first | rfl | (simp only [gCh, eq_true c_3, ↓reduceIte, Bool.false_eq_true, bI_t, bI_f]; done) | (simp only [gCh, eq_true c_3, ↓reduceIte, Bool.false_eq_true, bI_t, bI_f]; rfl))
  · refine g_iload_n d_X7_addCell_6 rfl ?_
    refine g_bipush (v := 42) d_X7_addCell_7 (by decide) ?_
    refine g_icmp_eq (tgt := 18) d_X7_addCell_9 (by decide) (fun c_9 => ?_) (fun c_9 => ?_)
    · refine g_iconst (v := 1) d_X7_addCell_18 (by decide) ?_
      refine g_goto (tgt := 23) d_X7_addCell_19 (by decide) ?_
      exact g_end (by first | rfl | (simp only [gCh, eq_false c_3, eq_true c_9, ↓reduceIte, Bool.false_eq_true, bI_t, bI_f]; done) | (simp only [gCh, eq_false c_3, eq_true c_9, ↓reduceIte, Bool.false_eq_true, bI_t, bI_f]; rfl))
    · refine g_iload_n d_X7_addCell_12 rfl ?_
      refine g_bipush (v := 43) d_X7_addCell_13 (by decide) ?_
      refine g_icmp_ne (tgt := 22) d_X7_addCell_15 (by decide) (fun c_15 => ?_) (fun c_15 => ?_)
      · refine g_iconst (v := 0) d_X7_addCell_22 (by decide) ?_
        exact g_end (by first | rfl | (simp only [gCh, eq_false c_3, eq_false c_9, eq_false c_15, ↓reduceIte, Bool.false_eq_true, bI_t, bI_f]; done) | (simp only [gCh, eq_false c_3, eq_false c_9, eq_false c_15, ↓reduceIte, Bool.false_eq_true, bI_t, bI_f]; rfl))
      · refine g_iconst (v := 1) d_X7_addCell_18 (by decide) ?_
        refine g_goto (tgt := 23) d_X7_addCell_19 (by decide) ?_
        exact g_end (by first | rfl | (simp only [gCh, eq_false c_3, eq_false c_9, eq_true c_15, ↓reduceIte, Bool.false_eq_true, bI_t, bI_f]; done) | (simp only [gCh, eq_false c_3, eq_false c_9, eq_true c_15, ↓reduceIte, Bool.false_eq_true, bI_t, bI_f]; rfl))
theorem d_X7_addCell_24 : decode (mB M_X7_addCell) 24 = .ok (.iload_n 1, 1) := by decide +kernel
theorem d_X7_addCell_25 : decode (mB M_X7_addCell) 25 = .ok (.bipush 36, 2) := by decide +kernel
theorem d_X7_addCell_27 : decode (mB M_X7_addCell) 27 = .ok (.if_icmp .eq 9, 3) := by decide +kernel
theorem d_X7_addCell_30 : decode (mB M_X7_addCell) 30 = .ok (.iload_n 1, 1) := by decide +kernel
theorem d_X7_addCell_31 : decode (mB M_X7_addCell) 31 = .ok (.bipush 42, 2) := by decide +kernel
theorem d_X7_addCell_33 : decode (mB M_X7_addCell) 33 = .ok (.if_icmp .ne 7, 3) := by decide +kernel
theorem d_X7_addCell_36 : decode (mB M_X7_addCell) 36 = .ok (.iconst 1, 1) := by decide +kernel
theorem d_X7_addCell_37 : decode (mB M_X7_addCell) 37 = .ok (.goto 4, 3) := by decide +kernel
theorem d_X7_addCell_40 : decode (mB M_X7_addCell) 40 = .ok (.iconst 0, 1) := by decide +kernel
theorem s_add2 {E : mEnv} (hE : E.1.stackTraces = false) (m : List mE) (t : cT) (c : Int32) : Go E M_X7_addCell 0 (24, [some (.ref 103), some (.int c), some (.int (bI (gCh c))), none, none, none, none], [], (m, cw t)) (.inl (41, [some (.ref 103), some (.int c), some (.int (bI (gCh c))), none, none, none, none], [.int (bI (bCh c))], (m, cw t))) := by
  refine g_iload_n d_X7_addCell_24 rfl ?_
  refine g_bipush (v := 36) d_X7_addCell_25 (by decide) ?_
  refine g_icmp_eq (tgt := 36) d_X7_addCell_27 (by decide) (fun c_27 => ?_) (fun c_27 => ?_)
  · refine g_iconst (v := 1) d_X7_addCell_36 (by decide) ?_
    refine g_goto (tgt := 41) d_X7_addCell_37 (by decide) ?_
    exact g_end (by first | rfl | (simp only [bCh, eq_true c_27, ↓reduceIte, Bool.false_eq_true, bI_t, bI_f]; done) | (simp only [bCh, eq_true c_27, ↓reduceIte, Bool.false_eq_true, bI_t, bI_f]; rfl))
  · refine g_iload_n d_X7_addCell_30 rfl ?_
    refine g_bipush (v := 42) d_X7_addCell_31 (by decide) ?_
    refine g_icmp_ne (tgt := 40) d_X7_addCell_33 (by decide) (fun c_33 => ?_) (fun c_33 => ?_)
    · refine g_iconst (v := 0) d_X7_addCell_40 (by decide) ?_
      exact g_end (by first | rfl | (simp only [bCh, eq_false c_27, eq_false c_33, ↓reduceIte, Bool.false_eq_true, bI_t, bI_f]; done) | (simp only [bCh, eq_false c_27, eq_false c_33, ↓reduceIte, Bool.false_eq_true, bI_t, bI_f]; rfl))
    · refine g_iconst (v := 1) d_X7_addCell_36 (by decide) ?_
      refine g_goto (tgt := 41) d_X7_addCell_37 (by decide) ?_
      exact g_end (by first | rfl | (simp only [bCh, eq_false c_27, eq_true c_33, ↓reduceIte, Bool.false_eq_true, bI_t, bI_f]; done) | (simp only [bCh, eq_false c_27, eq_true c_33, ↓reduceIte, Bool.false_eq_true, bI_t, bI_f]; rfl))
theorem d_X7_addCell_42 : decode (mB M_X7_addCell) 42 = .ok (.iload_n 1, 1) := by decide +kernel
theorem d_X7_addCell_43 : decode (mB M_X7_addCell) 43 = .ok (.bipush 64, 2) := by decide +kernel
theorem d_X7_addCell_45 : decode (mB M_X7_addCell) 45 = .ok (.if_icmp .eq 9, 3) := by decide +kernel
theorem d_X7_addCell_48 : decode (mB M_X7_addCell) 48 = .ok (.iload_n 1, 1) := by decide +kernel
theorem d_X7_addCell_49 : decode (mB M_X7_addCell) 49 = .ok (.bipush 43, 2) := by decide +kernel
theorem d_X7_addCell_51 : decode (mB M_X7_addCell) 51 = .ok (.if_icmp .ne 7, 3) := by decide +kernel
theorem d_X7_addCell_54 : decode (mB M_X7_addCell) 54 = .ok (.iconst 1, 1) := by decide +kernel
theorem d_X7_addCell_55 : decode (mB M_X7_addCell) 55 = .ok (.goto 4, 3) := by decide +kernel
theorem d_X7_addCell_58 : decode (mB M_X7_addCell) 58 = .ok (.iconst 0, 1) := by decide +kernel
theorem s_add3 {E : mEnv} (hE : E.1.stackTraces = false) (m : List mE) (t : cT) (c : Int32) : Go E M_X7_addCell 0 (42, [some (.ref 103), some (.int c), some (.int (bI (gCh c))), some (.int (bI (bCh c))), none, none, none], [], (m, cw t)) (.inl (59, [some (.ref 103), some (.int c), some (.int (bI (gCh c))), some (.int (bI (bCh c))), none, none, none], [.int (bI (pCh c))], (m, cw t))) := by
  refine g_iload_n d_X7_addCell_42 rfl ?_
  refine g_bipush (v := 64) d_X7_addCell_43 (by decide) ?_
  refine g_icmp_eq (tgt := 54) d_X7_addCell_45 (by decide) (fun c_45 => ?_) (fun c_45 => ?_)
  · refine g_iconst (v := 1) d_X7_addCell_54 (by decide) ?_
    refine g_goto (tgt := 59) d_X7_addCell_55 (by decide) ?_
    exact g_end (by first | rfl | (simp only [pCh, eq_true c_45, ↓reduceIte, Bool.false_eq_true, bI_t, bI_f]; done) | (simp only [pCh, eq_true c_45, ↓reduceIte, Bool.false_eq_true, bI_t, bI_f]; rfl))
  · refine g_iload_n d_X7_addCell_48 rfl ?_
    refine g_bipush (v := 43) d_X7_addCell_49 (by decide) ?_
    refine g_icmp_ne (tgt := 58) d_X7_addCell_51 (by decide) (fun c_51 => ?_) (fun c_51 => ?_)
    · refine g_iconst (v := 0) d_X7_addCell_58 (by decide) ?_
      exact g_end (by first | rfl | (simp only [pCh, eq_false c_45, eq_false c_51, ↓reduceIte, Bool.false_eq_true, bI_t, bI_f]; done) | (simp only [pCh, eq_false c_45, eq_false c_51, ↓reduceIte, Bool.false_eq_true, bI_t, bI_f]; rfl))
    · refine g_iconst (v := 1) d_X7_addCell_54 (by decide) ?_
      refine g_goto (tgt := 59) d_X7_addCell_55 (by decide) ?_
      exact g_end (by first | rfl | (simp only [pCh, eq_false c_45, eq_true c_51, ↓reduceIte, Bool.false_eq_true, bI_t, bI_f]; done) | (simp only [pCh, eq_false c_45, eq_true c_51, ↓reduceIte, Bool.false_eq_true, bI_t, bI_f]; rfl))
/-- the bit of the next cell -/
def rPl (x : RtT) : Int64 := if 64 ≤ rN x then 0 else jshl 1 (rN x)
theorem d_X7_addCell_117 : decode (mB M_X7_addCell) 117 = .ok (.aload_n 0, 1) := by decide +kernel
theorem d_X7_addCell_118 : decode (mB M_X7_addCell) 118 = .ok (.getfield 37, 3) := by decide +kernel
theorem d_X7_addCell_121 : decode (mB M_X7_addCell) 121 = .ok (.bipush 64, 2) := by decide +kernel
theorem d_X7_addCell_123 : decode (mB M_X7_addCell) 123 = .ok (.if_icmp .ge 13, 3) := by decide +kernel
theorem d_X7_addCell_126 : decode (mB M_X7_addCell) 126 = .ok (.aload_n 0, 1) := by decide +kernel
theorem d_X7_addCell_127 : decode (mB M_X7_addCell) 127 = .ok (.getfield 37, 3) := by decide +kernel
theorem d_X7_addCell_130 : decode (mB M_X7_addCell) 130 = .ok (.invokestatic 68, 3) := by decide +kernel
theorem d_X7_addCell_133 : decode (mB M_X7_addCell) 133 = .ok (.goto 4, 3) := by decide +kernel
theorem d_X7_addCell_136 : decode (mB M_X7_addCell) 136 = .ok (.lconst 0, 1) := by decide +kernel
theorem s_add4 {E : mEnv} (hE : E.1.stackTraces = false) (m : List mE) (t : cT) (c : Int32) : Go E M_X7_addCell 0 (117, [some (.ref 103), some (.int c), some (.int (bI (gCh c))), some (.int (bI (bCh c))), some (.int (bI (pCh c))), none, none], [], (m, cw t)) (.inl (137, [some (.ref 103), some (.int c), some (.int (bI (gCh c))), some (.int (bI (bCh c))), some (.int (bI (pCh c))), none, none], [.long (rPl (tT t))], (m, cw t))) := by
  refine g_aload_n d_X7_addCell_117 rfl ?_
  refine g_getf d_X7_addCell_118 f_X7_37 rfl rfl ?_
  refine g_bipush (v := 64) d_X7_addCell_121 (by decide) ?_
  refine g_icmp_ge (tgt := 136) d_X7_addCell_123 (by decide) (fun c_123 => ?_) (fun c_123 => ?_)
  · refine g_lconst (v := 0) d_X7_addCell_136 (by decide) ?_
    exact g_end (by first | rfl | (simp only [rPl, eq_true c_123, ↓reduceIte, Bool.false_eq_true, bI_t, bI_f]; done) | (simp only [rPl, eq_true c_123, ↓reduceIte, Bool.false_eq_true, bI_t, bI_f]; rfl))
  · refine g_aload_n d_X7_addCell_126 rfl ?_
    refine g_getf d_X7_addCell_127 f_X7_37 rfl rfl ?_
    refine g_callN (As := [.int (rN (tT t))]) d_X7_addCell_130 o_X11_bit n_X7_68 ⟨Nat.le_of_ble_eq_true rfl, Nat.le_of_ble_eq_true rfl⟩ (c_bit hE (rN (tT t)) _) rfl rfl ?_ (Nat.zero_add _)
    refine g_goto (tgt := 137) d_X7_addCell_133 (by decide) ?_
    exact g_end (by first | rfl | (simp only [rPl, eq_false c_123, ↓reduceIte, Bool.false_eq_true, bI_t, bI_f]; done) | (simp only [rPl, eq_false c_123, ↓reduceIte, Bool.false_eq_true, bI_t, bI_f]; rfl))
theorem d_X7_addCell_139 : decode (mB M_X7_addCell) 139 = .ok (.iload_n 1, 1) := by decide +kernel
theorem d_X7_addCell_140 : decode (mB M_X7_addCell) 140 = .ok (.bipush 35, 2) := by decide +kernel
theorem d_X7_addCell_142 : decode (mB M_X7_addCell) 142 = .ok (.if_icmp .eq 14, 3) := by decide +kernel
theorem d_X7_addCell_145 : decode (mB M_X7_addCell) 145 = .ok (.aload_n 0, 1) := by decide +kernel
theorem d_X7_addCell_146 : decode (mB M_X7_addCell) 146 = .ok (.dup, 1) := by decide +kernel
theorem d_X7_addCell_147 : decode (mB M_X7_addCell) 147 = .ok (.getfield 21, 3) := by decide +kernel
theorem d_X7_addCell_150 : decode (mB M_X7_addCell) 150 = .ok (.lload 5, 2) := by decide +kernel
theorem d_X7_addCell_152 : decode (mB M_X7_addCell) 152 = .ok (.lor, 1) := by decide +kernel
theorem d_X7_addCell_153 : decode (mB M_X7_addCell) 153 = .ok (.putfield 21, 3) := by decide +kernel
theorem s_add5 {E : mEnv} (hE : E.1.stackTraces = false) (m : List mE) (t : cT) (c : Int32) : Go E M_X7_addCell 0 (139, [some (.ref 103), some (.int c), some (.int (bI (gCh c))), some (.int (bI (bCh c))), some (.int (bI (pCh c))), some (.long (rPl (tT t))), none], [], (mset (m, cw t) 103 (.inr (7, [.int (rR (tT t)), .int (rC (tT t)), .long (rO (tT t)), .long (rG (tT t)), .long (rB (tT t)), .int (rP (tT t)), .int (rW (tT t)), .int (rN (tT t)), .int (rGc (tT t)), .int (rBc (tT t))])))) (.inl (156, [some (.ref 103), some (.int c), some (.int (bI (gCh c))), some (.int (bI (bCh c))), some (.int (bI (pCh c))), some (.long (rPl (tT t))), none], [], (mset (m, cw t) 103 (.inr (7, [.int (rR (tT t)), .int (rC (tT t)), .long (if c = 35 then (rO (tT t)) else ((rO (tT t)) ||| (rPl (tT t)))), .long (rG (tT t)), .long (rB (tT t)), .int (rP (tT t)), .int (rW (tT t)), .int (rN (tT t)), .int (rGc (tT t)), .int (rBc (tT t))]))))) := by
  refine g_iload_n d_X7_addCell_139 rfl ?_
  refine g_bipush (v := 35) d_X7_addCell_140 (by decide) ?_
  refine g_icmp_eq (tgt := 156) d_X7_addCell_142 (by decide) (fun c_142 => ?_) (fun c_142 => ?_)
  · exact g_end (by first | rfl | (simp only [eq_true c_142, ↓reduceIte, Bool.false_eq_true, bI_t, bI_f]; done) | (simp only [eq_true c_142, ↓reduceIte, Bool.false_eq_true, bI_t, bI_f]; rfl))
  · refine g_aload_n d_X7_addCell_145 rfl ?_
    refine g_dup d_X7_addCell_146 rfl ?_
    refine g_getf d_X7_addCell_147 f_X7_21 (mget_eq rfl) rfl ?_
    refine g_lload d_X7_addCell_150 rfl ?_
    refine g_lor d_X7_addCell_152 ?_
    refine g_putL (w' := (mset (m, cw t) 103 (.inr (7, [.int (rR (tT t)), .int (rC (tT t)), .long ((rO (tT t)) ||| (rPl (tT t))), .long (rG (tT t)), .long (rB (tT t)), .int (rP (tT t)), .int (rW (tT t)), .int (rN (tT t)), .int (rGc (tT t)), .int (rBc (tT t))])))) d_X7_addCell_153 p_X7_21 rfl rfl (mget_eq rfl) (Nat.le_of_ble_eq_true rfl) (mset_mset) ?_
    exact g_end (by first | rfl | (simp only [eq_false c_142, ↓reduceIte, Bool.false_eq_true, bI_t, bI_f]; done) | (simp only [eq_false c_142, ↓reduceIte, Bool.false_eq_true, bI_t, bI_f]; rfl))
theorem d_X7_addCell_156 : decode (mB M_X7_addCell) 156 = .ok (.iload_n 2, 1) := by decide +kernel
theorem d_X7_addCell_157 : decode (mB M_X7_addCell) 157 = .ok (.ifCond .eq 24, 3) := by decide +kernel
theorem d_X7_addCell_160 : decode (mB M_X7_addCell) 160 = .ok (.aload_n 0, 1) := by decide +kernel
theorem d_X7_addCell_161 : decode (mB M_X7_addCell) 161 = .ok (.dup, 1) := by decide +kernel
theorem d_X7_addCell_162 : decode (mB M_X7_addCell) 162 = .ok (.getfield 25, 3) := by decide +kernel
theorem d_X7_addCell_165 : decode (mB M_X7_addCell) 165 = .ok (.lload 5, 2) := by decide +kernel
theorem d_X7_addCell_167 : decode (mB M_X7_addCell) 167 = .ok (.lor, 1) := by decide +kernel
theorem d_X7_addCell_168 : decode (mB M_X7_addCell) 168 = .ok (.putfield 25, 3) := by decide +kernel
theorem d_X7_addCell_171 : decode (mB M_X7_addCell) 171 = .ok (.aload_n 0, 1) := by decide +kernel
theorem d_X7_addCell_172 : decode (mB M_X7_addCell) 172 = .ok (.dup, 1) := by decide +kernel
theorem d_X7_addCell_173 : decode (mB M_X7_addCell) 173 = .ok (.getfield 40, 3) := by decide +kernel
theorem d_X7_addCell_176 : decode (mB M_X7_addCell) 176 = .ok (.iconst 1, 1) := by decide +kernel
theorem d_X7_addCell_177 : decode (mB M_X7_addCell) 177 = .ok (.iadd, 1) := by decide +kernel
theorem d_X7_addCell_178 : decode (mB M_X7_addCell) 178 = .ok (.putfield 40, 3) := by decide +kernel
theorem s_add6 {E : mEnv} (hE : E.1.stackTraces = false) (m : List mE) (t : cT) (c : Int32) : Go E M_X7_addCell 0 (156, [some (.ref 103), some (.int c), some (.int (bI (gCh c))), some (.int (bI (bCh c))), some (.int (bI (pCh c))), some (.long (rPl (tT t))), none], [], (mset (m, cw t) 103 (.inr (7, [.int (rR (tT t)), .int (rC (tT t)), .long (if c = 35 then (rO (tT t)) else ((rO (tT t)) ||| (rPl (tT t)))), .long (rG (tT t)), .long (rB (tT t)), .int (rP (tT t)), .int (rW (tT t)), .int (rN (tT t)), .int (rGc (tT t)), .int (rBc (tT t))])))) (.inl (181, [some (.ref 103), some (.int c), some (.int (bI (gCh c))), some (.int (bI (bCh c))), some (.int (bI (pCh c))), some (.long (rPl (tT t))), none], [], (mset (m, cw t) 103 (.inr (7, [.int (rR (tT t)), .int (rC (tT t)), .long (if c = 35 then (rO (tT t)) else ((rO (tT t)) ||| (rPl (tT t)))), .long (if gCh c = true then ((rG (tT t)) ||| (rPl (tT t))) else (rG (tT t))), .long (rB (tT t)), .int (rP (tT t)), .int (rW (tT t)), .int (rN (tT t)), .int (if gCh c = true then ((rGc (tT t)) + 1) else (rGc (tT t))), .int (rBc (tT t))]))))) := by
  refine g_iload_n d_X7_addCell_156 rfl ?_
  refine g_ifb_eq (tgt := 181) d_X7_addCell_157 (by decide) (fun c_157 => ?_) (fun c_157 => ?_)
  · exact g_end (by first | rfl | (simp only [c_157, ↓reduceIte, Bool.false_eq_true, bI_t, bI_f]; done) | (simp only [c_157, ↓reduceIte, Bool.false_eq_true, bI_t, bI_f]; rfl))
  · refine g_aload_n d_X7_addCell_160 rfl ?_
    refine g_dup d_X7_addCell_161 rfl ?_
    refine g_getf d_X7_addCell_162 f_X7_25 (mget_eq rfl) rfl ?_
    refine g_lload d_X7_addCell_165 rfl ?_
    refine g_lor d_X7_addCell_167 ?_
    refine g_putL (w' := (mset (m, cw t) 103 (.inr (7, [.int (rR (tT t)), .int (rC (tT t)), .long (if c = 35 then (rO (tT t)) else ((rO (tT t)) ||| (rPl (tT t)))), .long ((rG (tT t)) ||| (rPl (tT t))), .long (rB (tT t)), .int (rP (tT t)), .int (rW (tT t)), .int (rN (tT t)), .int (rGc (tT t)), .int (rBc (tT t))])))) d_X7_addCell_168 p_X7_25 rfl rfl (mget_eq rfl) (Nat.le_of_ble_eq_true rfl) (mset_mset) ?_
    refine g_aload_n d_X7_addCell_171 rfl ?_
    refine g_dup d_X7_addCell_172 rfl ?_
    refine g_getf d_X7_addCell_173 f_X7_40 (mget_eq rfl) rfl ?_
    refine g_iconst (v := 1) d_X7_addCell_176 (by decide) ?_
    refine g_iadd d_X7_addCell_177 ?_
    refine g_putI (w' := (mset (m, cw t) 103 (.inr (7, [.int (rR (tT t)), .int (rC (tT t)), .long (if c = 35 then (rO (tT t)) else ((rO (tT t)) ||| (rPl (tT t)))), .long ((rG (tT t)) ||| (rPl (tT t))), .long (rB (tT t)), .int (rP (tT t)), .int (rW (tT t)), .int (rN (tT t)), .int ((rGc (tT t)) + 1), .int (rBc (tT t))])))) d_X7_addCell_178 p_X7_40 rfl rfl (mget_eq rfl) (Nat.le_of_ble_eq_true rfl) (mset_mset) ?_
    exact g_end (by first | rfl | (simp only [c_157, ↓reduceIte, Bool.false_eq_true, bI_t, bI_f]; done) | (simp only [c_157, ↓reduceIte, Bool.false_eq_true, bI_t, bI_f]; rfl))
theorem d_X7_addCell_181 : decode (mB M_X7_addCell) 181 = .ok (.iload_n 3, 1) := by decide +kernel
theorem d_X7_addCell_182 : decode (mB M_X7_addCell) 182 = .ok (.ifCond .eq 24, 3) := by decide +kernel
theorem d_X7_addCell_185 : decode (mB M_X7_addCell) 185 = .ok (.aload_n 0, 1) := by decide +kernel
theorem d_X7_addCell_186 : decode (mB M_X7_addCell) 186 = .ok (.dup, 1) := by decide +kernel
theorem d_X7_addCell_187 : decode (mB M_X7_addCell) 187 = .ok (.getfield 28, 3) := by decide +kernel
theorem d_X7_addCell_190 : decode (mB M_X7_addCell) 190 = .ok (.lload 5, 2) := by decide +kernel
theorem d_X7_addCell_192 : decode (mB M_X7_addCell) 192 = .ok (.lor, 1) := by decide +kernel
theorem d_X7_addCell_193 : decode (mB M_X7_addCell) 193 = .ok (.putfield 28, 3) := by decide +kernel
theorem d_X7_addCell_196 : decode (mB M_X7_addCell) 196 = .ok (.aload_n 0, 1) := by decide +kernel
theorem d_X7_addCell_197 : decode (mB M_X7_addCell) 197 = .ok (.dup, 1) := by decide +kernel
theorem d_X7_addCell_198 : decode (mB M_X7_addCell) 198 = .ok (.getfield 43, 3) := by decide +kernel
theorem d_X7_addCell_201 : decode (mB M_X7_addCell) 201 = .ok (.iconst 1, 1) := by decide +kernel
theorem d_X7_addCell_202 : decode (mB M_X7_addCell) 202 = .ok (.iadd, 1) := by decide +kernel
theorem d_X7_addCell_203 : decode (mB M_X7_addCell) 203 = .ok (.putfield 43, 3) := by decide +kernel
theorem s_add7 {E : mEnv} (hE : E.1.stackTraces = false) (m : List mE) (t : cT) (c : Int32) : Go E M_X7_addCell 0 (181, [some (.ref 103), some (.int c), some (.int (bI (gCh c))), some (.int (bI (bCh c))), some (.int (bI (pCh c))), some (.long (rPl (tT t))), none], [], (mset (m, cw t) 103 (.inr (7, [.int (rR (tT t)), .int (rC (tT t)), .long (if c = 35 then (rO (tT t)) else ((rO (tT t)) ||| (rPl (tT t)))), .long (if gCh c = true then ((rG (tT t)) ||| (rPl (tT t))) else (rG (tT t))), .long (rB (tT t)), .int (rP (tT t)), .int (rW (tT t)), .int (rN (tT t)), .int (if gCh c = true then ((rGc (tT t)) + 1) else (rGc (tT t))), .int (rBc (tT t))])))) (.inl (206, [some (.ref 103), some (.int c), some (.int (bI (gCh c))), some (.int (bI (bCh c))), some (.int (bI (pCh c))), some (.long (rPl (tT t))), none], [], (mset (m, cw t) 103 (.inr (7, [.int (rR (tT t)), .int (rC (tT t)), .long (if c = 35 then (rO (tT t)) else ((rO (tT t)) ||| (rPl (tT t)))), .long (if gCh c = true then ((rG (tT t)) ||| (rPl (tT t))) else (rG (tT t))), .long (if bCh c = true then ((rB (tT t)) ||| (rPl (tT t))) else (rB (tT t))), .int (rP (tT t)), .int (rW (tT t)), .int (rN (tT t)), .int (if gCh c = true then ((rGc (tT t)) + 1) else (rGc (tT t))), .int (if bCh c = true then ((rBc (tT t)) + 1) else (rBc (tT t)))]))))) := by
  refine g_iload_n d_X7_addCell_181 rfl ?_
  refine g_ifb_eq (tgt := 206) d_X7_addCell_182 (by decide) (fun c_182 => ?_) (fun c_182 => ?_)
  · exact g_end (by first | rfl | (simp only [c_182, ↓reduceIte, Bool.false_eq_true, bI_t, bI_f]; done) | (simp only [c_182, ↓reduceIte, Bool.false_eq_true, bI_t, bI_f]; rfl))
  · refine g_aload_n d_X7_addCell_185 rfl ?_
    refine g_dup d_X7_addCell_186 rfl ?_
    refine g_getf d_X7_addCell_187 f_X7_28 (mget_eq rfl) rfl ?_
    refine g_lload d_X7_addCell_190 rfl ?_
    refine g_lor d_X7_addCell_192 ?_
    refine g_putL (w' := (mset (m, cw t) 103 (.inr (7, [.int (rR (tT t)), .int (rC (tT t)), .long (if c = 35 then (rO (tT t)) else ((rO (tT t)) ||| (rPl (tT t)))), .long (if gCh c = true then ((rG (tT t)) ||| (rPl (tT t))) else (rG (tT t))), .long ((rB (tT t)) ||| (rPl (tT t))), .int (rP (tT t)), .int (rW (tT t)), .int (rN (tT t)), .int (if gCh c = true then ((rGc (tT t)) + 1) else (rGc (tT t))), .int (rBc (tT t))])))) d_X7_addCell_193 p_X7_28 rfl rfl (mget_eq rfl) (Nat.le_of_ble_eq_true rfl) (mset_mset) ?_
    refine g_aload_n d_X7_addCell_196 rfl ?_
    refine g_dup d_X7_addCell_197 rfl ?_
    refine g_getf d_X7_addCell_198 f_X7_43 (mget_eq rfl) rfl ?_
    refine g_iconst (v := 1) d_X7_addCell_201 (by decide) ?_
    refine g_iadd d_X7_addCell_202 ?_
    refine g_putI (w' := (mset (m, cw t) 103 (.inr (7, [.int (rR (tT t)), .int (rC (tT t)), .long (if c = 35 then (rO (tT t)) else ((rO (tT t)) ||| (rPl (tT t)))), .long (if gCh c = true then ((rG (tT t)) ||| (rPl (tT t))) else (rG (tT t))), .long ((rB (tT t)) ||| (rPl (tT t))), .int (rP (tT t)), .int (rW (tT t)), .int (rN (tT t)), .int (if gCh c = true then ((rGc (tT t)) + 1) else (rGc (tT t))), .int ((rBc (tT t)) + 1)])))) d_X7_addCell_203 p_X7_43 rfl rfl (mget_eq rfl) (Nat.le_of_ble_eq_true rfl) (mset_mset) ?_
    exact g_end (by first | rfl | (simp only [c_182, ↓reduceIte, Bool.false_eq_true, bI_t, bI_f]; done) | (simp only [c_182, ↓reduceIte, Bool.false_eq_true, bI_t, bI_f]; rfl))
theorem d_X7_addCell_206 : decode (mB M_X7_addCell) 206 = .ok (.iload 4, 2) := by decide +kernel
theorem d_X7_addCell_208 : decode (mB M_X7_addCell) 208 = .ok (.ifCond .eq 11, 3) := by decide +kernel
theorem d_X7_addCell_211 : decode (mB M_X7_addCell) 211 = .ok (.aload_n 0, 1) := by decide +kernel
theorem d_X7_addCell_212 : decode (mB M_X7_addCell) 212 = .ok (.aload_n 0, 1) := by decide +kernel
theorem d_X7_addCell_213 : decode (mB M_X7_addCell) 213 = .ok (.getfield 37, 3) := by decide +kernel
theorem d_X7_addCell_216 : decode (mB M_X7_addCell) 216 = .ok (.putfield 31, 3) := by decide +kernel
theorem s_add8 {E : mEnv} (hE : E.1.stackTraces = false) (m : List mE) (t : cT) (c : Int32) : Go E M_X7_addCell 0 (206, [some (.ref 103), some (.int c), some (.int (bI (gCh c))), some (.int (bI (bCh c))), some (.int (bI (pCh c))), some (.long (rPl (tT t))), none], [], (mset (m, cw t) 103 (.inr (7, [.int (rR (tT t)), .int (rC (tT t)), .long (if c = 35 then (rO (tT t)) else ((rO (tT t)) ||| (rPl (tT t)))), .long (if gCh c = true then ((rG (tT t)) ||| (rPl (tT t))) else (rG (tT t))), .long (if bCh c = true then ((rB (tT t)) ||| (rPl (tT t))) else (rB (tT t))), .int (rP (tT t)), .int (rW (tT t)), .int (rN (tT t)), .int (if gCh c = true then ((rGc (tT t)) + 1) else (rGc (tT t))), .int (if bCh c = true then ((rBc (tT t)) + 1) else (rBc (tT t)))])))) (.inl (219, [some (.ref 103), some (.int c), some (.int (bI (gCh c))), some (.int (bI (bCh c))), some (.int (bI (pCh c))), some (.long (rPl (tT t))), none], [], (mset (m, cw t) 103 (.inr (7, [.int (rR (tT t)), .int (rC (tT t)), .long (if c = 35 then (rO (tT t)) else ((rO (tT t)) ||| (rPl (tT t)))), .long (if gCh c = true then ((rG (tT t)) ||| (rPl (tT t))) else (rG (tT t))), .long (if bCh c = true then ((rB (tT t)) ||| (rPl (tT t))) else (rB (tT t))), .int (if pCh c = true then (rN (tT t)) else (rP (tT t))), .int (rW (tT t)), .int (rN (tT t)), .int (if gCh c = true then ((rGc (tT t)) + 1) else (rGc (tT t))), .int (if bCh c = true then ((rBc (tT t)) + 1) else (rBc (tT t)))]))))) := by
  refine g_iload d_X7_addCell_206 rfl ?_
  refine g_ifb_eq (tgt := 219) d_X7_addCell_208 (by decide) (fun c_208 => ?_) (fun c_208 => ?_)
  · exact g_end (by first | rfl | (simp only [c_208, ↓reduceIte, Bool.false_eq_true, bI_t, bI_f]; done) | (simp only [c_208, ↓reduceIte, Bool.false_eq_true, bI_t, bI_f]; rfl))
  · refine g_aload_n d_X7_addCell_211 rfl ?_
    refine g_aload_n d_X7_addCell_212 rfl ?_
    refine g_getf d_X7_addCell_213 f_X7_37 (mget_eq rfl) rfl ?_
    refine g_putI (w' := (mset (m, cw t) 103 (.inr (7, [.int (rR (tT t)), .int (rC (tT t)), .long (if c = 35 then (rO (tT t)) else ((rO (tT t)) ||| (rPl (tT t)))), .long (if gCh c = true then ((rG (tT t)) ||| (rPl (tT t))) else (rG (tT t))), .long (if bCh c = true then ((rB (tT t)) ||| (rPl (tT t))) else (rB (tT t))), .int (rN (tT t)), .int (rW (tT t)), .int (rN (tT t)), .int (if gCh c = true then ((rGc (tT t)) + 1) else (rGc (tT t))), .int (if bCh c = true then ((rBc (tT t)) + 1) else (rBc (tT t)))])))) d_X7_addCell_216 p_X7_31 rfl rfl (mget_eq rfl) (Nat.le_of_ble_eq_true rfl) (mset_mset) ?_
    exact g_end (by first | rfl | (simp only [c_208, ↓reduceIte, Bool.false_eq_true, bI_t, bI_f]; done) | (simp only [c_208, ↓reduceIte, Bool.false_eq_true, bI_t, bI_f]; rfl))
def rAddS (x : RtT) (c : Int32) : RtT := (rR x, rC x, (if c = 35 then rO x else rO x ||| rPl x), (if gCh c = true then rG x ||| rPl x else rG x), (if bCh c = true then rB x ||| rPl x else rB x), (if pCh c = true then rN x else rP x), rW x + 1, rN x + 1, (if gCh c = true then rGc x + 1 else rGc x), (if bCh c = true then rBc x + 1 else rBc x))
theorem d_X7_addCell_137 : decode (mB M_X7_addCell) 137 = .ok (.lstore 5, 2) := by decide +kernel
theorem d_X7_addCell_219 : decode (mB M_X7_addCell) 219 = .ok (.aload_n 0, 1) := by decide +kernel
theorem d_X7_addCell_220 : decode (mB M_X7_addCell) 220 = .ok (.dup, 1) := by decide +kernel
theorem d_X7_addCell_221 : decode (mB M_X7_addCell) 221 = .ok (.getfield 37, 3) := by decide +kernel
theorem d_X7_addCell_224 : decode (mB M_X7_addCell) 224 = .ok (.iconst 1, 1) := by decide +kernel
theorem d_X7_addCell_225 : decode (mB M_X7_addCell) 225 = .ok (.iadd, 1) := by decide +kernel
theorem d_X7_addCell_226 : decode (mB M_X7_addCell) 226 = .ok (.putfield 37, 3) := by decide +kernel
theorem d_X7_addCell_229 : decode (mB M_X7_addCell) 229 = .ok (.aload_n 0, 1) := by decide +kernel
theorem d_X7_addCell_230 : decode (mB M_X7_addCell) 230 = .ok (.dup, 1) := by decide +kernel
theorem d_X7_addCell_231 : decode (mB M_X7_addCell) 231 = .ok (.getfield 34, 3) := by decide +kernel
theorem d_X7_addCell_234 : decode (mB M_X7_addCell) 234 = .ok (.iconst 1, 1) := by decide +kernel
theorem d_X7_addCell_235 : decode (mB M_X7_addCell) 235 = .ok (.iadd, 1) := by decide +kernel
theorem d_X7_addCell_236 : decode (mB M_X7_addCell) 236 = .ok (.putfield 34, 3) := by decide +kernel
theorem d_X7_addCell_239 : decode (mB M_X7_addCell) 239 = .ok (.iconst 1, 1) := by decide +kernel
theorem d_X7_addCell_240 : decode (mB M_X7_addCell) 240 = .ok (.ireturn, 1) := by decide +kernel
theorem s_add9 {E : mEnv} (hE : E.1.stackTraces = false) (m : List mE) (t : cT) (c : Int32) : Go E M_X7_addCell 0 (117, [some (.ref 103), some (.int c), some (.int (bI (gCh c))), some (.int (bI (bCh c))), some (.int (bI (pCh c))), none, none], [], (m, cw t)) (.inr (.inl (some (.int 1), (m, cw (wT t (rAddS (tT t) c)))))) := by
  refine Go.trans0 (s_add4 hE m t c) ?_
  refine g_lstore (L' := [some (.ref 103), some (.int c), some (.int (bI (gCh c))), some (.int (bI (bCh c))), some (.int (bI (pCh c))), some (.long (rPl (tT t))), none]) d_X7_addCell_137 rfl rfl ?_
  refine g_eq (S' := (139, [some (.ref 103), some (.int c), some (.int (bI (gCh c))), some (.int (bI (bCh c))), some (.int (bI (pCh c))), some (.long (rPl (tT t))), none], [], (mset (m, cw t) 103 (.inr (7, [.int (rR (tT t)), .int (rC (tT t)), .long (rO (tT t)), .long (rG (tT t)), .long (rB (tT t)), .int (rP (tT t)), .int (rW (tT t)), .int (rN (tT t)), .int (rGc (tT t)), .int (rBc (tT t))]))))) rfl ?_
  refine Go.trans0 (s_add5 hE m t c) ?_
  refine Go.trans0 (s_add6 hE m t c) ?_
  refine Go.trans0 (s_add7 hE m t c) ?_
  refine Go.trans0 (s_add8 hE m t c) ?_
  refine g_aload_n d_X7_addCell_219 rfl ?_
  refine g_dup d_X7_addCell_220 rfl ?_
  refine g_getf d_X7_addCell_221 f_X7_37 (mget_eq rfl) rfl ?_
  refine g_iconst (v := 1) d_X7_addCell_224 (by decide) ?_
  refine g_iadd d_X7_addCell_225 ?_
  refine g_putI (w' := (mset (m, cw t) 103 (.inr (7, [.int (rR (tT t)), .int (rC (tT t)), .long (if c = 35 then (rO (tT t)) else ((rO (tT t)) ||| (rPl (tT t)))), .long (if gCh c = true then ((rG (tT t)) ||| (rPl (tT t))) else (rG (tT t))), .long (if bCh c = true then ((rB (tT t)) ||| (rPl (tT t))) else (rB (tT t))), .int (if pCh c = true then (rN (tT t)) else (rP (tT t))), .int (rW (tT t)), .int ((rN (tT t)) + 1), .int (if gCh c = true then ((rGc (tT t)) + 1) else (rGc (tT t))), .int (if bCh c = true then ((rBc (tT t)) + 1) else (rBc (tT t)))])))) d_X7_addCell_226 p_X7_37 rfl rfl (mget_eq rfl) (Nat.le_of_ble_eq_true rfl) (mset_mset) ?_
  refine g_aload_n d_X7_addCell_229 rfl ?_
  refine g_dup d_X7_addCell_230 rfl ?_
  refine g_getf d_X7_addCell_231 f_X7_34 (mget_eq rfl) rfl ?_
  refine g_iconst (v := 1) d_X7_addCell_234 (by decide) ?_
  refine g_iadd d_X7_addCell_235 ?_
  refine g_putI (w' := (mset (m, cw t) 103 (.inr (7, [.int (rR (tT t)), .int (rC (tT t)), .long (if c = 35 then (rO (tT t)) else ((rO (tT t)) ||| (rPl (tT t)))), .long (if gCh c = true then ((rG (tT t)) ||| (rPl (tT t))) else (rG (tT t))), .long (if bCh c = true then ((rB (tT t)) ||| (rPl (tT t))) else (rB (tT t))), .int (if pCh c = true then (rN (tT t)) else (rP (tT t))), .int ((rW (tT t)) + 1), .int ((rN (tT t)) + 1), .int (if gCh c = true then ((rGc (tT t)) + 1) else (rGc (tT t))), .int (if bCh c = true then ((rBc (tT t)) + 1) else (rBc (tT t)))])))) d_X7_addCell_236 p_X7_34 rfl rfl (mget_eq rfl) (Nat.le_of_ble_eq_true rfl) (mset_mset) ?_
  refine g_iconst (v := 1) d_X7_addCell_239 (by decide) ?_
  exact g_retZ d_X7_addCell_240 rfl (by decide) (rfl) (rfl)
/-- whether the character can stand here -/
def rAddB (x : RtT) (c : Int32) : Bool := if sIx SGN c < 0 then false else if (if rR x ≤ 0 then false else decide (rW x = rC x)) = true then false else if (if pCh c = true then !decide (rP x = -1) else false) = true then false else if (if bCh c = true then decide (rBc x = 5) else false) = true then false else true
theorem d_X7_addCell_23 : decode (mB M_X7_addCell) 23 = .ok (.istore_n 2, 1) := by decide +kernel
theorem d_X7_addCell_41 : decode (mB M_X7_addCell) 41 = .ok (.istore_n 3, 1) := by decide +kernel
theorem d_X7_addCell_59 : decode (mB M_X7_addCell) 59 = .ok (.istore 4, 2) := by decide +kernel
theorem d_X7_addCell_61 : decode (mB M_X7_addCell) 61 = .ok (.ldc 60, 2) := by decide +kernel
theorem d_X7_addCell_63 : decode (mB M_X7_addCell) 63 = .ok (.iload_n 1, 1) := by decide +kernel
theorem d_X7_addCell_64 : decode (mB M_X7_addCell) 64 = .ok (.invokevirtual 62, 3) := by decide +kernel
theorem d_X7_addCell_67 : decode (mB M_X7_addCell) 67 = .ok (.ifCond .lt 21, 3) := by decide +kernel
theorem d_X7_addCell_70 : decode (mB M_X7_addCell) 70 = .ok (.aload_n 0, 1) := by decide +kernel
theorem d_X7_addCell_71 : decode (mB M_X7_addCell) 71 = .ok (.getfield 14, 3) := by decide +kernel
theorem d_X7_addCell_74 : decode (mB M_X7_addCell) 74 = .ok (.ifCond .le 16, 3) := by decide +kernel
theorem d_X7_addCell_77 : decode (mB M_X7_addCell) 77 = .ok (.aload_n 0, 1) := by decide +kernel
theorem d_X7_addCell_78 : decode (mB M_X7_addCell) 78 = .ok (.getfield 34, 3) := by decide +kernel
theorem d_X7_addCell_81 : decode (mB M_X7_addCell) 81 = .ok (.aload_n 0, 1) := by decide +kernel
theorem d_X7_addCell_82 : decode (mB M_X7_addCell) 82 = .ok (.getfield 18, 3) := by decide +kernel
theorem d_X7_addCell_85 : decode (mB M_X7_addCell) 85 = .ok (.if_icmp .ne 5, 3) := by decide +kernel
theorem d_X7_addCell_88 : decode (mB M_X7_addCell) 88 = .ok (.iconst 0, 1) := by decide +kernel
theorem d_X7_addCell_89 : decode (mB M_X7_addCell) 89 = .ok (.ireturn, 1) := by decide +kernel
theorem d_X7_addCell_90 : decode (mB M_X7_addCell) 90 = .ok (.iload 4, 2) := by decide +kernel
theorem d_X7_addCell_92 : decode (mB M_X7_addCell) 92 = .ok (.ifCond .eq 11, 3) := by decide +kernel
theorem d_X7_addCell_95 : decode (mB M_X7_addCell) 95 = .ok (.aload_n 0, 1) := by decide +kernel
theorem d_X7_addCell_96 : decode (mB M_X7_addCell) 96 = .ok (.getfield 31, 3) := by decide +kernel
theorem d_X7_addCell_99 : decode (mB M_X7_addCell) 99 = .ok (.iconst (-1), 1) := by decide +kernel
theorem d_X7_addCell_100 : decode (mB M_X7_addCell) 100 = .ok (.if_icmp .ne 15, 3) := by decide +kernel
theorem d_X7_addCell_103 : decode (mB M_X7_addCell) 103 = .ok (.iload_n 3, 1) := by decide +kernel
theorem d_X7_addCell_104 : decode (mB M_X7_addCell) 104 = .ok (.ifCond .eq 13, 3) := by decide +kernel
theorem d_X7_addCell_107 : decode (mB M_X7_addCell) 107 = .ok (.aload_n 0, 1) := by decide +kernel
theorem d_X7_addCell_108 : decode (mB M_X7_addCell) 108 = .ok (.getfield 43, 3) := by decide +kernel
theorem d_X7_addCell_111 : decode (mB M_X7_addCell) 111 = .ok (.iconst 5, 1) := by decide +kernel
theorem d_X7_addCell_112 : decode (mB M_X7_addCell) 112 = .ok (.if_icmp .ne 5, 3) := by decide +kernel
theorem d_X7_addCell_115 : decode (mB M_X7_addCell) 115 = .ok (.iconst 0, 1) := by decide +kernel
theorem d_X7_addCell_116 : decode (mB M_X7_addCell) 116 = .ok (.ireturn, 1) := by decide +kernel
theorem c_addCell {E : mEnv} (hE : E.1.stackTraces = false) (m : List mE) (t : cT) (c : Int32) : Rt E M_X7_addCell 0 [.ref 103, .int c] ((m, cw t)) (some (.int (bI (rAddB (tT t) c)))) ((m, cw (wT t (if rAddB (tT t) c = true then rAddS (tT t) c else tT t)))) := by
  refine Rt.of hE rfl pn_X7 (Nat.le_of_ble_eq_true rfl) ?_
  refine g_eq (S' := (0, [some (.ref 103), some (.int c), none, none, none, none, none], [], (m, cw t))) rfl ?_
  refine Go.trans0 (s_add1 hE m t c) ?_
  refine g_istore_n (L' := [some (.ref 103), some (.int c), some (.int (bI (gCh c))), none, none, none, none]) d_X7_addCell_23 rfl rfl ?_
  refine Go.trans0 (s_add2 hE m t c) ?_
  refine g_istore_n (L' := [some (.ref 103), some (.int c), some (.int (bI (gCh c))), some (.int (bI (bCh c))), none, none, none]) d_X7_addCell_41 rfl rfl ?_
  refine Go.trans0 (s_add3 hE m t c) ?_
  refine g_istore (L' := [some (.ref 103), some (.int c), some (.int (bI (gCh c))), some (.int (bI (bCh c))), some (.int (bI (pCh c))), none, none]) d_X7_addCell_59 rfl rfl ?_
  refine g_ldcS (j := 0) d_X7_addCell_61 (List.mem_of_getElem? (i := 0) rfl) (List.mem_of_getElem? (i := 2) rfl) ?_
  refine g_iload_n d_X7_addCell_63 rfl ?_
  refine g_callVs (As := [.int c]) (r := 1000) d_X7_addCell_64 o_J0_indexOf_0f7a4 l_X7_62 ⟨Nat.le_of_ble_eq_true rfl, Nat.le_of_ble_eq_true rfl⟩ (c_indexOf hE _ (List.mem_of_getElem? (i := 0) rfl) _ c (by decide)) (List.mem_of_getElem? (i := 0) rfl) rfl rfl rfl rfl rfl ?_ (Nat.zero_add _)
  refine g_if_lt (tgt := 88) d_X7_addCell_67 (by decide) (fun c_67 => ?_) (fun c_67 => ?_)
  · refine g_iconst (v := 0) d_X7_addCell_88 (by decide) ?_
    exact g_retZ d_X7_addCell_89 rfl (by decide) (by simp only [rAddB, eq_true c_67, ↓reduceIte, Bool.false_eq_true, decide_true, decide_false, Bool.not_true, Bool.not_false]; try rfl) (by rw [show rAddB (tT t) c = false by simp only [rAddB, eq_true c_67, ↓reduceIte, Bool.false_eq_true, decide_true, decide_false, Bool.not_true, Bool.not_false]; try rfl]; rfl)
  · refine g_aload_n d_X7_addCell_70 rfl ?_
    refine g_getf d_X7_addCell_71 f_X7_14 rfl rfl ?_
    refine g_if_le (tgt := 90) d_X7_addCell_74 (by decide) (fun c_74 => ?_) (fun c_74 => ?_)
    · refine g_iload d_X7_addCell_90 rfl ?_
      refine g_ifb_eq (tgt := 103) d_X7_addCell_92 (by decide) (fun c_92 => ?_) (fun c_92 => ?_)
      · refine g_iload_n d_X7_addCell_103 rfl ?_
        refine g_ifb_eq (tgt := 117) d_X7_addCell_104 (by decide) (fun c_104 => ?_) (fun c_104 => ?_)
        · rw [show rAddB (tT t) c = true by (first | (simp only [rAddB, eq_false c_67, eq_true c_74, c_92, c_104, ↓reduceIte, Bool.false_eq_true, decide_true, decide_false, Bool.not_true, Bool.not_false]; done) | (simp only [rAddB, eq_false c_67, eq_true c_74, c_92, c_104, ↓reduceIte, Bool.false_eq_true, decide_true, decide_false, Bool.not_true, Bool.not_false]; rfl))]
          exact s_add9 hE m t c
        · refine g_aload_n d_X7_addCell_107 rfl ?_
          refine g_getf d_X7_addCell_108 f_X7_43 rfl rfl ?_
          refine g_iconst (v := 5) d_X7_addCell_111 (by decide) ?_
          refine g_icmp_ne (tgt := 117) d_X7_addCell_112 (by decide) (fun c_112 => ?_) (fun c_112 => ?_)
          · rw [show rAddB (tT t) c = true by (first | (simp only [rAddB, eq_false c_67, eq_true c_74, c_92, c_104, eq_false c_112, ↓reduceIte, Bool.false_eq_true, decide_true, decide_false, Bool.not_true, Bool.not_false]; done) | (simp only [rAddB, eq_false c_67, eq_true c_74, c_92, c_104, eq_false c_112, ↓reduceIte, Bool.false_eq_true, decide_true, decide_false, Bool.not_true, Bool.not_false]; rfl))]
            exact s_add9 hE m t c
          · refine g_iconst (v := 0) d_X7_addCell_115 (by decide) ?_
            exact g_retZ d_X7_addCell_116 rfl (by decide) (by simp only [rAddB, eq_false c_67, eq_true c_74, c_92, c_104, eq_true c_112, ↓reduceIte, Bool.false_eq_true, decide_true, decide_false, Bool.not_true, Bool.not_false]; try rfl) (by rw [show rAddB (tT t) c = false by simp only [rAddB, eq_false c_67, eq_true c_74, c_92, c_104, eq_true c_112, ↓reduceIte, Bool.false_eq_true, decide_true, decide_false, Bool.not_true, Bool.not_false]; try rfl]; rfl)
      · refine g_aload_n d_X7_addCell_95 rfl ?_
        refine g_getf d_X7_addCell_96 f_X7_31 rfl rfl ?_
        refine g_iconst (v := (-1)) d_X7_addCell_99 (by decide) ?_
        refine g_icmp_ne (tgt := 115) d_X7_addCell_100 (by decide) (fun c_100 => ?_) (fun c_100 => ?_)
        · refine g_iconst (v := 0) d_X7_addCell_115 (by decide) ?_
          exact g_retZ d_X7_addCell_116 rfl (by decide) (by simp only [rAddB, eq_false c_67, eq_true c_74, c_92, eq_false c_100, ↓reduceIte, Bool.false_eq_true, decide_true, decide_false, Bool.not_true, Bool.not_false]; try rfl) (by rw [show rAddB (tT t) c = false by simp only [rAddB, eq_false c_67, eq_true c_74, c_92, eq_false c_100, ↓reduceIte, Bool.false_eq_true, decide_true, decide_false, Bool.not_true, Bool.not_false]; try rfl]; rfl)
        · refine g_iload_n d_X7_addCell_103 rfl ?_
          refine g_ifb_eq (tgt := 117) d_X7_addCell_104 (by decide) (fun c_104 => ?_) (fun c_104 => ?_)
          · rw [show rAddB (tT t) c = true by (first | (simp only [rAddB, eq_false c_67, eq_true c_74, c_92, eq_true c_100, c_104, ↓reduceIte, Bool.false_eq_true, decide_true, decide_false, Bool.not_true, Bool.not_false]; done) | (simp only [rAddB, eq_false c_67, eq_true c_74, c_92, eq_true c_100, c_104, ↓reduceIte, Bool.false_eq_true, decide_true, decide_false, Bool.not_true, Bool.not_false]; rfl))]
            exact s_add9 hE m t c
          · refine g_aload_n d_X7_addCell_107 rfl ?_
            refine g_getf d_X7_addCell_108 f_X7_43 rfl rfl ?_
            refine g_iconst (v := 5) d_X7_addCell_111 (by decide) ?_
            refine g_icmp_ne (tgt := 117) d_X7_addCell_112 (by decide) (fun c_112 => ?_) (fun c_112 => ?_)
            · rw [show rAddB (tT t) c = true by (first | (simp only [rAddB, eq_false c_67, eq_true c_74, c_92, eq_true c_100, c_104, eq_false c_112, ↓reduceIte, Bool.false_eq_true, decide_true, decide_false, Bool.not_true, Bool.not_false]; done) | (simp only [rAddB, eq_false c_67, eq_true c_74, c_92, eq_true c_100, c_104, eq_false c_112, ↓reduceIte, Bool.false_eq_true, decide_true, decide_false, Bool.not_true, Bool.not_false]; rfl))]
              exact s_add9 hE m t c
            · refine g_iconst (v := 0) d_X7_addCell_115 (by decide) ?_
              exact g_retZ d_X7_addCell_116 rfl (by decide) (by simp only [rAddB, eq_false c_67, eq_true c_74, c_92, eq_true c_100, c_104, eq_true c_112, ↓reduceIte, Bool.false_eq_true, decide_true, decide_false, Bool.not_true, Bool.not_false]; try rfl) (by rw [show rAddB (tT t) c = false by simp only [rAddB, eq_false c_67, eq_true c_74, c_92, eq_true c_100, c_104, eq_true c_112, ↓reduceIte, Bool.false_eq_true, decide_true, decide_false, Bool.not_true, Bool.not_false]; try rfl]; rfl)
    · refine g_aload_n d_X7_addCell_77 rfl ?_
      refine g_getf d_X7_addCell_78 f_X7_34 rfl rfl ?_
      refine g_aload_n d_X7_addCell_81 rfl ?_
      refine g_getf d_X7_addCell_82 f_X7_18 rfl rfl ?_
      refine g_icmp_ne (tgt := 90) d_X7_addCell_85 (by decide) (fun c_85 => ?_) (fun c_85 => ?_)
      · refine g_iload d_X7_addCell_90 rfl ?_
        refine g_ifb_eq (tgt := 103) d_X7_addCell_92 (by decide) (fun c_92 => ?_) (fun c_92 => ?_)
        · refine g_iload_n d_X7_addCell_103 rfl ?_
          refine g_ifb_eq (tgt := 117) d_X7_addCell_104 (by decide) (fun c_104 => ?_) (fun c_104 => ?_)
          · rw [show rAddB (tT t) c = true by (first | (simp only [rAddB, eq_false c_67, eq_false c_74, eq_false c_85, c_92, c_104, ↓reduceIte, Bool.false_eq_true, decide_true, decide_false, Bool.not_true, Bool.not_false]; done) | (simp only [rAddB, eq_false c_67, eq_false c_74, eq_false c_85, c_92, c_104, ↓reduceIte, Bool.false_eq_true, decide_true, decide_false, Bool.not_true, Bool.not_false]; rfl))]
            exact s_add9 hE m t c
          · refine g_aload_n d_X7_addCell_107 rfl ?_
            refine g_getf d_X7_addCell_108 f_X7_43 rfl rfl ?_
            refine g_iconst (v := 5) d_X7_addCell_111 (by decide) ?_
            refine g_icmp_ne (tgt := 117) d_X7_addCell_112 (by decide) (fun c_112 => ?_) (fun c_112 => ?_)
            · rw [show rAddB (tT t) c = true by (first | (simp only [rAddB, eq_false c_67, eq_false c_74, eq_false c_85, c_92, c_104, eq_false c_112, ↓reduceIte, Bool.false_eq_true, decide_true, decide_false, Bool.not_true, Bool.not_false]; done) | (simp only [rAddB, eq_false c_67, eq_false c_74, eq_false c_85, c_92, c_104, eq_false c_112, ↓reduceIte, Bool.false_eq_true, decide_true, decide_false, Bool.not_true, Bool.not_false]; rfl))]
              exact s_add9 hE m t c
            · refine g_iconst (v := 0) d_X7_addCell_115 (by decide) ?_
              exact g_retZ d_X7_addCell_116 rfl (by decide) (by simp only [rAddB, eq_false c_67, eq_false c_74, eq_false c_85, c_92, c_104, eq_true c_112, ↓reduceIte, Bool.false_eq_true, decide_true, decide_false, Bool.not_true, Bool.not_false]; try rfl) (by rw [show rAddB (tT t) c = false by simp only [rAddB, eq_false c_67, eq_false c_74, eq_false c_85, c_92, c_104, eq_true c_112, ↓reduceIte, Bool.false_eq_true, decide_true, decide_false, Bool.not_true, Bool.not_false]; try rfl]; rfl)
        · refine g_aload_n d_X7_addCell_95 rfl ?_
          refine g_getf d_X7_addCell_96 f_X7_31 rfl rfl ?_
          refine g_iconst (v := (-1)) d_X7_addCell_99 (by decide) ?_
          refine g_icmp_ne (tgt := 115) d_X7_addCell_100 (by decide) (fun c_100 => ?_) (fun c_100 => ?_)
          · refine g_iconst (v := 0) d_X7_addCell_115 (by decide) ?_
            exact g_retZ d_X7_addCell_116 rfl (by decide) (by simp only [rAddB, eq_false c_67, eq_false c_74, eq_false c_85, c_92, eq_false c_100, ↓reduceIte, Bool.false_eq_true, decide_true, decide_false, Bool.not_true, Bool.not_false]; try rfl) (by rw [show rAddB (tT t) c = false by simp only [rAddB, eq_false c_67, eq_false c_74, eq_false c_85, c_92, eq_false c_100, ↓reduceIte, Bool.false_eq_true, decide_true, decide_false, Bool.not_true, Bool.not_false]; try rfl]; rfl)
          · refine g_iload_n d_X7_addCell_103 rfl ?_
            refine g_ifb_eq (tgt := 117) d_X7_addCell_104 (by decide) (fun c_104 => ?_) (fun c_104 => ?_)
            · rw [show rAddB (tT t) c = true by (first | (simp only [rAddB, eq_false c_67, eq_false c_74, eq_false c_85, c_92, eq_true c_100, c_104, ↓reduceIte, Bool.false_eq_true, decide_true, decide_false, Bool.not_true, Bool.not_false]; done) | (simp only [rAddB, eq_false c_67, eq_false c_74, eq_false c_85, c_92, eq_true c_100, c_104, ↓reduceIte, Bool.false_eq_true, decide_true, decide_false, Bool.not_true, Bool.not_false]; rfl))]
              exact s_add9 hE m t c
            · refine g_aload_n d_X7_addCell_107 rfl ?_
              refine g_getf d_X7_addCell_108 f_X7_43 rfl rfl ?_
              refine g_iconst (v := 5) d_X7_addCell_111 (by decide) ?_
              refine g_icmp_ne (tgt := 117) d_X7_addCell_112 (by decide) (fun c_112 => ?_) (fun c_112 => ?_)
              · rw [show rAddB (tT t) c = true by (first | (simp only [rAddB, eq_false c_67, eq_false c_74, eq_false c_85, c_92, eq_true c_100, c_104, eq_false c_112, ↓reduceIte, Bool.false_eq_true, decide_true, decide_false, Bool.not_true, Bool.not_false]; done) | (simp only [rAddB, eq_false c_67, eq_false c_74, eq_false c_85, c_92, eq_true c_100, c_104, eq_false c_112, ↓reduceIte, Bool.false_eq_true, decide_true, decide_false, Bool.not_true, Bool.not_false]; rfl))]
                exact s_add9 hE m t c
              · refine g_iconst (v := 0) d_X7_addCell_115 (by decide) ?_
                exact g_retZ d_X7_addCell_116 rfl (by decide) (by simp only [rAddB, eq_false c_67, eq_false c_74, eq_false c_85, c_92, eq_true c_100, c_104, eq_true c_112, ↓reduceIte, Bool.false_eq_true, decide_true, decide_false, Bool.not_true, Bool.not_false]; try rfl) (by rw [show rAddB (tT t) c = false by simp only [rAddB, eq_false c_67, eq_false c_74, eq_false c_85, c_92, eq_true c_100, c_104, eq_true c_112, ↓reduceIte, Bool.false_eq_true, decide_true, decide_false, Bool.not_true, Bool.not_false]; try rfl]; rfl)
      · refine g_iconst (v := 0) d_X7_addCell_88 (by decide) ?_
        exact g_retZ d_X7_addCell_89 rfl (by decide) (by simp only [rAddB, eq_false c_67, eq_false c_74, eq_true c_85, ↓reduceIte, Bool.false_eq_true, decide_true, decide_false, Bool.not_true, Bool.not_false]; try rfl) (by rw [show rAddB (tT t) c = false by simp only [rAddB, eq_false c_67, eq_false c_74, eq_true c_85, ↓reduceIte, Bool.false_eq_true, decide_true, decide_false, Bool.not_true, Bool.not_false]; try rfl]; rfl)
