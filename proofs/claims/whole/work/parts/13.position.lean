/-! Position -/
abbrev pcell (r : Nat) (b : Int64) (a : Int32) : mE := .inr (6, [.ref r, .long b, .int a])
theorem d_X6_isSolved_0 : decode (mB M_X6_isSolved) 0 = .ok (.aload_n 0, 1) := by decide +kernel
theorem d_X6_isSolved_1 : decode (mB M_X6_isSolved) 1 = .ok (.getfield 15, 3) := by decide +kernel
theorem d_X6_isSolved_4 : decode (mB M_X6_isSolved) 4 = .ok (.aload_n 0, 1) := by decide +kernel
theorem d_X6_isSolved_5 : decode (mB M_X6_isSolved) 5 = .ok (.getfield 9, 3) := by decide +kernel
theorem d_X6_isSolved_8 : decode (mB M_X6_isSolved) 8 = .ok (.getfield 23, 3) := by decide +kernel
theorem d_X6_isSolved_11 : decode (mB M_X6_isSolved) 11 = .ok (.ldc2_w 28, 3) := by decide +kernel
theorem d_X6_isSolved_14 : decode (mB M_X6_isSolved) 14 = .ok (.lxor, 1) := by decide +kernel
theorem d_X6_isSolved_15 : decode (mB M_X6_isSolved) 15 = .ok (.land, 1) := by decide +kernel
theorem d_X6_isSolved_16 : decode (mB M_X6_isSolved) 16 = .ok (.lconst 0, 1) := by decide +kernel
theorem d_X6_isSolved_17 : decode (mB M_X6_isSolved) 17 = .ok (.lcmp, 1) := by decide +kernel
theorem d_X6_isSolved_18 : decode (mB M_X6_isSolved) 18 = .ok (.ifCond .ne 7, 3) := by decide +kernel
theorem d_X6_isSolved_21 : decode (mB M_X6_isSolved) 21 = .ok (.iconst 1, 1) := by decide +kernel
theorem d_X6_isSolved_22 : decode (mB M_X6_isSolved) 22 = .ok (.goto 4, 3) := by decide +kernel
theorem d_X6_isSolved_25 : decode (mB M_X6_isSolved) 25 = .ok (.iconst 0, 1) := by decide +kernel
theorem d_X6_isSolved_26 : decode (mB M_X6_isSolved) 26 = .ok (.ireturn, 1) := by decide +kernel
theorem c_isSolved {E : mEnv} (hE : E.1.stackTraces = false) (p r : Nat) (g : gT) (b : Int64) (a : Int32) (w : mW) (hp : mget w p = some (pcell r b a)) (hg : mget w r = some (gcell g))  : Rt E M_X6_isSolved 0 [.ref p] w (some (.int (bI (decide (b &&& (gG g ^^^ (-1)) = 0))))) w := by
  refine Rt.of hE rfl pn_X6 (Nat.le_of_ble_eq_true rfl) ?_
  refine g_eq (S' := (0, [some (.ref p)], [], w)) rfl ?_
  refine g_aload_n d_X6_isSolved_0 rfl ?_
  refine g_getf d_X6_isSolved_1 f_X6_15 hp rfl ?_
  refine g_aload_n d_X6_isSolved_4 rfl ?_
  refine g_getf d_X6_isSolved_5 f_X6_9 hp rfl ?_
  refine g_getf d_X6_isSolved_8 f_X6_23 hg rfl ?_
  refine g_ldc2 (v := (-1)) d_X6_isSolved_11 k_X6_28 ?_
  refine g_lxor d_X6_isSolved_14 ?_
  refine g_land d_X6_isSolved_15 ?_
  refine g_lconst (v := 0) d_X6_isSolved_16 (by decide) ?_
  refine g_lcmp_ne (tgt := 25) d_X6_isSolved_17 d_X6_isSolved_18 (by decide) (fun c_17 => ?_) (fun c_17 => ?_)
  · refine g_iconst (v := 0) d_X6_isSolved_25 (by decide) ?_
    exact g_retZ d_X6_isSolved_26 rfl (by decide) (by simp_all [bI]) (rfl)
  · refine g_iconst (v := 1) d_X6_isSolved_21 (by decide) ?_
    refine g_goto (tgt := 26) d_X6_isSolved_22 (by decide) ?_
    exact g_retZ d_X6_isSolved_26 rfl (by decide) (by simp_all [bI]) (rfl)
def pFr (g : gT) (b : Int64) : Int64 := gO g &&& (b ^^^ (-1))
theorem d_X6_free_0 : decode (mB M_X6_free) 0 = .ok (.aload_n 0, 1) := by decide +kernel
theorem d_X6_free_1 : decode (mB M_X6_free) 1 = .ok (.getfield 9, 3) := by decide +kernel
theorem d_X6_free_4 : decode (mB M_X6_free) 4 = .ok (.getfield 30, 3) := by decide +kernel
theorem d_X6_free_7 : decode (mB M_X6_free) 7 = .ok (.aload_n 0, 1) := by decide +kernel
theorem d_X6_free_8 : decode (mB M_X6_free) 8 = .ok (.getfield 15, 3) := by decide +kernel
theorem d_X6_free_11 : decode (mB M_X6_free) 11 = .ok (.ldc2_w 28, 3) := by decide +kernel
theorem d_X6_free_14 : decode (mB M_X6_free) 14 = .ok (.lxor, 1) := by decide +kernel
theorem d_X6_free_15 : decode (mB M_X6_free) 15 = .ok (.land, 1) := by decide +kernel
theorem d_X6_free_16 : decode (mB M_X6_free) 16 = .ok (.lreturn, 1) := by decide +kernel
theorem c_free {E : mEnv} (hE : E.1.stackTraces = false) (p r : Nat) (g : gT) (b : Int64) (a : Int32) (w : mW) (hp : mget w p = some (pcell r b a)) (hg : mget w r = some (gcell g))  : Rt E M_X6_free 0 [.ref p] w (some (.long (pFr g b))) w := by
  refine Rt.of hE rfl pn_X6 (Nat.le_of_ble_eq_true rfl) ?_
  refine g_eq (S' := (0, [some (.ref p)], [], w)) rfl ?_
  refine g_aload_n d_X6_free_0 rfl ?_
  refine g_getf d_X6_free_1 f_X6_9 hp rfl ?_
  refine g_getf d_X6_free_4 f_X6_30 hg rfl ?_
  refine g_aload_n d_X6_free_7 rfl ?_
  refine g_getf d_X6_free_8 f_X6_15 hp rfl ?_
  refine g_ldc2 (v := (-1)) d_X6_free_11 k_X6_28 ?_
  refine g_lxor d_X6_free_14 ?_
  refine g_land d_X6_free_15 ?_
  exact g_retL d_X6_free_16 rfl (rfl) (rfl)
def pAr (g : gT) (b : Int64) (a : Int32) : Int64 := gSp g (jshl 1 a) (pFr g b)
theorem d_X6_area_0 : decode (mB M_X6_area) 0 = .ok (.aload_n 0, 1) := by decide +kernel
theorem d_X6_area_1 : decode (mB M_X6_area) 1 = .ok (.getfield 9, 3) := by decide +kernel
theorem d_X6_area_4 : decode (mB M_X6_area) 4 = .ok (.aload_n 0, 1) := by decide +kernel
theorem d_X6_area_5 : decode (mB M_X6_area) 5 = .ok (.getfield 19, 3) := by decide +kernel
theorem d_X6_area_8 : decode (mB M_X6_area) 8 = .ok (.invokestatic 33, 3) := by decide +kernel
theorem d_X6_area_11 : decode (mB M_X6_area) 11 = .ok (.aload_n 0, 1) := by decide +kernel
theorem d_X6_area_12 : decode (mB M_X6_area) 12 = .ok (.invokevirtual 37, 3) := by decide +kernel
theorem d_X6_area_15 : decode (mB M_X6_area) 15 = .ok (.invokevirtual 41, 3) := by decide +kernel
theorem d_X6_area_18 : decode (mB M_X6_area) 18 = .ok (.lreturn, 1) := by decide +kernel
theorem c_area {E : mEnv} (hE : E.1.stackTraces = false) (p r : Nat) (g : gT) (b : Int64) (a : Int32) (w : mW) (hp : mget w p = some (pcell r b a)) (hg : mget w r = some (gcell g))  : Rt E M_X6_area 0 [.ref p] w (some (.long (pAr g b a))) w := by
  refine Rt.of hE rfl pn_X6 (Nat.le_of_ble_eq_true rfl) ?_
  refine g_eq (S' := (0, [some (.ref p)], [], w)) rfl ?_
  refine g_aload_n d_X6_area_0 rfl ?_
  refine g_getf d_X6_area_1 f_X6_9 hp rfl ?_
  refine g_aload_n d_X6_area_4 rfl ?_
  refine g_getf d_X6_area_5 f_X6_19 hp rfl ?_
  refine g_callN (As := [.int a]) d_X6_area_8 o_X11_bit n_X6_33 ⟨Nat.le_of_ble_eq_true rfl, Nat.le_of_ble_eq_true rfl⟩ (c_bit hE a _) rfl rfl ?_ (Nat.zero_add _)
  refine g_aload_n d_X6_area_11 rfl ?_
  refine g_callV (As := []) d_X6_area_12 o_X6_free l_X6_37 ⟨Nat.le_of_ble_eq_true rfl, Nat.le_of_ble_eq_true rfl⟩ (c_free hE p r g b a _ hp hg ) hp rfl rfl rfl rfl rfl ?_ (Nat.zero_add _)
  refine g_callV (As := [.long (jshl 1 a), .long (pFr g b)]) d_X6_area_15 o_X2_spread l_X6_41 ⟨Nat.le_of_ble_eq_true rfl, Nat.le_of_ble_eq_true rfl⟩ (c_spread hE r g _ hg (jshl 1 a) (pFr g b)) hg rfl rfl rfl rfl rfl ?_ (Nat.zero_add _)
  exact g_retL d_X6_area_18 rfl (rfl) (rfl)
def pAh (g : gT) (a d : Int32) : Int64 := gMv g (jshl 1 a) d
theorem d_X6_ahead_0 : decode (mB M_X6_ahead) 0 = .ok (.aload_n 0, 1) := by decide +kernel
theorem d_X6_ahead_1 : decode (mB M_X6_ahead) 1 = .ok (.getfield 9, 3) := by decide +kernel
theorem d_X6_ahead_4 : decode (mB M_X6_ahead) 4 = .ok (.aload_n 0, 1) := by decide +kernel
theorem d_X6_ahead_5 : decode (mB M_X6_ahead) 5 = .ok (.getfield 19, 3) := by decide +kernel
theorem d_X6_ahead_8 : decode (mB M_X6_ahead) 8 = .ok (.invokestatic 33, 3) := by decide +kernel
theorem d_X6_ahead_11 : decode (mB M_X6_ahead) 11 = .ok (.iload_n 1, 1) := by decide +kernel
theorem d_X6_ahead_12 : decode (mB M_X6_ahead) 12 = .ok (.invokevirtual 45, 3) := by decide +kernel
theorem d_X6_ahead_15 : decode (mB M_X6_ahead) 15 = .ok (.lreturn, 1) := by decide +kernel
theorem c_ahead {E : mEnv} (hE : E.1.stackTraces = false) (p r : Nat) (g : gT) (b : Int64) (a : Int32) (w : mW) (hp : mget w p = some (pcell r b a)) (hg : mget w r = some (gcell g)) (d : Int32) : Rt E M_X6_ahead 0 [.ref p, .int d] w (some (.long (pAh g a d))) w := by
  refine Rt.of hE rfl pn_X6 (Nat.le_of_ble_eq_true rfl) ?_
  refine g_eq (S' := (0, [some (.ref p), some (.int d)], [], w)) rfl ?_
  refine g_aload_n d_X6_ahead_0 rfl ?_
  refine g_getf d_X6_ahead_1 f_X6_9 hp rfl ?_
  refine g_aload_n d_X6_ahead_4 rfl ?_
  refine g_getf d_X6_ahead_5 f_X6_19 hp rfl ?_
  refine g_callN (As := [.int a]) d_X6_ahead_8 o_X11_bit n_X6_33 ⟨Nat.le_of_ble_eq_true rfl, Nat.le_of_ble_eq_true rfl⟩ (c_bit hE a _) rfl rfl ?_ (Nat.zero_add _)
  refine g_iload_n d_X6_ahead_11 rfl ?_
  refine g_callV (As := [.long (jshl 1 a), .int d]) d_X6_ahead_12 o_X2_moved l_X6_45 ⟨Nat.le_of_ble_eq_true rfl, Nat.le_of_ble_eq_true rfl⟩ (c_moved hE r g _ hg (jshl 1 a) d) hg rfl rfl rfl rfl rfl ?_ (Nat.zero_add _)
  exact g_retL d_X6_ahead_15 rfl (rfl) (rfl)
def pBr (g : gT) (b x : Int64) (d : Int32) : Int32 := if gMv g x d = 0 then 2 else if gMv g x d &&& b = 0 then 0 else 3
theorem d_X6_boxReason_0 : decode (mB M_X6_boxReason) 0 = .ok (.aload_n 0, 1) := by decide +kernel
theorem d_X6_boxReason_1 : decode (mB M_X6_boxReason) 1 = .ok (.getfield 9, 3) := by decide +kernel
theorem d_X6_boxReason_4 : decode (mB M_X6_boxReason) 4 = .ok (.lload_n 1, 1) := by decide +kernel
theorem d_X6_boxReason_5 : decode (mB M_X6_boxReason) 5 = .ok (.iload_n 3, 1) := by decide +kernel
theorem d_X6_boxReason_6 : decode (mB M_X6_boxReason) 6 = .ok (.invokevirtual 45, 3) := by decide +kernel
theorem d_X6_boxReason_9 : decode (mB M_X6_boxReason) 9 = .ok (.lstore 4, 2) := by decide +kernel
theorem d_X6_boxReason_11 : decode (mB M_X6_boxReason) 11 = .ok (.lload 4, 2) := by decide +kernel
theorem d_X6_boxReason_13 : decode (mB M_X6_boxReason) 13 = .ok (.lconst 0, 1) := by decide +kernel
theorem d_X6_boxReason_14 : decode (mB M_X6_boxReason) 14 = .ok (.lcmp, 1) := by decide +kernel
theorem d_X6_boxReason_15 : decode (mB M_X6_boxReason) 15 = .ok (.ifCond .ne 5, 3) := by decide +kernel
theorem d_X6_boxReason_18 : decode (mB M_X6_boxReason) 18 = .ok (.iconst 2, 1) := by decide +kernel
theorem d_X6_boxReason_19 : decode (mB M_X6_boxReason) 19 = .ok (.ireturn, 1) := by decide +kernel
theorem d_X6_boxReason_20 : decode (mB M_X6_boxReason) 20 = .ok (.lload 4, 2) := by decide +kernel
theorem d_X6_boxReason_22 : decode (mB M_X6_boxReason) 22 = .ok (.aload_n 0, 1) := by decide +kernel
theorem d_X6_boxReason_23 : decode (mB M_X6_boxReason) 23 = .ok (.getfield 15, 3) := by decide +kernel
theorem d_X6_boxReason_26 : decode (mB M_X6_boxReason) 26 = .ok (.land, 1) := by decide +kernel
theorem d_X6_boxReason_27 : decode (mB M_X6_boxReason) 27 = .ok (.lconst 0, 1) := by decide +kernel
theorem d_X6_boxReason_28 : decode (mB M_X6_boxReason) 28 = .ok (.lcmp, 1) := by decide +kernel
theorem d_X6_boxReason_29 : decode (mB M_X6_boxReason) 29 = .ok (.ifCond .ne 7, 3) := by decide +kernel
theorem d_X6_boxReason_32 : decode (mB M_X6_boxReason) 32 = .ok (.iconst 0, 1) := by decide +kernel
theorem d_X6_boxReason_33 : decode (mB M_X6_boxReason) 33 = .ok (.goto 4, 3) := by decide +kernel
theorem d_X6_boxReason_36 : decode (mB M_X6_boxReason) 36 = .ok (.iconst 3, 1) := by decide +kernel
theorem d_X6_boxReason_37 : decode (mB M_X6_boxReason) 37 = .ok (.ireturn, 1) := by decide +kernel
theorem c_boxReason {E : mEnv} (hE : E.1.stackTraces = false) (p r : Nat) (g : gT) (b : Int64) (a : Int32) (w : mW) (hp : mget w p = some (pcell r b a)) (hg : mget w r = some (gcell g)) (x : Int64) (d : Int32) : Rt E M_X6_boxReason 0 [.ref p, .long x, .int d] w (some (.int (pBr g b x d))) w := by
  refine Rt.of hE rfl pn_X6 (Nat.le_of_ble_eq_true rfl) ?_
  refine g_eq (S' := (0, [some (.ref p), some (.long x), none, some (.int d), none, none], [], w)) rfl ?_
  refine g_aload_n d_X6_boxReason_0 rfl ?_
  refine g_getf d_X6_boxReason_1 f_X6_9 hp rfl ?_
  refine g_lload_n d_X6_boxReason_4 rfl ?_
  refine g_iload_n d_X6_boxReason_5 rfl ?_
  refine g_callV (As := [.long x, .int d]) d_X6_boxReason_6 o_X2_moved l_X6_45 ⟨Nat.le_of_ble_eq_true rfl, Nat.le_of_ble_eq_true rfl⟩ (c_moved hE r g _ hg x d) hg rfl rfl rfl rfl rfl ?_ (Nat.zero_add _)
  refine g_lstore (L' := [some (.ref p), some (.long x), none, some (.int d), some (.long (gMv g x d)), none]) d_X6_boxReason_9 rfl rfl ?_
  refine g_lload d_X6_boxReason_11 rfl ?_
  refine g_lconst (v := 0) d_X6_boxReason_13 (by decide) ?_
  refine g_lcmp_ne (tgt := 20) d_X6_boxReason_14 d_X6_boxReason_15 (by decide) (fun c_14 => ?_) (fun c_14 => ?_)
  · refine g_lload d_X6_boxReason_20 rfl ?_
    refine g_aload_n d_X6_boxReason_22 rfl ?_
    refine g_getf d_X6_boxReason_23 f_X6_15 hp rfl ?_
    refine g_land d_X6_boxReason_26 ?_
    refine g_lconst (v := 0) d_X6_boxReason_27 (by decide) ?_
    refine g_lcmp_ne (tgt := 36) d_X6_boxReason_28 d_X6_boxReason_29 (by decide) (fun c_28 => ?_) (fun c_28 => ?_)
    · refine g_iconst (v := 3) d_X6_boxReason_36 (by decide) ?_
      exact g_retI d_X6_boxReason_37 rfl (by simp only [pBr, eq_false c_14, eq_false c_28, ↓reduceIte, Bool.false_eq_true]) (rfl)
    · refine g_iconst (v := 0) d_X6_boxReason_32 (by decide) ?_
      refine g_goto (tgt := 37) d_X6_boxReason_33 (by decide) ?_
      exact g_retI d_X6_boxReason_37 rfl (by simp only [pBr, eq_false c_14, eq_true c_28, ↓reduceIte, Bool.false_eq_true]) (rfl)
  · refine g_iconst (v := 2) d_X6_boxReason_18 (by decide) ?_
    exact g_retI d_X6_boxReason_19 rfl (by simp only [pBr, eq_true c_14, ↓reduceIte, Bool.false_eq_true]) (rfl)
def pSr (g : gT) (b : Int64) (a d : Int32) : Int32 := if pAh g a d = 0 then 1 else if pAh g a d &&& b = 0 then 0 else pBr g b (pAh g a d) d
theorem d_X6_stepReason_0 : decode (mB M_X6_stepReason) 0 = .ok (.aload_n 0, 1) := by decide +kernel
theorem d_X6_stepReason_1 : decode (mB M_X6_stepReason) 1 = .ok (.iload_n 1, 1) := by decide +kernel
theorem d_X6_stepReason_2 : decode (mB M_X6_stepReason) 2 = .ok (.invokevirtual 49, 3) := by decide +kernel
theorem d_X6_stepReason_5 : decode (mB M_X6_stepReason) 5 = .ok (.lstore_n 2, 1) := by decide +kernel
theorem d_X6_stepReason_6 : decode (mB M_X6_stepReason) 6 = .ok (.lload_n 2, 1) := by decide +kernel
theorem d_X6_stepReason_7 : decode (mB M_X6_stepReason) 7 = .ok (.lconst 0, 1) := by decide +kernel
theorem d_X6_stepReason_8 : decode (mB M_X6_stepReason) 8 = .ok (.lcmp, 1) := by decide +kernel
theorem d_X6_stepReason_9 : decode (mB M_X6_stepReason) 9 = .ok (.ifCond .ne 5, 3) := by decide +kernel
theorem d_X6_stepReason_12 : decode (mB M_X6_stepReason) 12 = .ok (.iconst 1, 1) := by decide +kernel
theorem d_X6_stepReason_13 : decode (mB M_X6_stepReason) 13 = .ok (.ireturn, 1) := by decide +kernel
theorem d_X6_stepReason_14 : decode (mB M_X6_stepReason) 14 = .ok (.lload_n 2, 1) := by decide +kernel
theorem d_X6_stepReason_15 : decode (mB M_X6_stepReason) 15 = .ok (.aload_n 0, 1) := by decide +kernel
theorem d_X6_stepReason_16 : decode (mB M_X6_stepReason) 16 = .ok (.getfield 15, 3) := by decide +kernel
theorem d_X6_stepReason_19 : decode (mB M_X6_stepReason) 19 = .ok (.land, 1) := by decide +kernel
theorem d_X6_stepReason_20 : decode (mB M_X6_stepReason) 20 = .ok (.lconst 0, 1) := by decide +kernel
theorem d_X6_stepReason_21 : decode (mB M_X6_stepReason) 21 = .ok (.lcmp, 1) := by decide +kernel
theorem d_X6_stepReason_22 : decode (mB M_X6_stepReason) 22 = .ok (.ifCond .ne 7, 3) := by decide +kernel
theorem d_X6_stepReason_25 : decode (mB M_X6_stepReason) 25 = .ok (.iconst 0, 1) := by decide +kernel
theorem d_X6_stepReason_26 : decode (mB M_X6_stepReason) 26 = .ok (.goto 9, 3) := by decide +kernel
theorem d_X6_stepReason_29 : decode (mB M_X6_stepReason) 29 = .ok (.aload_n 0, 1) := by decide +kernel
theorem d_X6_stepReason_30 : decode (mB M_X6_stepReason) 30 = .ok (.lload_n 2, 1) := by decide +kernel
theorem d_X6_stepReason_31 : decode (mB M_X6_stepReason) 31 = .ok (.iload_n 1, 1) := by decide +kernel
theorem d_X6_stepReason_32 : decode (mB M_X6_stepReason) 32 = .ok (.invokevirtual 52, 3) := by decide +kernel
theorem d_X6_stepReason_35 : decode (mB M_X6_stepReason) 35 = .ok (.ireturn, 1) := by decide +kernel
theorem c_stepReason {E : mEnv} (hE : E.1.stackTraces = false) (p r : Nat) (g : gT) (b : Int64) (a : Int32) (w : mW) (hp : mget w p = some (pcell r b a)) (hg : mget w r = some (gcell g)) (d : Int32) : Rt E M_X6_stepReason 0 [.ref p, .int d] w (some (.int (pSr g b a d))) w := by
  refine Rt.of hE rfl pn_X6 (Nat.le_of_ble_eq_true rfl) ?_
  refine g_eq (S' := (0, [some (.ref p), some (.int d), none, none], [], w)) rfl ?_
  refine g_aload_n d_X6_stepReason_0 rfl ?_
  refine g_iload_n d_X6_stepReason_1 rfl ?_
  refine g_callV (As := [.int d]) d_X6_stepReason_2 o_X6_ahead l_X6_49 ⟨Nat.le_of_ble_eq_true rfl, Nat.le_of_ble_eq_true rfl⟩ (c_ahead hE p r g b a _ hp hg d) hp rfl rfl rfl rfl rfl ?_ (Nat.zero_add _)
  refine g_lstore_n (L' := [some (.ref p), some (.int d), some (.long (pAh g a d)), none]) d_X6_stepReason_5 rfl rfl ?_
  refine g_lload_n d_X6_stepReason_6 rfl ?_
  refine g_lconst (v := 0) d_X6_stepReason_7 (by decide) ?_
  refine g_lcmp_ne (tgt := 14) d_X6_stepReason_8 d_X6_stepReason_9 (by decide) (fun c_8 => ?_) (fun c_8 => ?_)
  · refine g_lload_n d_X6_stepReason_14 rfl ?_
    refine g_aload_n d_X6_stepReason_15 rfl ?_
    refine g_getf d_X6_stepReason_16 f_X6_15 hp rfl ?_
    refine g_land d_X6_stepReason_19 ?_
    refine g_lconst (v := 0) d_X6_stepReason_20 (by decide) ?_
    refine g_lcmp_ne (tgt := 29) d_X6_stepReason_21 d_X6_stepReason_22 (by decide) (fun c_21 => ?_) (fun c_21 => ?_)
    · refine g_aload_n d_X6_stepReason_29 rfl ?_
      refine g_lload_n d_X6_stepReason_30 rfl ?_
      refine g_iload_n d_X6_stepReason_31 rfl ?_
      refine g_callV (As := [.long (pAh g a d), .int d]) d_X6_stepReason_32 o_X6_boxReason l_X6_52 ⟨Nat.le_of_ble_eq_true rfl, Nat.le_of_ble_eq_true rfl⟩ (c_boxReason hE p r g b a _ hp hg (pAh g a d) d) hp rfl rfl rfl rfl rfl ?_ (Nat.zero_add _)
      exact g_retI d_X6_stepReason_35 rfl (by simp only [pSr, eq_false c_8, eq_false c_21, ↓reduceIte, Bool.false_eq_true]) (rfl)
    · refine g_iconst (v := 0) d_X6_stepReason_25 (by decide) ?_
      refine g_goto (tgt := 35) d_X6_stepReason_26 (by decide) ?_
      exact g_retI d_X6_stepReason_35 rfl (by simp only [pSr, eq_false c_8, eq_true c_21, ↓reduceIte, Bool.false_eq_true]) (rfl)
  · refine g_iconst (v := 1) d_X6_stepReason_12 (by decide) ?_
    exact g_retI d_X6_stepReason_13 rfl (by simp only [pSr, eq_true c_8, ↓reduceIte, Bool.false_eq_true]) (rfl)
def pSd (g : gT) (a q d : Int32) : Int32 := if q = 2 then lowF (pAh g a d) else if q = 3 then lowF (gMv g (pAh g a d) d) else a
theorem d_X6_stepDetail_0 : decode (mB M_X6_stepDetail) 0 = .ok (.iload_n 1, 1) := by decide +kernel
theorem d_X6_stepDetail_1 : decode (mB M_X6_stepDetail) 1 = .ok (.lookupswitch 53 #[(2, 27), (3, 36)], 27) := by decide +kernel
theorem d_X6_stepDetail_28 : decode (mB M_X6_stepDetail) 28 = .ok (.aload_n 0, 1) := by decide +kernel
theorem d_X6_stepDetail_29 : decode (mB M_X6_stepDetail) 29 = .ok (.iload_n 2, 1) := by decide +kernel
theorem d_X6_stepDetail_30 : decode (mB M_X6_stepDetail) 30 = .ok (.invokevirtual 49, 3) := by decide +kernel
theorem d_X6_stepDetail_33 : decode (mB M_X6_stepDetail) 33 = .ok (.invokestatic 56, 3) := by decide +kernel
theorem d_X6_stepDetail_36 : decode (mB M_X6_stepDetail) 36 = .ok (.ireturn, 1) := by decide +kernel
theorem d_X6_stepDetail_37 : decode (mB M_X6_stepDetail) 37 = .ok (.aload_n 0, 1) := by decide +kernel
theorem d_X6_stepDetail_38 : decode (mB M_X6_stepDetail) 38 = .ok (.getfield 9, 3) := by decide +kernel
theorem d_X6_stepDetail_41 : decode (mB M_X6_stepDetail) 41 = .ok (.aload_n 0, 1) := by decide +kernel
theorem d_X6_stepDetail_42 : decode (mB M_X6_stepDetail) 42 = .ok (.iload_n 2, 1) := by decide +kernel
theorem d_X6_stepDetail_43 : decode (mB M_X6_stepDetail) 43 = .ok (.invokevirtual 49, 3) := by decide +kernel
theorem d_X6_stepDetail_46 : decode (mB M_X6_stepDetail) 46 = .ok (.iload_n 2, 1) := by decide +kernel
theorem d_X6_stepDetail_47 : decode (mB M_X6_stepDetail) 47 = .ok (.invokevirtual 45, 3) := by decide +kernel
theorem d_X6_stepDetail_50 : decode (mB M_X6_stepDetail) 50 = .ok (.invokestatic 56, 3) := by decide +kernel
theorem d_X6_stepDetail_53 : decode (mB M_X6_stepDetail) 53 = .ok (.ireturn, 1) := by decide +kernel
theorem d_X6_stepDetail_54 : decode (mB M_X6_stepDetail) 54 = .ok (.aload_n 0, 1) := by decide +kernel
theorem d_X6_stepDetail_55 : decode (mB M_X6_stepDetail) 55 = .ok (.getfield 19, 3) := by decide +kernel
theorem d_X6_stepDetail_58 : decode (mB M_X6_stepDetail) 58 = .ok (.ireturn, 1) := by decide +kernel
theorem c_stepDetail {E : mEnv} (hE : E.1.stackTraces = false) (p r : Nat) (g : gT) (b : Int64) (a : Int32) (w : mW) (hp : mget w p = some (pcell r b a)) (hg : mget w r = some (gcell g)) (q d : Int32) : Rt E M_X6_stepDetail 0 [.ref p, .int q, .int d] w (some (.int (pSd g a q d))) w := by
  refine Rt.of hE rfl pn_X6 (Nat.le_of_ble_eq_true rfl) ?_
  refine g_eq (S' := (0, [some (.ref p), some (.int q), some (.int d)], [], w)) rfl ?_
  refine g_iload_n d_X6_stepDetail_0 rfl ?_
  by_cases t_1_0 : q = 2
  · refine g_lookup (off := 27) (tgt := 28) d_X6_stepDetail_1 (by decide) (by rw [t_1_0]; decide) (by decide) ?_
    refine g_aload_n d_X6_stepDetail_28 rfl ?_
    refine g_iload_n d_X6_stepDetail_29 rfl ?_
    refine g_callV (As := [.int d]) d_X6_stepDetail_30 o_X6_ahead l_X6_49 ⟨Nat.le_of_ble_eq_true rfl, Nat.le_of_ble_eq_true rfl⟩ (c_ahead hE p r g b a _ hp hg d) hp rfl rfl rfl rfl rfl ?_ (Nat.zero_add _)
    refine g_callN (As := [.long (pAh g a d)]) d_X6_stepDetail_33 o_X11_lowest n_X6_56 ⟨Nat.le_of_ble_eq_true rfl, Nat.le_of_ble_eq_true rfl⟩ (c_lowest hE (pAh g a d) _) rfl rfl ?_ (Nat.zero_add _)
    exact g_retI d_X6_stepDetail_36 rfl (by simp only [pSd, eq_true t_1_0, ↓reduceIte, Bool.false_eq_true]) (rfl)
  by_cases t_1_1 : q = 3
  · refine g_lookup (off := 36) (tgt := 37) d_X6_stepDetail_1 (by decide) (by rw [t_1_1]; decide) (by decide) ?_
    refine g_aload_n d_X6_stepDetail_37 rfl ?_
    refine g_getf d_X6_stepDetail_38 f_X6_9 hp rfl ?_
    refine g_aload_n d_X6_stepDetail_41 rfl ?_
    refine g_iload_n d_X6_stepDetail_42 rfl ?_
    refine g_callV (As := [.int d]) d_X6_stepDetail_43 o_X6_ahead l_X6_49 ⟨Nat.le_of_ble_eq_true rfl, Nat.le_of_ble_eq_true rfl⟩ (c_ahead hE p r g b a _ hp hg d) hp rfl rfl rfl rfl rfl ?_ (Nat.zero_add _)
    refine g_iload_n d_X6_stepDetail_46 rfl ?_
    refine g_callV (As := [.long (pAh g a d), .int d]) d_X6_stepDetail_47 o_X2_moved l_X6_45 ⟨Nat.le_of_ble_eq_true rfl, Nat.le_of_ble_eq_true rfl⟩ (c_moved hE r g _ hg (pAh g a d) d) hg rfl rfl rfl rfl rfl ?_ (Nat.zero_add _)
    refine g_callN (As := [.long (gMv g (pAh g a d) d)]) d_X6_stepDetail_50 o_X11_lowest n_X6_56 ⟨Nat.le_of_ble_eq_true rfl, Nat.le_of_ble_eq_true rfl⟩ (c_lowest hE (gMv g (pAh g a d) d) _) rfl rfl ?_ (Nat.zero_add _)
    exact g_retI d_X6_stepDetail_53 rfl (by simp only [pSd, eq_false t_1_0, eq_true t_1_1, ↓reduceIte, Bool.false_eq_true]) (rfl)
  refine g_lookup (off := 53) (tgt := 54) d_X6_stepDetail_1 (by decide) (by show Op.lookupswitch.offset [(2, 27), (3, 36)] _ _ = _; rw [lv_osw t_1_0 (by decide), lv_osw t_1_1 (by decide)]; rfl) (by decide) ?_
  refine g_aload_n d_X6_stepDetail_54 rfl ?_
  refine g_getf d_X6_stepDetail_55 f_X6_19 hp rfl ?_
  exact g_retI d_X6_stepDetail_58 rfl (by simp only [pSd, eq_false t_1_0, eq_false t_1_1, ↓reduceIte, Bool.false_eq_true]) (rfl)
def pLr (g : gT) (b : Int64) (a d : Int32) (u : Bool) : Int32 := if pSr g b a d = 0 then (if pAh g a d &&& b = 0 then (if u then 6 else 0) else if u then 0 else 5) else pSr g b a d
theorem d_X6_letterReason_0 : decode (mB M_X6_letterReason) 0 = .ok (.aload_n 0, 1) := by decide +kernel
theorem d_X6_letterReason_1 : decode (mB M_X6_letterReason) 1 = .ok (.iload_n 1, 1) := by decide +kernel
theorem d_X6_letterReason_2 : decode (mB M_X6_letterReason) 2 = .ok (.invokevirtual 60, 3) := by decide +kernel
theorem d_X6_letterReason_5 : decode (mB M_X6_letterReason) 5 = .ok (.istore_n 3, 1) := by decide +kernel
theorem d_X6_letterReason_6 : decode (mB M_X6_letterReason) 6 = .ok (.aload_n 0, 1) := by decide +kernel
theorem d_X6_letterReason_7 : decode (mB M_X6_letterReason) 7 = .ok (.iload_n 1, 1) := by decide +kernel
theorem d_X6_letterReason_8 : decode (mB M_X6_letterReason) 8 = .ok (.invokevirtual 49, 3) := by decide +kernel
theorem d_X6_letterReason_11 : decode (mB M_X6_letterReason) 11 = .ok (.aload_n 0, 1) := by decide +kernel
theorem d_X6_letterReason_12 : decode (mB M_X6_letterReason) 12 = .ok (.getfield 15, 3) := by decide +kernel
theorem d_X6_letterReason_15 : decode (mB M_X6_letterReason) 15 = .ok (.land, 1) := by decide +kernel
theorem d_X6_letterReason_16 : decode (mB M_X6_letterReason) 16 = .ok (.lconst 0, 1) := by decide +kernel
theorem d_X6_letterReason_17 : decode (mB M_X6_letterReason) 17 = .ok (.lcmp, 1) := by decide +kernel
theorem d_X6_letterReason_18 : decode (mB M_X6_letterReason) 18 = .ok (.ifCond .eq 7, 3) := by decide +kernel
theorem d_X6_letterReason_21 : decode (mB M_X6_letterReason) 21 = .ok (.iconst 1, 1) := by decide +kernel
theorem d_X6_letterReason_22 : decode (mB M_X6_letterReason) 22 = .ok (.goto 4, 3) := by decide +kernel
theorem d_X6_letterReason_25 : decode (mB M_X6_letterReason) 25 = .ok (.iconst 0, 1) := by decide +kernel
theorem d_X6_letterReason_26 : decode (mB M_X6_letterReason) 26 = .ok (.istore 4, 2) := by decide +kernel
theorem d_X6_letterReason_28 : decode (mB M_X6_letterReason) 28 = .ok (.iload_n 3, 1) := by decide +kernel
theorem d_X6_letterReason_29 : decode (mB M_X6_letterReason) 29 = .ok (.ifCond .ne 9, 3) := by decide +kernel
theorem d_X6_letterReason_32 : decode (mB M_X6_letterReason) 32 = .ok (.iload 4, 2) := by decide +kernel
theorem d_X6_letterReason_34 : decode (mB M_X6_letterReason) 34 = .ok (.iload_n 2, 1) := by decide +kernel
theorem d_X6_letterReason_35 : decode (mB M_X6_letterReason) 35 = .ok (.if_icmp .ne 5, 3) := by decide +kernel
theorem d_X6_letterReason_38 : decode (mB M_X6_letterReason) 38 = .ok (.iload_n 3, 1) := by decide +kernel
theorem d_X6_letterReason_39 : decode (mB M_X6_letterReason) 39 = .ok (.ireturn, 1) := by decide +kernel
theorem d_X6_letterReason_40 : decode (mB M_X6_letterReason) 40 = .ok (.iload 4, 2) := by decide +kernel
theorem d_X6_letterReason_42 : decode (mB M_X6_letterReason) 42 = .ok (.ifCond .eq 7, 3) := by decide +kernel
theorem d_X6_letterReason_45 : decode (mB M_X6_letterReason) 45 = .ok (.iconst 5, 1) := by decide +kernel
theorem d_X6_letterReason_46 : decode (mB M_X6_letterReason) 46 = .ok (.goto 5, 3) := by decide +kernel
theorem d_X6_letterReason_49 : decode (mB M_X6_letterReason) 49 = .ok (.bipush 6, 2) := by decide +kernel
theorem d_X6_letterReason_51 : decode (mB M_X6_letterReason) 51 = .ok (.ireturn, 1) := by decide +kernel
theorem c_letterReason {E : mEnv} (hE : E.1.stackTraces = false) (p r : Nat) (g : gT) (b : Int64) (a : Int32) (w : mW) (hp : mget w p = some (pcell r b a)) (hg : mget w r = some (gcell g)) (d : Int32) (u : Bool) : Rt E M_X6_letterReason 0 [.ref p, .int d, .int ((bI u))] w (some (.int (pLr g b a d u))) w := by
  refine Rt.of hE rfl pn_X6 (Nat.le_of_ble_eq_true rfl) ?_
  refine g_eq (S' := (0, [some (.ref p), some (.int d), some (.int (bI u)), none, none], [], w)) rfl ?_
  refine g_aload_n d_X6_letterReason_0 rfl ?_
  refine g_iload_n d_X6_letterReason_1 rfl ?_
  refine g_callV (As := [.int d]) d_X6_letterReason_2 o_X6_stepReason l_X6_60 ⟨Nat.le_of_ble_eq_true rfl, Nat.le_of_ble_eq_true rfl⟩ (c_stepReason hE p r g b a _ hp hg d) hp rfl rfl rfl rfl rfl ?_ (Nat.zero_add _)
  refine g_istore_n (L' := [some (.ref p), some (.int d), some (.int (bI u)), some (.int (pSr g b a d)), none]) d_X6_letterReason_5 rfl rfl ?_
  refine g_aload_n d_X6_letterReason_6 rfl ?_
  refine g_iload_n d_X6_letterReason_7 rfl ?_
  refine g_callV (As := [.int d]) d_X6_letterReason_8 o_X6_ahead l_X6_49 ⟨Nat.le_of_ble_eq_true rfl, Nat.le_of_ble_eq_true rfl⟩ (c_ahead hE p r g b a _ hp hg d) hp rfl rfl rfl rfl rfl ?_ (Nat.zero_add _)
  refine g_aload_n d_X6_letterReason_11 rfl ?_
  refine g_getf d_X6_letterReason_12 f_X6_15 hp rfl ?_
  refine g_land d_X6_letterReason_15 ?_
  refine g_lconst (v := 0) d_X6_letterReason_16 (by decide) ?_
  refine g_lcmp_eq (tgt := 25) d_X6_letterReason_17 d_X6_letterReason_18 (by decide) (fun c_17 => ?_) (fun c_17 => ?_)
  · refine g_iconst (v := 0) d_X6_letterReason_25 (by decide) ?_
    refine g_istore (L' := [some (.ref p), some (.int d), some (.int (bI u)), some (.int (pSr g b a d)), some (.int 0)]) d_X6_letterReason_26 rfl rfl ?_
    refine g_iload_n d_X6_letterReason_28 rfl ?_
    refine g_if_ne (tgt := 38) d_X6_letterReason_29 (by decide) (fun c_29 => ?_) (fun c_29 => ?_)
    · refine g_iload_n d_X6_letterReason_38 rfl ?_
      exact g_retI d_X6_letterReason_39 rfl (by simp only [pLr, c_29, ↓reduceIte]) (rfl)
    · refine g_iload d_X6_letterReason_32 rfl ?_
      refine g_iload_n d_X6_letterReason_34 rfl ?_
      refine g_icmp_ne (tgt := 40) d_X6_letterReason_35 (by decide) (fun c_35 => ?_) (fun c_35 => ?_)
      · refine g_iload d_X6_letterReason_40 rfl ?_
        refine g_if_eq (tgt := 49) d_X6_letterReason_42 (by decide) (fun _ => ?_) (fun c_42 => absurd c_42 (by decide))
        refine g_bipush (v := 6) d_X6_letterReason_49 (by decide) ?_
        exact g_retI d_X6_letterReason_51 rfl (by cases u <;> first | exact absurd c_35 (by decide) | exact absurd rfl c_35 | (simp only [pLr, c_17, c_29, ↓reduceIte, Bool.false_eq_true]; done)) (rfl)
      · refine g_iload_n d_X6_letterReason_38 rfl ?_
        exact g_retI d_X6_letterReason_39 rfl (by cases u <;> first | exact absurd c_35 (by decide) | exact absurd rfl c_35 | (simp only [pLr, c_17, c_29, ↓reduceIte, Bool.false_eq_true]; done)) (rfl)
  · refine g_iconst (v := 1) d_X6_letterReason_21 (by decide) ?_
    refine g_goto (tgt := 26) d_X6_letterReason_22 (by decide) ?_
    refine g_istore (L' := [some (.ref p), some (.int d), some (.int (bI u)), some (.int (pSr g b a d)), some (.int 1)]) d_X6_letterReason_26 rfl rfl ?_
    refine g_iload_n d_X6_letterReason_28 rfl ?_
    refine g_if_ne (tgt := 38) d_X6_letterReason_29 (by decide) (fun c_29 => ?_) (fun c_29 => ?_)
    · refine g_iload_n d_X6_letterReason_38 rfl ?_
      exact g_retI d_X6_letterReason_39 rfl (by simp only [pLr, c_29, ↓reduceIte]) (rfl)
    · refine g_iload d_X6_letterReason_32 rfl ?_
      refine g_iload_n d_X6_letterReason_34 rfl ?_
      refine g_icmp_ne (tgt := 40) d_X6_letterReason_35 (by decide) (fun c_35 => ?_) (fun c_35 => ?_)
      · refine g_iload d_X6_letterReason_40 rfl ?_
        refine g_if_eq (tgt := 49) d_X6_letterReason_42 (by decide) (fun c_42 => absurd c_42 (by decide)) (fun _ => ?_)
        refine g_iconst (v := 5) d_X6_letterReason_45 (by decide) ?_
        refine g_goto (tgt := 51) d_X6_letterReason_46 (by decide) ?_
        exact g_retI d_X6_letterReason_51 rfl (by cases u <;> first | exact absurd c_35 (by decide) | exact absurd rfl c_35 | (simp only [pLr, c_17, c_29, ↓reduceIte, Bool.false_eq_true]; done)) (rfl)
      · refine g_iload_n d_X6_letterReason_38 rfl ?_
        exact g_retI d_X6_letterReason_39 rfl (by cases u <;> first | exact absurd c_35 (by decide) | exact absurd rfl c_35 | (simp only [pLr, c_17, c_29, ↓reduceIte, Bool.false_eq_true]; done)) (rfl)
def pBe (g : gT) (c d : Int32) : Int64 := gMv g (jshl 1 c) ((d + 2) &&& 3)
theorem d_X6_behind_0 : decode (mB M_X6_behind) 0 = .ok (.aload_n 0, 1) := by decide +kernel
theorem d_X6_behind_1 : decode (mB M_X6_behind) 1 = .ok (.getfield 9, 3) := by decide +kernel
theorem d_X6_behind_4 : decode (mB M_X6_behind) 4 = .ok (.iload_n 1, 1) := by decide +kernel
theorem d_X6_behind_5 : decode (mB M_X6_behind) 5 = .ok (.invokestatic 33, 3) := by decide +kernel
theorem d_X6_behind_8 : decode (mB M_X6_behind) 8 = .ok (.iload_n 2, 1) := by decide +kernel
theorem d_X6_behind_9 : decode (mB M_X6_behind) 9 = .ok (.invokestatic 71, 3) := by decide +kernel
theorem d_X6_behind_12 : decode (mB M_X6_behind) 12 = .ok (.invokevirtual 45, 3) := by decide +kernel
theorem d_X6_behind_15 : decode (mB M_X6_behind) 15 = .ok (.lreturn, 1) := by decide +kernel
theorem c_behind {E : mEnv} (hE : E.1.stackTraces = false) (p r : Nat) (g : gT) (b : Int64) (a : Int32) (w : mW) (hp : mget w p = some (pcell r b a)) (hg : mget w r = some (gcell g)) (c d : Int32) : Rt E M_X6_behind 0 [.ref p, .int c, .int d] w (some (.long (pBe g c d))) w := by
  refine Rt.of hE rfl pn_X6 (Nat.le_of_ble_eq_true rfl) ?_
  refine g_eq (S' := (0, [some (.ref p), some (.int c), some (.int d)], [], w)) rfl ?_
  refine g_aload_n d_X6_behind_0 rfl ?_
  refine g_getf d_X6_behind_1 f_X6_9 hp rfl ?_
  refine g_iload_n d_X6_behind_4 rfl ?_
  refine g_callN (As := [.int c]) d_X6_behind_5 o_X11_bit n_X6_33 ⟨Nat.le_of_ble_eq_true rfl, Nat.le_of_ble_eq_true rfl⟩ (c_bit hE c _) rfl rfl ?_ (Nat.zero_add _)
  refine g_iload_n d_X6_behind_8 rfl ?_
  refine g_callN (As := [.int d]) d_X6_behind_9 o_X11_opposite n_X6_71 ⟨Nat.le_of_ble_eq_true rfl, Nat.le_of_ble_eq_true rfl⟩ (c_opposite hE d _) rfl rfl ?_ (Nat.zero_add _)
  refine g_callV (As := [.long (jshl 1 c), .int ((d + 2) &&& 3)]) d_X6_behind_12 o_X2_moved l_X6_45 ⟨Nat.le_of_ble_eq_true rfl, Nat.le_of_ble_eq_true rfl⟩ (c_moved hE r g _ hg (jshl 1 c) ((d + 2) &&& 3)) hg rfl rfl rfl rfl rfl ?_ (Nat.zero_add _)
  exact g_retL d_X6_behind_15 rfl (rfl) (rfl)
def pPr (g : gT) (b : Int64) (a c d : Int32) : Int32 := if pBe g c d &&& pAr g b a = 0 then 4 else pBr g b (jshl 1 c) d
theorem d_X6_pushReason_0 : decode (mB M_X6_pushReason) 0 = .ok (.aload_n 0, 1) := by decide +kernel
theorem d_X6_pushReason_1 : decode (mB M_X6_pushReason) 1 = .ok (.iload_n 1, 1) := by decide +kernel
theorem d_X6_pushReason_2 : decode (mB M_X6_pushReason) 2 = .ok (.iload_n 2, 1) := by decide +kernel
theorem d_X6_pushReason_3 : decode (mB M_X6_pushReason) 3 = .ok (.invokevirtual 64, 3) := by decide +kernel
theorem d_X6_pushReason_6 : decode (mB M_X6_pushReason) 6 = .ok (.aload_n 0, 1) := by decide +kernel
theorem d_X6_pushReason_7 : decode (mB M_X6_pushReason) 7 = .ok (.invokevirtual 68, 3) := by decide +kernel
theorem d_X6_pushReason_10 : decode (mB M_X6_pushReason) 10 = .ok (.land, 1) := by decide +kernel
theorem d_X6_pushReason_11 : decode (mB M_X6_pushReason) 11 = .ok (.lconst 0, 1) := by decide +kernel
theorem d_X6_pushReason_12 : decode (mB M_X6_pushReason) 12 = .ok (.lcmp, 1) := by decide +kernel
theorem d_X6_pushReason_13 : decode (mB M_X6_pushReason) 13 = .ok (.ifCond .ne 5, 3) := by decide +kernel
theorem d_X6_pushReason_16 : decode (mB M_X6_pushReason) 16 = .ok (.iconst 4, 1) := by decide +kernel
theorem d_X6_pushReason_17 : decode (mB M_X6_pushReason) 17 = .ok (.ireturn, 1) := by decide +kernel
theorem d_X6_pushReason_18 : decode (mB M_X6_pushReason) 18 = .ok (.aload_n 0, 1) := by decide +kernel
theorem d_X6_pushReason_19 : decode (mB M_X6_pushReason) 19 = .ok (.iload_n 1, 1) := by decide +kernel
theorem d_X6_pushReason_20 : decode (mB M_X6_pushReason) 20 = .ok (.invokestatic 33, 3) := by decide +kernel
theorem d_X6_pushReason_23 : decode (mB M_X6_pushReason) 23 = .ok (.iload_n 2, 1) := by decide +kernel
theorem d_X6_pushReason_24 : decode (mB M_X6_pushReason) 24 = .ok (.invokevirtual 52, 3) := by decide +kernel
theorem d_X6_pushReason_27 : decode (mB M_X6_pushReason) 27 = .ok (.ireturn, 1) := by decide +kernel
theorem c_pushReason {E : mEnv} (hE : E.1.stackTraces = false) (p r : Nat) (g : gT) (b : Int64) (a : Int32) (w : mW) (hp : mget w p = some (pcell r b a)) (hg : mget w r = some (gcell g)) (c d : Int32) : Rt E M_X6_pushReason 0 [.ref p, .int c, .int d] w (some (.int (pPr g b a c d))) w := by
  refine Rt.of hE rfl pn_X6 (Nat.le_of_ble_eq_true rfl) ?_
  refine g_eq (S' := (0, [some (.ref p), some (.int c), some (.int d)], [], w)) rfl ?_
  refine g_aload_n d_X6_pushReason_0 rfl ?_
  refine g_iload_n d_X6_pushReason_1 rfl ?_
  refine g_iload_n d_X6_pushReason_2 rfl ?_
  refine g_callV (As := [.int c, .int d]) d_X6_pushReason_3 o_X6_behind l_X6_64 ⟨Nat.le_of_ble_eq_true rfl, Nat.le_of_ble_eq_true rfl⟩ (c_behind hE p r g b a _ hp hg c d) hp rfl rfl rfl rfl rfl ?_ (Nat.zero_add _)
  refine g_aload_n d_X6_pushReason_6 rfl ?_
  refine g_callV (As := []) d_X6_pushReason_7 o_X6_area l_X6_68 ⟨Nat.le_of_ble_eq_true rfl, Nat.le_of_ble_eq_true rfl⟩ (c_area hE p r g b a _ hp hg ) hp rfl rfl rfl rfl rfl ?_ (Nat.zero_add _)
  refine g_land d_X6_pushReason_10 ?_
  refine g_lconst (v := 0) d_X6_pushReason_11 (by decide) ?_
  refine g_lcmp_ne (tgt := 18) d_X6_pushReason_12 d_X6_pushReason_13 (by decide) (fun c_12 => ?_) (fun c_12 => ?_)
  · refine g_aload_n d_X6_pushReason_18 rfl ?_
    refine g_iload_n d_X6_pushReason_19 rfl ?_
    refine g_callN (As := [.int c]) d_X6_pushReason_20 o_X11_bit n_X6_33 ⟨Nat.le_of_ble_eq_true rfl, Nat.le_of_ble_eq_true rfl⟩ (c_bit hE c _) rfl rfl ?_ (Nat.zero_add _)
    refine g_iload_n d_X6_pushReason_23 rfl ?_
    refine g_callV (As := [.long (jshl 1 c), .int d]) d_X6_pushReason_24 o_X6_boxReason l_X6_52 ⟨Nat.le_of_ble_eq_true rfl, Nat.le_of_ble_eq_true rfl⟩ (c_boxReason hE p r g b a _ hp hg (jshl 1 c) d) hp rfl rfl rfl rfl rfl ?_ (Nat.zero_add _)
    exact g_retI d_X6_pushReason_27 rfl (by simp only [pPr, eq_false c_12, ↓reduceIte, Bool.false_eq_true]) (rfl)
  · refine g_iconst (v := 4) d_X6_pushReason_16 (by decide) ?_
    exact g_retI d_X6_pushReason_17 rfl (by simp only [pPr, eq_true c_12, ↓reduceIte, Bool.false_eq_true]) (rfl)
def pPd (g : gT) (q c d : Int32) : Int32 := if q = 3 then lowF (gMv g (jshl 1 c) d) else c
theorem d_X6_pushDetail_0 : decode (mB M_X6_pushDetail) 0 = .ok (.iload_n 1, 1) := by decide +kernel
theorem d_X6_pushDetail_1 : decode (mB M_X6_pushDetail) 1 = .ok (.iconst 3, 1) := by decide +kernel
theorem d_X6_pushDetail_2 : decode (mB M_X6_pushDetail) 2 = .ok (.if_icmp .ne 21, 3) := by decide +kernel
theorem d_X6_pushDetail_5 : decode (mB M_X6_pushDetail) 5 = .ok (.aload_n 0, 1) := by decide +kernel
theorem d_X6_pushDetail_6 : decode (mB M_X6_pushDetail) 6 = .ok (.getfield 9, 3) := by decide +kernel
theorem d_X6_pushDetail_9 : decode (mB M_X6_pushDetail) 9 = .ok (.iload_n 2, 1) := by decide +kernel
theorem d_X6_pushDetail_10 : decode (mB M_X6_pushDetail) 10 = .ok (.invokestatic 33, 3) := by decide +kernel
theorem d_X6_pushDetail_13 : decode (mB M_X6_pushDetail) 13 = .ok (.iload_n 3, 1) := by decide +kernel
theorem d_X6_pushDetail_14 : decode (mB M_X6_pushDetail) 14 = .ok (.invokevirtual 45, 3) := by decide +kernel
theorem d_X6_pushDetail_17 : decode (mB M_X6_pushDetail) 17 = .ok (.invokestatic 56, 3) := by decide +kernel
theorem d_X6_pushDetail_20 : decode (mB M_X6_pushDetail) 20 = .ok (.goto 4, 3) := by decide +kernel
theorem d_X6_pushDetail_23 : decode (mB M_X6_pushDetail) 23 = .ok (.iload_n 2, 1) := by decide +kernel
theorem d_X6_pushDetail_24 : decode (mB M_X6_pushDetail) 24 = .ok (.ireturn, 1) := by decide +kernel
theorem c_pushDetail {E : mEnv} (hE : E.1.stackTraces = false) (p r : Nat) (g : gT) (b : Int64) (a : Int32) (w : mW) (hp : mget w p = some (pcell r b a)) (hg : mget w r = some (gcell g)) (q c d : Int32) : Rt E M_X6_pushDetail 0 [.ref p, .int q, .int c, .int d] w (some (.int (pPd g q c d))) w := by
  refine Rt.of hE rfl pn_X6 (Nat.le_of_ble_eq_true rfl) ?_
  refine g_eq (S' := (0, [some (.ref p), some (.int q), some (.int c), some (.int d)], [], w)) rfl ?_
  refine g_iload_n d_X6_pushDetail_0 rfl ?_
  refine g_iconst (v := 3) d_X6_pushDetail_1 (by decide) ?_
  refine g_icmp_ne (tgt := 23) d_X6_pushDetail_2 (by decide) (fun c_2 => ?_) (fun c_2 => ?_)
  · refine g_iload_n d_X6_pushDetail_23 rfl ?_
    exact g_retI d_X6_pushDetail_24 rfl (by simp only [pPd, eq_false c_2, ↓reduceIte, Bool.false_eq_true]) (rfl)
  · refine g_aload_n d_X6_pushDetail_5 rfl ?_
    refine g_getf d_X6_pushDetail_6 f_X6_9 hp rfl ?_
    refine g_iload_n d_X6_pushDetail_9 rfl ?_
    refine g_callN (As := [.int c]) d_X6_pushDetail_10 o_X11_bit n_X6_33 ⟨Nat.le_of_ble_eq_true rfl, Nat.le_of_ble_eq_true rfl⟩ (c_bit hE c _) rfl rfl ?_ (Nat.zero_add _)
    refine g_iload_n d_X6_pushDetail_13 rfl ?_
    refine g_callV (As := [.long (jshl 1 c), .int d]) d_X6_pushDetail_14 o_X2_moved l_X6_45 ⟨Nat.le_of_ble_eq_true rfl, Nat.le_of_ble_eq_true rfl⟩ (c_moved hE r g _ hg (jshl 1 c) d) hg rfl rfl rfl rfl rfl ?_ (Nat.zero_add _)
    refine g_callN (As := [.long (gMv g (jshl 1 c) d)]) d_X6_pushDetail_17 o_X11_lowest n_X6_56 ⟨Nat.le_of_ble_eq_true rfl, Nat.le_of_ble_eq_true rfl⟩ (c_lowest hE (gMv g (jshl 1 c) d) _) rfl rfl ?_ (Nat.zero_add _)
    refine g_goto (tgt := 24) d_X6_pushDetail_20 (by decide) ?_
    exact g_retI d_X6_pushDetail_24 rfl (by simp only [pPd, eq_true c_2, ↓reduceIte, Bool.false_eq_true]) (rfl)
theorem d_X6_isLike_0 : decode (mB M_X6_isLike) 0 = .ok (.aload_n 0, 1) := by decide +kernel
theorem d_X6_isLike_1 : decode (mB M_X6_isLike) 1 = .ok (.getfield 15, 3) := by decide +kernel
theorem d_X6_isLike_4 : decode (mB M_X6_isLike) 4 = .ok (.aload_n 1, 1) := by decide +kernel
theorem d_X6_isLike_5 : decode (mB M_X6_isLike) 5 = .ok (.getfield 15, 3) := by decide +kernel
theorem d_X6_isLike_8 : decode (mB M_X6_isLike) 8 = .ok (.lcmp, 1) := by decide +kernel
theorem d_X6_isLike_9 : decode (mB M_X6_isLike) 9 = .ok (.ifCond .ne 18, 3) := by decide +kernel
theorem d_X6_isLike_12 : decode (mB M_X6_isLike) 12 = .ok (.aload_n 0, 1) := by decide +kernel
theorem d_X6_isLike_13 : decode (mB M_X6_isLike) 13 = .ok (.getfield 19, 3) := by decide +kernel
theorem d_X6_isLike_16 : decode (mB M_X6_isLike) 16 = .ok (.aload_n 1, 1) := by decide +kernel
theorem d_X6_isLike_17 : decode (mB M_X6_isLike) 17 = .ok (.getfield 19, 3) := by decide +kernel
theorem d_X6_isLike_20 : decode (mB M_X6_isLike) 20 = .ok (.if_icmp .ne 7, 3) := by decide +kernel
theorem d_X6_isLike_23 : decode (mB M_X6_isLike) 23 = .ok (.iconst 1, 1) := by decide +kernel
theorem d_X6_isLike_24 : decode (mB M_X6_isLike) 24 = .ok (.goto 4, 3) := by decide +kernel
theorem d_X6_isLike_27 : decode (mB M_X6_isLike) 27 = .ok (.iconst 0, 1) := by decide +kernel
theorem d_X6_isLike_28 : decode (mB M_X6_isLike) 28 = .ok (.ireturn, 1) := by decide +kernel
theorem c_isLike {E : mEnv} (hE : E.1.stackTraces = false) (p p2 r r2 : Nat) (b b2 : Int64) (a a2 : Int32) (w : mW) (hp : mget w p = some (pcell r b a)) (h2 : mget w p2 = some (pcell r2 b2 a2)) : Rt E M_X6_isLike 0 [.ref p, .ref p2] w (some (.int (bI (decide (b = b2) && decide (a = a2))))) w := by
  refine Rt.of hE rfl pn_X6 (Nat.le_of_ble_eq_true rfl) ?_
  refine g_eq (S' := (0, [some (.ref p), some (.ref p2)], [], w)) rfl ?_
  refine g_aload_n d_X6_isLike_0 rfl ?_
  refine g_getf d_X6_isLike_1 f_X6_15 hp rfl ?_
  refine g_aload_n d_X6_isLike_4 rfl ?_
  refine g_getf d_X6_isLike_5 f_X6_15 h2 rfl ?_
  refine g_lcmp_ne (tgt := 27) d_X6_isLike_8 d_X6_isLike_9 (by decide) (fun c_8 => ?_) (fun c_8 => ?_)
  · refine g_iconst (v := 0) d_X6_isLike_27 (by decide) ?_
    exact g_retZ d_X6_isLike_28 rfl (by decide) (by simp_all [bI]) (rfl)
  · refine g_aload_n d_X6_isLike_12 rfl ?_
    refine g_getf d_X6_isLike_13 f_X6_19 hp rfl ?_
    refine g_aload_n d_X6_isLike_16 rfl ?_
    refine g_getf d_X6_isLike_17 f_X6_19 h2 rfl ?_
    refine g_icmp_ne (tgt := 27) d_X6_isLike_20 (by decide) (fun c_20 => ?_) (fun c_20 => ?_)
    · refine g_iconst (v := 0) d_X6_isLike_27 (by decide) ?_
      exact g_retZ d_X6_isLike_28 rfl (by decide) (by simp_all [bI]) (rfl)
    · refine g_iconst (v := 1) d_X6_isLike_23 (by decide) ?_
      refine g_goto (tgt := 28) d_X6_isLike_24 (by decide) ?_
      exact g_retZ d_X6_isLike_28 rfl (by decide) (by simp_all [bI]) (rfl)
theorem d_X6_put_0 : decode (mB M_X6_put) 0 = .ok (.aload_n 0, 1) := by decide +kernel
theorem d_X6_put_1 : decode (mB M_X6_put) 1 = .ok (.lload_n 1, 1) := by decide +kernel
theorem d_X6_put_2 : decode (mB M_X6_put) 2 = .ok (.putfield 15, 3) := by decide +kernel
theorem d_X6_put_5 : decode (mB M_X6_put) 5 = .ok (.aload_n 0, 1) := by decide +kernel
theorem d_X6_put_6 : decode (mB M_X6_put) 6 = .ok (.iload_n 3, 1) := by decide +kernel
theorem d_X6_put_7 : decode (mB M_X6_put) 7 = .ok (.putfield 19, 3) := by decide +kernel
theorem d_X6_put_10 : decode (mB M_X6_put) 10 = .ok (.return_, 1) := by decide +kernel
theorem c_put {E : mEnv} (hE : E.1.stackTraces = false) (p r : Nat) (b b2 : Int64) (a a2 : Int32) (w : mW) (hp : mget w p = some (pcell r b a)) : Rt E M_X6_put 0 [.ref p, .long b2, .int a2] w none ((mset w p (pcell r b2 a2))) := by
  refine Rt.of hE rfl pn_X6 (Nat.le_of_ble_eq_true rfl) ?_
  refine g_eq (S' := (0, [some (.ref p), some (.long b2), none, some (.int a2)], [], w)) rfl ?_
  refine g_aload_n d_X6_put_0 rfl ?_
  refine g_lload_n d_X6_put_1 rfl ?_
  refine g_putL (w' := (mset w p (.inr (6, [.ref r, .long b2, .int a])))) d_X6_put_2 p_X6_15 rfl rfl hp (Nat.le_of_ble_eq_true rfl) (rfl) ?_
  refine g_aload_n d_X6_put_5 rfl ?_
  refine g_iload_n d_X6_put_6 rfl ?_
  refine g_putI (w' := (mset w p (.inr (6, [.ref r, .long b2, .int a2])))) d_X6_put_7 p_X6_19 rfl rfl (mget_eq hp) (Nat.le_of_ble_eq_true rfl) (mset_mset) ?_
  exact g_retV d_X6_put_10 rfl (rfl)
/-- what a step makes of the boxes; whether it pushes -/
def pMp (g : gT) (b : Int64) (a d : Int32) : Bool := !decide (pAh g a d &&& b = 0)
def pMb (g : gT) (b : Int64) (a d : Int32) : Int64 := if pAh g a d &&& b = 0 then b else b &&& (pAh g a d ^^^ (-1)) ||| gMv g (pAh g a d) d
theorem d_X6_move_0 : decode (mB M_X6_move) 0 = .ok (.aload_n 0, 1) := by decide +kernel
theorem d_X6_move_1 : decode (mB M_X6_move) 1 = .ok (.iload_n 1, 1) := by decide +kernel
theorem d_X6_move_2 : decode (mB M_X6_move) 2 = .ok (.invokevirtual 49, 3) := by decide +kernel
theorem d_X6_move_5 : decode (mB M_X6_move) 5 = .ok (.lstore_n 2, 1) := by decide +kernel
theorem d_X6_move_6 : decode (mB M_X6_move) 6 = .ok (.lload_n 2, 1) := by decide +kernel
theorem d_X6_move_7 : decode (mB M_X6_move) 7 = .ok (.aload_n 0, 1) := by decide +kernel
theorem d_X6_move_8 : decode (mB M_X6_move) 8 = .ok (.getfield 15, 3) := by decide +kernel
theorem d_X6_move_11 : decode (mB M_X6_move) 11 = .ok (.land, 1) := by decide +kernel
theorem d_X6_move_12 : decode (mB M_X6_move) 12 = .ok (.lconst 0, 1) := by decide +kernel
theorem d_X6_move_13 : decode (mB M_X6_move) 13 = .ok (.lcmp, 1) := by decide +kernel
theorem d_X6_move_14 : decode (mB M_X6_move) 14 = .ok (.ifCond .eq 7, 3) := by decide +kernel
theorem d_X6_move_17 : decode (mB M_X6_move) 17 = .ok (.iconst 1, 1) := by decide +kernel
theorem d_X6_move_18 : decode (mB M_X6_move) 18 = .ok (.goto 4, 3) := by decide +kernel
theorem d_X6_move_21 : decode (mB M_X6_move) 21 = .ok (.iconst 0, 1) := by decide +kernel
theorem d_X6_move_22 : decode (mB M_X6_move) 22 = .ok (.istore 4, 2) := by decide +kernel
theorem d_X6_move_24 : decode (mB M_X6_move) 24 = .ok (.iload 4, 2) := by decide +kernel
theorem d_X6_move_26 : decode (mB M_X6_move) 26 = .ok (.ifCond .eq 27, 3) := by decide +kernel
theorem d_X6_move_29 : decode (mB M_X6_move) 29 = .ok (.aload_n 0, 1) := by decide +kernel
theorem d_X6_move_30 : decode (mB M_X6_move) 30 = .ok (.aload_n 0, 1) := by decide +kernel
theorem d_X6_move_31 : decode (mB M_X6_move) 31 = .ok (.getfield 15, 3) := by decide +kernel
theorem d_X6_move_34 : decode (mB M_X6_move) 34 = .ok (.lload_n 2, 1) := by decide +kernel
theorem d_X6_move_35 : decode (mB M_X6_move) 35 = .ok (.ldc2_w 28, 3) := by decide +kernel
theorem d_X6_move_38 : decode (mB M_X6_move) 38 = .ok (.lxor, 1) := by decide +kernel
theorem d_X6_move_39 : decode (mB M_X6_move) 39 = .ok (.land, 1) := by decide +kernel
theorem d_X6_move_40 : decode (mB M_X6_move) 40 = .ok (.aload_n 0, 1) := by decide +kernel
theorem d_X6_move_41 : decode (mB M_X6_move) 41 = .ok (.getfield 9, 3) := by decide +kernel
theorem d_X6_move_44 : decode (mB M_X6_move) 44 = .ok (.lload_n 2, 1) := by decide +kernel
theorem d_X6_move_45 : decode (mB M_X6_move) 45 = .ok (.iload_n 1, 1) := by decide +kernel
theorem d_X6_move_46 : decode (mB M_X6_move) 46 = .ok (.invokevirtual 45, 3) := by decide +kernel
theorem d_X6_move_49 : decode (mB M_X6_move) 49 = .ok (.lor, 1) := by decide +kernel
theorem d_X6_move_50 : decode (mB M_X6_move) 50 = .ok (.putfield 15, 3) := by decide +kernel
theorem d_X6_move_53 : decode (mB M_X6_move) 53 = .ok (.aload_n 0, 1) := by decide +kernel
theorem d_X6_move_54 : decode (mB M_X6_move) 54 = .ok (.lload_n 2, 1) := by decide +kernel
theorem d_X6_move_55 : decode (mB M_X6_move) 55 = .ok (.invokestatic 56, 3) := by decide +kernel
theorem d_X6_move_58 : decode (mB M_X6_move) 58 = .ok (.putfield 19, 3) := by decide +kernel
theorem d_X6_move_61 : decode (mB M_X6_move) 61 = .ok (.iload 4, 2) := by decide +kernel
theorem d_X6_move_63 : decode (mB M_X6_move) 63 = .ok (.ireturn, 1) := by decide +kernel
theorem c_move {E : mEnv} (hE : E.1.stackTraces = false) (p r : Nat) (g : gT) (b : Int64) (a : Int32) (w : mW) (hp : mget w p = some (pcell r b a)) (hg : mget w r = some (gcell g)) (d : Int32) (hpr : p ≠ r) : Rt E M_X6_move 0 [.ref p, .int d] w (some (.int (bI (pMp g b a d)))) ((mset w p (pcell r (pMb g b a d) (lowF (pAh g a d))))) := by
  refine Rt.of hE rfl pn_X6 (Nat.le_of_ble_eq_true rfl) ?_
  refine g_eq (S' := (0, [some (.ref p), some (.int d), none, none, none], [], w)) rfl ?_
  refine g_aload_n d_X6_move_0 rfl ?_
  refine g_iload_n d_X6_move_1 rfl ?_
  refine g_callV (As := [.int d]) d_X6_move_2 o_X6_ahead l_X6_49 ⟨Nat.le_of_ble_eq_true rfl, Nat.le_of_ble_eq_true rfl⟩ (c_ahead hE p r g b a _ hp hg d) hp rfl rfl rfl rfl rfl ?_ (Nat.zero_add _)
  refine g_lstore_n (L' := [some (.ref p), some (.int d), some (.long (pAh g a d)), none, none]) d_X6_move_5 rfl rfl ?_
  refine g_lload_n d_X6_move_6 rfl ?_
  refine g_aload_n d_X6_move_7 rfl ?_
  refine g_getf d_X6_move_8 f_X6_15 hp rfl ?_
  refine g_land d_X6_move_11 ?_
  refine g_lconst (v := 0) d_X6_move_12 (by decide) ?_
  refine g_lcmp_eq (tgt := 21) d_X6_move_13 d_X6_move_14 (by decide) (fun c_13 => ?_) (fun c_13 => ?_)
  · refine g_iconst (v := 0) d_X6_move_21 (by decide) ?_
    refine g_istore (L' := [some (.ref p), some (.int d), some (.long (pAh g a d)), none, some (.int 0)]) d_X6_move_22 rfl rfl ?_
    refine g_iload d_X6_move_24 rfl ?_
    refine g_if_eq (tgt := 53) d_X6_move_26 (by decide) (fun _ => ?_) (fun c_26 => absurd c_26 (by decide))
    refine g_aload_n d_X6_move_53 rfl ?_
    refine g_lload_n d_X6_move_54 rfl ?_
    refine g_callN (As := [.long (pAh g a d)]) d_X6_move_55 o_X11_lowest n_X6_56 ⟨Nat.le_of_ble_eq_true rfl, Nat.le_of_ble_eq_true rfl⟩ (c_lowest hE (pAh g a d) _) rfl rfl ?_ (Nat.zero_add _)
    refine g_putI (w' := (mset w p (.inr (6, [.ref r, .long b, .int (lowF (pAh g a d))])))) d_X6_move_58 p_X6_19 rfl rfl hp (Nat.le_of_ble_eq_true rfl) (rfl) ?_
    refine g_iload d_X6_move_61 rfl ?_
    exact g_retZ d_X6_move_63 rfl (by decide) (by simp_all [pMp, bI]) (by simp_all [pMb])
  · refine g_iconst (v := 1) d_X6_move_17 (by decide) ?_
    refine g_goto (tgt := 22) d_X6_move_18 (by decide) ?_
    refine g_istore (L' := [some (.ref p), some (.int d), some (.long (pAh g a d)), none, some (.int 1)]) d_X6_move_22 rfl rfl ?_
    refine g_iload d_X6_move_24 rfl ?_
    refine g_if_eq (tgt := 53) d_X6_move_26 (by decide) (fun c_26 => absurd c_26 (by decide)) (fun _ => ?_)
    refine g_aload_n d_X6_move_29 rfl ?_
    refine g_aload_n d_X6_move_30 rfl ?_
    refine g_getf d_X6_move_31 f_X6_15 hp rfl ?_
    refine g_lload_n d_X6_move_34 rfl ?_
    refine g_ldc2 (v := (-1)) d_X6_move_35 k_X6_28 ?_
    refine g_lxor d_X6_move_38 ?_
    refine g_land d_X6_move_39 ?_
    refine g_aload_n d_X6_move_40 rfl ?_
    refine g_getf d_X6_move_41 f_X6_9 hp rfl ?_
    refine g_lload_n d_X6_move_44 rfl ?_
    refine g_iload_n d_X6_move_45 rfl ?_
    refine g_callV (As := [.long (pAh g a d), .int d]) d_X6_move_46 o_X2_moved l_X6_45 ⟨Nat.le_of_ble_eq_true rfl, Nat.le_of_ble_eq_true rfl⟩ (c_moved hE r g _ hg (pAh g a d) d) hg rfl rfl rfl rfl rfl ?_ (Nat.zero_add _)
    refine g_lor d_X6_move_49 ?_
    refine g_putL (w' := (mset w p (.inr (6, [.ref r, .long ((b &&& ((pAh g a d) ^^^ (-1))) ||| (gMv g (pAh g a d) d)), .int a])))) d_X6_move_50 p_X6_15 rfl rfl hp (Nat.le_of_ble_eq_true rfl) (rfl) ?_
    refine g_aload_n d_X6_move_53 rfl ?_
    refine g_lload_n d_X6_move_54 rfl ?_
    refine g_callN (As := [.long (pAh g a d)]) d_X6_move_55 o_X11_lowest n_X6_56 ⟨Nat.le_of_ble_eq_true rfl, Nat.le_of_ble_eq_true rfl⟩ (c_lowest hE (pAh g a d) _) rfl rfl ?_ (Nat.zero_add _)
    refine g_putI (w' := (mset w p (.inr (6, [.ref r, .long ((b &&& ((pAh g a d) ^^^ (-1))) ||| (gMv g (pAh g a d) d)), .int (lowF (pAh g a d))])))) d_X6_move_58 p_X6_19 rfl rfl (mget_eq hp) (Nat.le_of_ble_eq_true rfl) (mset_mset) ?_
    refine g_iload d_X6_move_61 rfl ?_
    exact g_retZ d_X6_move_63 rfl (by decide) (by simp_all [pMp, bI]) (by simp_all [pMb])
