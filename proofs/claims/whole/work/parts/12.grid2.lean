/-! Grid, further; the lowest cell of a set -/
def bc1 (x : Int64) : Int64 := x - (jushr x 1 &&& 6148914691236517205)
def bc2 (x : Int64) : Int64 := (x &&& 3689348814741910323) + (jushr x 2 &&& 3689348814741910323)
def bc3 (x : Int64) : Int64 := (x + jushr x 4) &&& 1085102592571150095
def bc4 (x : Int64) : Int64 := x + jushr x 8
def bc5 (x : Int64) : Int64 := x + jushr x 16
def bc6 (x : Int64) : Int64 := x + jushr x 32
/-- Long.bitCount -/
def bcF (x : Int64) : Int32 := (bc6 (bc5 (bc4 (bc3 (bc2 (bc1 x)))))).toInt32 &&& 127
def lowF (s : Int64) : Int32 := bcF ((s &&& (-s)) - 1)
theorem d_J13_bitCount_95d88_0 : decode (mB M_J13_bitCount_95d88) 0 = .ok (.lload_n 0, 1) := by decide +kernel
theorem d_J13_bitCount_95d88_1 : decode (mB M_J13_bitCount_95d88) 1 = .ok (.lload_n 0, 1) := by decide +kernel
theorem d_J13_bitCount_95d88_2 : decode (mB M_J13_bitCount_95d88) 2 = .ok (.iconst 1, 1) := by decide +kernel
theorem d_J13_bitCount_95d88_3 : decode (mB M_J13_bitCount_95d88) 3 = .ok (.lushr, 1) := by decide +kernel
theorem d_J13_bitCount_95d88_4 : decode (mB M_J13_bitCount_95d88) 4 = .ok (.ldc2_w 314, 3) := by decide +kernel
theorem d_J13_bitCount_95d88_7 : decode (mB M_J13_bitCount_95d88) 7 = .ok (.land, 1) := by decide +kernel
theorem d_J13_bitCount_95d88_8 : decode (mB M_J13_bitCount_95d88) 8 = .ok (.lsub, 1) := by decide +kernel
theorem d_J13_bitCount_95d88_9 : decode (mB M_J13_bitCount_95d88) 9 = .ok (.lstore_n 0, 1) := by decide +kernel
theorem d_J13_bitCount_95d88_10 : decode (mB M_J13_bitCount_95d88) 10 = .ok (.lload_n 0, 1) := by decide +kernel
theorem d_J13_bitCount_95d88_11 : decode (mB M_J13_bitCount_95d88) 11 = .ok (.ldc2_w 316, 3) := by decide +kernel
theorem d_J13_bitCount_95d88_14 : decode (mB M_J13_bitCount_95d88) 14 = .ok (.land, 1) := by decide +kernel
theorem d_J13_bitCount_95d88_15 : decode (mB M_J13_bitCount_95d88) 15 = .ok (.lload_n 0, 1) := by decide +kernel
theorem d_J13_bitCount_95d88_16 : decode (mB M_J13_bitCount_95d88) 16 = .ok (.iconst 2, 1) := by decide +kernel
theorem d_J13_bitCount_95d88_17 : decode (mB M_J13_bitCount_95d88) 17 = .ok (.lushr, 1) := by decide +kernel
theorem d_J13_bitCount_95d88_18 : decode (mB M_J13_bitCount_95d88) 18 = .ok (.ldc2_w 316, 3) := by decide +kernel
theorem d_J13_bitCount_95d88_21 : decode (mB M_J13_bitCount_95d88) 21 = .ok (.land, 1) := by decide +kernel
theorem d_J13_bitCount_95d88_22 : decode (mB M_J13_bitCount_95d88) 22 = .ok (.ladd, 1) := by decide +kernel
theorem d_J13_bitCount_95d88_23 : decode (mB M_J13_bitCount_95d88) 23 = .ok (.lstore_n 0, 1) := by decide +kernel
theorem d_J13_bitCount_95d88_24 : decode (mB M_J13_bitCount_95d88) 24 = .ok (.lload_n 0, 1) := by decide +kernel
theorem d_J13_bitCount_95d88_25 : decode (mB M_J13_bitCount_95d88) 25 = .ok (.lload_n 0, 1) := by decide +kernel
theorem d_J13_bitCount_95d88_26 : decode (mB M_J13_bitCount_95d88) 26 = .ok (.iconst 4, 1) := by decide +kernel
theorem d_J13_bitCount_95d88_27 : decode (mB M_J13_bitCount_95d88) 27 = .ok (.lushr, 1) := by decide +kernel
theorem d_J13_bitCount_95d88_28 : decode (mB M_J13_bitCount_95d88) 28 = .ok (.ladd, 1) := by decide +kernel
theorem d_J13_bitCount_95d88_29 : decode (mB M_J13_bitCount_95d88) 29 = .ok (.ldc2_w 318, 3) := by decide +kernel
theorem d_J13_bitCount_95d88_32 : decode (mB M_J13_bitCount_95d88) 32 = .ok (.land, 1) := by decide +kernel
theorem d_J13_bitCount_95d88_33 : decode (mB M_J13_bitCount_95d88) 33 = .ok (.lstore_n 0, 1) := by decide +kernel
theorem d_J13_bitCount_95d88_34 : decode (mB M_J13_bitCount_95d88) 34 = .ok (.lload_n 0, 1) := by decide +kernel
theorem d_J13_bitCount_95d88_35 : decode (mB M_J13_bitCount_95d88) 35 = .ok (.lload_n 0, 1) := by decide +kernel
theorem d_J13_bitCount_95d88_36 : decode (mB M_J13_bitCount_95d88) 36 = .ok (.bipush 8, 2) := by decide +kernel
theorem d_J13_bitCount_95d88_38 : decode (mB M_J13_bitCount_95d88) 38 = .ok (.lushr, 1) := by decide +kernel
theorem d_J13_bitCount_95d88_39 : decode (mB M_J13_bitCount_95d88) 39 = .ok (.ladd, 1) := by decide +kernel
theorem d_J13_bitCount_95d88_40 : decode (mB M_J13_bitCount_95d88) 40 = .ok (.lstore_n 0, 1) := by decide +kernel
theorem d_J13_bitCount_95d88_41 : decode (mB M_J13_bitCount_95d88) 41 = .ok (.lload_n 0, 1) := by decide +kernel
theorem d_J13_bitCount_95d88_42 : decode (mB M_J13_bitCount_95d88) 42 = .ok (.lload_n 0, 1) := by decide +kernel
theorem d_J13_bitCount_95d88_43 : decode (mB M_J13_bitCount_95d88) 43 = .ok (.bipush 16, 2) := by decide +kernel
theorem d_J13_bitCount_95d88_45 : decode (mB M_J13_bitCount_95d88) 45 = .ok (.lushr, 1) := by decide +kernel
theorem d_J13_bitCount_95d88_46 : decode (mB M_J13_bitCount_95d88) 46 = .ok (.ladd, 1) := by decide +kernel
theorem d_J13_bitCount_95d88_47 : decode (mB M_J13_bitCount_95d88) 47 = .ok (.lstore_n 0, 1) := by decide +kernel
theorem d_J13_bitCount_95d88_48 : decode (mB M_J13_bitCount_95d88) 48 = .ok (.lload_n 0, 1) := by decide +kernel
theorem d_J13_bitCount_95d88_49 : decode (mB M_J13_bitCount_95d88) 49 = .ok (.lload_n 0, 1) := by decide +kernel
theorem d_J13_bitCount_95d88_50 : decode (mB M_J13_bitCount_95d88) 50 = .ok (.bipush 32, 2) := by decide +kernel
theorem d_J13_bitCount_95d88_52 : decode (mB M_J13_bitCount_95d88) 52 = .ok (.lushr, 1) := by decide +kernel
theorem d_J13_bitCount_95d88_53 : decode (mB M_J13_bitCount_95d88) 53 = .ok (.ladd, 1) := by decide +kernel
theorem d_J13_bitCount_95d88_54 : decode (mB M_J13_bitCount_95d88) 54 = .ok (.lstore_n 0, 1) := by decide +kernel
theorem d_J13_bitCount_95d88_55 : decode (mB M_J13_bitCount_95d88) 55 = .ok (.lload_n 0, 1) := by decide +kernel
theorem d_J13_bitCount_95d88_56 : decode (mB M_J13_bitCount_95d88) 56 = .ok (.l2i, 1) := by decide +kernel
theorem d_J13_bitCount_95d88_57 : decode (mB M_J13_bitCount_95d88) 57 = .ok (.bipush 127, 2) := by decide +kernel
theorem d_J13_bitCount_95d88_59 : decode (mB M_J13_bitCount_95d88) 59 = .ok (.iand, 1) := by decide +kernel
theorem d_J13_bitCount_95d88_60 : decode (mB M_J13_bitCount_95d88) 60 = .ok (.ireturn, 1) := by decide +kernel
theorem c_bitCount {E : mEnv} (hE : E.1.stackTraces = false) (x : Int64) (w : mW) : Rt E M_J13_bitCount_95d88 0 [.long x] w (some (.int (bcF x))) w := by
  refine Rt.of hE rfl pn_J13 (Nat.le_of_ble_eq_true rfl) ?_
  refine g_eq (S' := (0, [some (.long x), none], [], w)) rfl ?_
  refine g_lload_n d_J13_bitCount_95d88_0 rfl ?_
  refine g_lload_n d_J13_bitCount_95d88_1 rfl ?_
  refine g_iconst (v := 1) d_J13_bitCount_95d88_2 (by decide) ?_
  refine g_lushr (v := (jushr x 1)) d_J13_bitCount_95d88_3 rfl ?_
  refine g_ldc2 (v := 6148914691236517205) d_J13_bitCount_95d88_4 k_J13_314 ?_
  refine g_land d_J13_bitCount_95d88_7 ?_
  refine g_lsub d_J13_bitCount_95d88_8 ?_
  refine g_lstore_n (L' := [some (.long (bc1 x)), none]) d_J13_bitCount_95d88_9 rfl rfl ?_
  refine g_lload_n d_J13_bitCount_95d88_10 rfl ?_
  refine g_ldc2 (v := 3689348814741910323) d_J13_bitCount_95d88_11 k_J13_316 ?_
  refine g_land d_J13_bitCount_95d88_14 ?_
  refine g_lload_n d_J13_bitCount_95d88_15 rfl ?_
  refine g_iconst (v := 2) d_J13_bitCount_95d88_16 (by decide) ?_
  refine g_lushr (v := (jushr (bc1 x) 2)) d_J13_bitCount_95d88_17 rfl ?_
  refine g_ldc2 (v := 3689348814741910323) d_J13_bitCount_95d88_18 k_J13_316 ?_
  refine g_land d_J13_bitCount_95d88_21 ?_
  refine g_ladd d_J13_bitCount_95d88_22 ?_
  refine g_lstore_n (L' := [some (.long (bc2 (bc1 x))), none]) d_J13_bitCount_95d88_23 rfl rfl ?_
  refine g_lload_n d_J13_bitCount_95d88_24 rfl ?_
  refine g_lload_n d_J13_bitCount_95d88_25 rfl ?_
  refine g_iconst (v := 4) d_J13_bitCount_95d88_26 (by decide) ?_
  refine g_lushr (v := (jushr (bc2 (bc1 x)) 4)) d_J13_bitCount_95d88_27 rfl ?_
  refine g_ladd d_J13_bitCount_95d88_28 ?_
  refine g_ldc2 (v := 1085102592571150095) d_J13_bitCount_95d88_29 k_J13_318 ?_
  refine g_land d_J13_bitCount_95d88_32 ?_
  refine g_lstore_n (L' := [some (.long (bc3 (bc2 (bc1 x)))), none]) d_J13_bitCount_95d88_33 rfl rfl ?_
  refine g_lload_n d_J13_bitCount_95d88_34 rfl ?_
  refine g_lload_n d_J13_bitCount_95d88_35 rfl ?_
  refine g_bipush (v := 8) d_J13_bitCount_95d88_36 (by decide) ?_
  refine g_lushr (v := (jushr (bc3 (bc2 (bc1 x))) 8)) d_J13_bitCount_95d88_38 rfl ?_
  refine g_ladd d_J13_bitCount_95d88_39 ?_
  refine g_lstore_n (L' := [some (.long (bc4 (bc3 (bc2 (bc1 x))))), none]) d_J13_bitCount_95d88_40 rfl rfl ?_
  refine g_lload_n d_J13_bitCount_95d88_41 rfl ?_
  refine g_lload_n d_J13_bitCount_95d88_42 rfl ?_
  refine g_bipush (v := 16) d_J13_bitCount_95d88_43 (by decide) ?_
  refine g_lushr (v := (jushr (bc4 (bc3 (bc2 (bc1 x)))) 16)) d_J13_bitCount_95d88_45 rfl ?_
  refine g_ladd d_J13_bitCount_95d88_46 ?_
  refine g_lstore_n (L' := [some (.long (bc5 (bc4 (bc3 (bc2 (bc1 x)))))), none]) d_J13_bitCount_95d88_47 rfl rfl ?_
  refine g_lload_n d_J13_bitCount_95d88_48 rfl ?_
  refine g_lload_n d_J13_bitCount_95d88_49 rfl ?_
  refine g_bipush (v := 32) d_J13_bitCount_95d88_50 (by decide) ?_
  refine g_lushr (v := (jushr (bc5 (bc4 (bc3 (bc2 (bc1 x))))) 32)) d_J13_bitCount_95d88_52 rfl ?_
  refine g_ladd d_J13_bitCount_95d88_53 ?_
  refine g_lstore_n (L' := [some (.long (bc6 (bc5 (bc4 (bc3 (bc2 (bc1 x))))))), none]) d_J13_bitCount_95d88_54 rfl rfl ?_
  refine g_lload_n d_J13_bitCount_95d88_55 rfl ?_
  refine g_l2i d_J13_bitCount_95d88_56 ?_
  refine g_bipush (v := 127) d_J13_bitCount_95d88_57 (by decide) ?_
  refine g_iand d_J13_bitCount_95d88_59 ?_
  exact g_retI d_J13_bitCount_95d88_60 rfl (rfl) (rfl)
theorem d_X11_lowest_0 : decode (mB M_X11_lowest) 0 = .ok (.lload_n 0, 1) := by decide +kernel
theorem d_X11_lowest_1 : decode (mB M_X11_lowest) 1 = .ok (.lload_n 0, 1) := by decide +kernel
theorem d_X11_lowest_2 : decode (mB M_X11_lowest) 2 = .ok (.lneg, 1) := by decide +kernel
theorem d_X11_lowest_3 : decode (mB M_X11_lowest) 3 = .ok (.land, 1) := by decide +kernel
theorem d_X11_lowest_4 : decode (mB M_X11_lowest) 4 = .ok (.lconst 1, 1) := by decide +kernel
theorem d_X11_lowest_5 : decode (mB M_X11_lowest) 5 = .ok (.lsub, 1) := by decide +kernel
theorem d_X11_lowest_6 : decode (mB M_X11_lowest) 6 = .ok (.invokestatic 133, 3) := by decide +kernel
theorem d_X11_lowest_9 : decode (mB M_X11_lowest) 9 = .ok (.ireturn, 1) := by decide +kernel
theorem c_lowest {E : mEnv} (hE : E.1.stackTraces = false) (s : Int64) (w : mW) : Rt E M_X11_lowest 0 [.long s] w (some (.int (lowF s))) w := by
  refine Rt.of hE rfl pn_X11 (Nat.le_of_ble_eq_true rfl) ?_
  refine g_eq (S' := (0, [some (.long s), none], [], w)) rfl ?_
  refine g_lload_n d_X11_lowest_0 rfl ?_
  refine g_lload_n d_X11_lowest_1 rfl ?_
  refine g_lneg d_X11_lowest_2 ?_
  refine g_land d_X11_lowest_3 ?_
  refine g_lconst (v := 1) d_X11_lowest_4 (by decide) ?_
  refine g_lsub d_X11_lowest_5 ?_
  refine g_callS (As := [.long ((s &&& (-s)) - 1)]) d_X11_lowest_6 o_J13_bitCount_95d88 l_X11_133 ⟨Nat.le_of_ble_eq_true rfl, Nat.le_of_ble_eq_true rfl⟩ (c_bitCount hE _ w) rfl rfl ?_ (Nat.zero_add _)
  exact g_retI d_X11_lowest_9 rfl (rfl) (rfl)
theorem d_X2_isLaid_0 : decode (mB M_X2_isLaid) 0 = .ok (.aload_n 0, 1) := by decide +kernel
theorem d_X2_isLaid_1 : decode (mB M_X2_isLaid) 1 = .ok (.getfield 9, 3) := by decide +kernel
theorem d_X2_isLaid_4 : decode (mB M_X2_isLaid) 4 = .ok (.ifCond .le 7, 3) := by decide +kernel
theorem d_X2_isLaid_7 : decode (mB M_X2_isLaid) 7 = .ok (.iconst 1, 1) := by decide +kernel
theorem d_X2_isLaid_8 : decode (mB M_X2_isLaid) 8 = .ok (.goto 4, 3) := by decide +kernel
theorem d_X2_isLaid_11 : decode (mB M_X2_isLaid) 11 = .ok (.iconst 0, 1) := by decide +kernel
theorem d_X2_isLaid_12 : decode (mB M_X2_isLaid) 12 = .ok (.ireturn, 1) := by decide +kernel
theorem c_isLaid {E : mEnv} (hE : E.1.stackTraces = false) (r : Nat) (g : gT) (w : mW) (hg : mget w r = some (gcell g))  : Rt E M_X2_isLaid 0 [.ref r] w (some (.int (bI (decide (0 < gR g))))) w := by
  refine Rt.of hE rfl pn_X2 (Nat.le_of_ble_eq_true rfl) ?_
  refine g_eq (S' := (0, [some (.ref r)], [], w)) rfl ?_
  refine g_aload_n d_X2_isLaid_0 rfl ?_
  refine g_getf d_X2_isLaid_1 f_X2_9 hg rfl ?_
  refine g_if_le (tgt := 11) d_X2_isLaid_4 (by decide) (fun c_4 => ?_) (fun c_4 => ?_)
  · refine g_iconst (v := 0) d_X2_isLaid_11 (by decide) ?_
    exact g_retZ d_X2_isLaid_12 rfl (by decide) (by simp_all [bI]) (rfl)
  · refine g_iconst (v := 1) d_X2_isLaid_7 (by decide) ?_
    refine g_goto (tgt := 12) d_X2_isLaid_8 (by decide) ?_
    exact g_retZ d_X2_isLaid_12 rfl (by decide) (by simp_all [bI]) (rfl)
def gHp (g : gT) (i j : Int32) : Bool := if i < 0 then false else if gR g ≤ i then false else if j < 0 then false else if gC g ≤ j then false else true
theorem d_X2_hasPlace_0 : decode (mB M_X2_hasPlace) 0 = .ok (.iload_n 1, 1) := by decide +kernel
theorem d_X2_hasPlace_1 : decode (mB M_X2_hasPlace) 1 = .ok (.ifCond .lt 27, 3) := by decide +kernel
theorem d_X2_hasPlace_4 : decode (mB M_X2_hasPlace) 4 = .ok (.iload_n 1, 1) := by decide +kernel
theorem d_X2_hasPlace_5 : decode (mB M_X2_hasPlace) 5 = .ok (.aload_n 0, 1) := by decide +kernel
theorem d_X2_hasPlace_6 : decode (mB M_X2_hasPlace) 6 = .ok (.getfield 9, 3) := by decide +kernel
theorem d_X2_hasPlace_9 : decode (mB M_X2_hasPlace) 9 = .ok (.if_icmp .ge 19, 3) := by decide +kernel
theorem d_X2_hasPlace_12 : decode (mB M_X2_hasPlace) 12 = .ok (.iload_n 2, 1) := by decide +kernel
theorem d_X2_hasPlace_13 : decode (mB M_X2_hasPlace) 13 = .ok (.ifCond .lt 15, 3) := by decide +kernel
theorem d_X2_hasPlace_16 : decode (mB M_X2_hasPlace) 16 = .ok (.iload_n 2, 1) := by decide +kernel
theorem d_X2_hasPlace_17 : decode (mB M_X2_hasPlace) 17 = .ok (.aload_n 0, 1) := by decide +kernel
theorem d_X2_hasPlace_18 : decode (mB M_X2_hasPlace) 18 = .ok (.getfield 15, 3) := by decide +kernel
theorem d_X2_hasPlace_21 : decode (mB M_X2_hasPlace) 21 = .ok (.if_icmp .ge 7, 3) := by decide +kernel
theorem d_X2_hasPlace_24 : decode (mB M_X2_hasPlace) 24 = .ok (.iconst 1, 1) := by decide +kernel
theorem d_X2_hasPlace_25 : decode (mB M_X2_hasPlace) 25 = .ok (.goto 4, 3) := by decide +kernel
theorem d_X2_hasPlace_28 : decode (mB M_X2_hasPlace) 28 = .ok (.iconst 0, 1) := by decide +kernel
theorem d_X2_hasPlace_29 : decode (mB M_X2_hasPlace) 29 = .ok (.ireturn, 1) := by decide +kernel
theorem c_hasPlace {E : mEnv} (hE : E.1.stackTraces = false) (r : Nat) (g : gT) (w : mW) (hg : mget w r = some (gcell g)) (i j : Int32) : Rt E M_X2_hasPlace 0 [.ref r, .int i, .int j] w (some (.int (bI (gHp g i j)))) w := by
  refine Rt.of hE rfl pn_X2 (Nat.le_of_ble_eq_true rfl) ?_
  refine g_eq (S' := (0, [some (.ref r), some (.int i), some (.int j)], [], w)) rfl ?_
  refine g_iload_n d_X2_hasPlace_0 rfl ?_
  refine g_if_lt (tgt := 28) d_X2_hasPlace_1 (by decide) (fun c_1 => ?_) (fun c_1 => ?_)
  · refine g_iconst (v := 0) d_X2_hasPlace_28 (by decide) ?_
    exact g_retZ d_X2_hasPlace_29 rfl (by decide) (by simp [gHp, bI, *]) (rfl)
  · refine g_iload_n d_X2_hasPlace_4 rfl ?_
    refine g_aload_n d_X2_hasPlace_5 rfl ?_
    refine g_getf d_X2_hasPlace_6 f_X2_9 hg rfl ?_
    refine g_icmp_ge (tgt := 28) d_X2_hasPlace_9 (by decide) (fun c_9 => ?_) (fun c_9 => ?_)
    · refine g_iconst (v := 0) d_X2_hasPlace_28 (by decide) ?_
      exact g_retZ d_X2_hasPlace_29 rfl (by decide) (by simp [gHp, bI, *]) (rfl)
    · refine g_iload_n d_X2_hasPlace_12 rfl ?_
      refine g_if_lt (tgt := 28) d_X2_hasPlace_13 (by decide) (fun c_13 => ?_) (fun c_13 => ?_)
      · refine g_iconst (v := 0) d_X2_hasPlace_28 (by decide) ?_
        exact g_retZ d_X2_hasPlace_29 rfl (by decide) (by simp [gHp, bI, *]) (rfl)
      · refine g_iload_n d_X2_hasPlace_16 rfl ?_
        refine g_aload_n d_X2_hasPlace_17 rfl ?_
        refine g_getf d_X2_hasPlace_18 f_X2_15 hg rfl ?_
        refine g_icmp_ge (tgt := 28) d_X2_hasPlace_21 (by decide) (fun c_21 => ?_) (fun c_21 => ?_)
        · refine g_iconst (v := 0) d_X2_hasPlace_28 (by decide) ?_
          exact g_retZ d_X2_hasPlace_29 rfl (by decide) (by simp [gHp, bI, *]) (rfl)
        · refine g_iconst (v := 1) d_X2_hasPlace_24 (by decide) ?_
          refine g_goto (tgt := 29) d_X2_hasPlace_25 (by decide) ?_
          exact g_retZ d_X2_hasPlace_29 rfl (by decide) (by simp [gHp, bI, *]) (rfl)
def gLpL (g : gT) (s : Int64) : Nat → Nat → Int64 → Int64
  | 0, _, q => q
  | n + 1, k, q => gLpL g s n (k + 1) (q ||| gMv g (s &&& gMv g (gO g) (nI k)) (nI k))
def gLp (g : gT) (s : Int64) : Int64 := gLpL g s 4 0 0
theorem d_X2_lonePushed_0 : decode (mB M_X2_lonePushed) 0 = .ok (.lconst 0, 1) := by decide +kernel
theorem d_X2_lonePushed_1 : decode (mB M_X2_lonePushed) 1 = .ok (.lstore_n 3, 1) := by decide +kernel
theorem d_X2_lonePushed_2 : decode (mB M_X2_lonePushed) 2 = .ok (.iconst 0, 1) := by decide +kernel
theorem d_X2_lonePushed_3 : decode (mB M_X2_lonePushed) 3 = .ok (.istore 5, 2) := by decide +kernel
theorem d_X2_lonePushed_5 : decode (mB M_X2_lonePushed) 5 = .ok (.iload 5, 2) := by decide +kernel
theorem d_X2_lonePushed_7 : decode (mB M_X2_lonePushed) 7 = .ok (.iconst 4, 1) := by decide +kernel
theorem d_X2_lonePushed_8 : decode (mB M_X2_lonePushed) 8 = .ok (.if_icmp .ge 30, 3) := by decide +kernel
theorem d_X2_lonePushed_11 : decode (mB M_X2_lonePushed) 11 = .ok (.lload_n 3, 1) := by decide +kernel
theorem d_X2_lonePushed_12 : decode (mB M_X2_lonePushed) 12 = .ok (.aload_n 0, 1) := by decide +kernel
theorem d_X2_lonePushed_13 : decode (mB M_X2_lonePushed) 13 = .ok (.lload_n 1, 1) := by decide +kernel
theorem d_X2_lonePushed_14 : decode (mB M_X2_lonePushed) 14 = .ok (.aload_n 0, 1) := by decide +kernel
theorem d_X2_lonePushed_15 : decode (mB M_X2_lonePushed) 15 = .ok (.aload_n 0, 1) := by decide +kernel
theorem d_X2_lonePushed_16 : decode (mB M_X2_lonePushed) 16 = .ok (.getfield 18, 3) := by decide +kernel
theorem d_X2_lonePushed_19 : decode (mB M_X2_lonePushed) 19 = .ok (.iload 5, 2) := by decide +kernel
theorem d_X2_lonePushed_21 : decode (mB M_X2_lonePushed) 21 = .ok (.invokevirtual 50, 3) := by decide +kernel
theorem d_X2_lonePushed_24 : decode (mB M_X2_lonePushed) 24 = .ok (.land, 1) := by decide +kernel
theorem d_X2_lonePushed_25 : decode (mB M_X2_lonePushed) 25 = .ok (.iload 5, 2) := by decide +kernel
theorem d_X2_lonePushed_27 : decode (mB M_X2_lonePushed) 27 = .ok (.invokevirtual 50, 3) := by decide +kernel
theorem d_X2_lonePushed_30 : decode (mB M_X2_lonePushed) 30 = .ok (.lor, 1) := by decide +kernel
theorem d_X2_lonePushed_31 : decode (mB M_X2_lonePushed) 31 = .ok (.lstore_n 3, 1) := by decide +kernel
theorem d_X2_lonePushed_32 : decode (mB M_X2_lonePushed) 32 = .ok (.iinc 5 1, 3) := by decide +kernel
theorem d_X2_lonePushed_35 : decode (mB M_X2_lonePushed) 35 = .ok (.goto (-30), 3) := by decide +kernel
theorem d_X2_lonePushed_38 : decode (mB M_X2_lonePushed) 38 = .ok (.lload_n 3, 1) := by decide +kernel
theorem d_X2_lonePushed_39 : decode (mB M_X2_lonePushed) 39 = .ok (.lreturn, 1) := by decide +kernel
theorem l_lonePushed {E : mEnv} (hE : E.1.stackTraces = false) (r : Nat) (g : gT) (w : mW) (hg : mget w r = some (gcell g)) (s : Int64) : ∀ (n : Nat) (k : Nat) (q : Int64), k + n = 4 → Go E M_X2_lonePushed 0 (5, [some (.ref r), some (.long s), none, some (.long q), none, some (.int (nI k))], [], w) (.inr (.inl (some (.long (gLpL g s n k q)), w))) := by
  intro n
  induction n with
  | zero =>
    intro k q hk
    obtain rfl : k = 4 := by omega
    refine g_iload d_X2_lonePushed_5 rfl ?_
    refine g_iconst (v := 4) d_X2_lonePushed_7 (by decide) ?_
    refine g_icmp_ge (tgt := 38) d_X2_lonePushed_8 (by decide) (fun c_8 => ?_) (fun c_8 => absurd c_8 (absurd (nI_le (Nat.le_refl 4) (by decide)) c_8))
    refine g_lload_n d_X2_lonePushed_38 rfl ?_
    exact g_retL d_X2_lonePushed_39 rfl (rfl) (rfl)
  | succ n ih =>
    intro k q hk
    refine g_iload d_X2_lonePushed_5 rfl ?_
    refine g_iconst (v := 4) d_X2_lonePushed_7 (by decide) ?_
    refine g_icmp_ge (tgt := 38) d_X2_lonePushed_8 (by decide) (fun c_8 => absurd c_8 (nI_ge (a := k) (b := 4) (by omega) (by decide))) (fun c_8 => ?_)
    refine g_lload_n d_X2_lonePushed_11 rfl ?_
    refine g_aload_n d_X2_lonePushed_12 rfl ?_
    refine g_lload_n d_X2_lonePushed_13 rfl ?_
    refine g_aload_n d_X2_lonePushed_14 rfl ?_
    refine g_aload_n d_X2_lonePushed_15 rfl ?_
    refine g_getf d_X2_lonePushed_16 f_X2_18 hg rfl ?_
    refine g_iload d_X2_lonePushed_19 rfl ?_
    refine g_callV (As := [.long (gO g), .int (nI k)]) d_X2_lonePushed_21 o_X2_moved l_X2_50 ⟨Nat.le_of_ble_eq_true rfl, Nat.le_of_ble_eq_true rfl⟩ (c_moved hE r g w hg (gO g) (nI k)) hg rfl rfl rfl rfl rfl ?_ (Nat.zero_add _)
    refine g_land d_X2_lonePushed_24 ?_
    refine g_iload d_X2_lonePushed_25 rfl ?_
    refine g_callV (As := [.long (s &&& (gMv g (gO g) (nI k))), .int (nI k)]) d_X2_lonePushed_27 o_X2_moved l_X2_50 ⟨Nat.le_of_ble_eq_true rfl, Nat.le_of_ble_eq_true rfl⟩ (c_moved hE r g w hg (s &&& (gMv g (gO g) (nI k))) (nI k)) hg rfl rfl rfl rfl rfl ?_ (Nat.zero_add _)
    refine g_lor d_X2_lonePushed_30 ?_
    refine g_lstore_n (L' := [some (.ref r), some (.long s), none, some (.long (q ||| (gMv g (s &&& (gMv g (gO g) (nI k))) (nI k)))), none, some (.int (nI k))]) d_X2_lonePushed_31 rfl rfl ?_
    refine g_iinc (v := ((nI k) + 1)) (L' := [some (.ref r), some (.long s), none, some (.long (q ||| (gMv g (s &&& (gMv g (gO g) (nI k))) (nI k)))), none, some (.int ((nI k) + 1))]) d_X2_lonePushed_32 rfl rfl rfl ?_
    refine g_goto (tgt := 5) d_X2_lonePushed_35 (by decide) ?_
    refine g_eq (S' := (5, [some (.ref r), some (.long s), none, some (.long (q ||| gMv g (s &&& gMv g (gO g) (nI k)) (nI k))), none, some (.int (nI (k + 1)))], [], w)) (by first | rfl | (rw [nI_1]; rfl) | (simp only [nI_1]; rfl) | simp only [nI_1]) ?_
    exact ih (k + 1) _ (by omega)
theorem c_lonePushed {E : mEnv} (hE : E.1.stackTraces = false) (r : Nat) (g : gT) (w : mW) (hg : mget w r = some (gcell g)) (s : Int64) : Rt E M_X2_lonePushed 0 [.ref r, .long s] w (some (.long (gLp g s))) w := by
  refine Rt.of hE rfl pn_X2 (Nat.le_of_ble_eq_true rfl) ?_
  refine g_eq (S' := (0, [some (.ref r), some (.long s), none, none, none, none], [], w)) rfl ?_
  refine g_lconst (v := 0) d_X2_lonePushed_0 (by decide) ?_
  refine g_lstore_n (L' := [some (.ref r), some (.long s), none, some (.long 0), none, none]) d_X2_lonePushed_1 rfl rfl ?_
  refine g_iconst (v := 0) d_X2_lonePushed_2 (by decide) ?_
  refine g_istore (L' := [some (.ref r), some (.long s), none, some (.long 0), none, some (.int 0)]) d_X2_lonePushed_3 rfl rfl ?_
  refine g_eq (S' := (5, [some (.ref r), some (.long s), none, some (.long 0), none, some (.int (nI 0))], [], w)) (rfl) ?_
  exact l_lonePushed hE r g w hg s 4 0 _ (by omega)
def gLeL (g : gT) (t : Int64) : Nat → Nat → Int64 → Int64 → Int32
  | 0, _, _, _ => -1
  | n + 1, k, a, b => if a = 0 then -1 else if a &&& t = 0 then gLeL g t n (k + 1) (gLp g a &&& (b ^^^ (-1))) (b ||| (gLp g a &&& (b ^^^ (-1)))) else nI k
def gLe (g : gT) (s t : Int64) : Int32 := gLeL g t 64 0 s s
theorem d_X2_leastPushes_0 : decode (mB M_X2_leastPushes) 0 = .ok (.lload_n 1, 1) := by decide +kernel
theorem d_X2_leastPushes_1 : decode (mB M_X2_leastPushes) 1 = .ok (.lstore 5, 2) := by decide +kernel
theorem d_X2_leastPushes_3 : decode (mB M_X2_leastPushes) 3 = .ok (.lload_n 1, 1) := by decide +kernel
theorem d_X2_leastPushes_4 : decode (mB M_X2_leastPushes) 4 = .ok (.lstore 7, 2) := by decide +kernel
theorem d_X2_leastPushes_6 : decode (mB M_X2_leastPushes) 6 = .ok (.iconst 0, 1) := by decide +kernel
theorem d_X2_leastPushes_7 : decode (mB M_X2_leastPushes) 7 = .ok (.istore 9, 2) := by decide +kernel
theorem d_X2_leastPushes_9 : decode (mB M_X2_leastPushes) 9 = .ok (.iload 9, 2) := by decide +kernel
theorem d_X2_leastPushes_11 : decode (mB M_X2_leastPushes) 11 = .ok (.bipush 64, 2) := by decide +kernel
theorem d_X2_leastPushes_13 : decode (mB M_X2_leastPushes) 13 = .ok (.if_icmp .ge 50, 3) := by decide +kernel
theorem d_X2_leastPushes_16 : decode (mB M_X2_leastPushes) 16 = .ok (.lload 5, 2) := by decide +kernel
theorem d_X2_leastPushes_18 : decode (mB M_X2_leastPushes) 18 = .ok (.lconst 0, 1) := by decide +kernel
theorem d_X2_leastPushes_19 : decode (mB M_X2_leastPushes) 19 = .ok (.lcmp, 1) := by decide +kernel
theorem d_X2_leastPushes_20 : decode (mB M_X2_leastPushes) 20 = .ok (.ifCond .eq 43, 3) := by decide +kernel
theorem d_X2_leastPushes_23 : decode (mB M_X2_leastPushes) 23 = .ok (.lload 5, 2) := by decide +kernel
theorem d_X2_leastPushes_25 : decode (mB M_X2_leastPushes) 25 = .ok (.lload_n 3, 1) := by decide +kernel
theorem d_X2_leastPushes_26 : decode (mB M_X2_leastPushes) 26 = .ok (.land, 1) := by decide +kernel
theorem d_X2_leastPushes_27 : decode (mB M_X2_leastPushes) 27 = .ok (.lconst 0, 1) := by decide +kernel
theorem d_X2_leastPushes_28 : decode (mB M_X2_leastPushes) 28 = .ok (.lcmp, 1) := by decide +kernel
theorem d_X2_leastPushes_29 : decode (mB M_X2_leastPushes) 29 = .ok (.ifCond .eq 6, 3) := by decide +kernel
theorem d_X2_leastPushes_32 : decode (mB M_X2_leastPushes) 32 = .ok (.iload 9, 2) := by decide +kernel
theorem d_X2_leastPushes_34 : decode (mB M_X2_leastPushes) 34 = .ok (.ireturn, 1) := by decide +kernel
theorem d_X2_leastPushes_35 : decode (mB M_X2_leastPushes) 35 = .ok (.aload_n 0, 1) := by decide +kernel
theorem d_X2_leastPushes_36 : decode (mB M_X2_leastPushes) 36 = .ok (.lload 5, 2) := by decide +kernel
theorem d_X2_leastPushes_38 : decode (mB M_X2_leastPushes) 38 = .ok (.invokevirtual 65, 3) := by decide +kernel
theorem d_X2_leastPushes_41 : decode (mB M_X2_leastPushes) 41 = .ok (.lload 7, 2) := by decide +kernel
theorem d_X2_leastPushes_43 : decode (mB M_X2_leastPushes) 43 = .ok (.ldc2_w 48, 3) := by decide +kernel
theorem d_X2_leastPushes_46 : decode (mB M_X2_leastPushes) 46 = .ok (.lxor, 1) := by decide +kernel
theorem d_X2_leastPushes_47 : decode (mB M_X2_leastPushes) 47 = .ok (.land, 1) := by decide +kernel
theorem d_X2_leastPushes_48 : decode (mB M_X2_leastPushes) 48 = .ok (.lstore 5, 2) := by decide +kernel
theorem d_X2_leastPushes_50 : decode (mB M_X2_leastPushes) 50 = .ok (.lload 7, 2) := by decide +kernel
theorem d_X2_leastPushes_52 : decode (mB M_X2_leastPushes) 52 = .ok (.lload 5, 2) := by decide +kernel
theorem d_X2_leastPushes_54 : decode (mB M_X2_leastPushes) 54 = .ok (.lor, 1) := by decide +kernel
theorem d_X2_leastPushes_55 : decode (mB M_X2_leastPushes) 55 = .ok (.lstore 7, 2) := by decide +kernel
theorem d_X2_leastPushes_57 : decode (mB M_X2_leastPushes) 57 = .ok (.iinc 9 1, 3) := by decide +kernel
theorem d_X2_leastPushes_60 : decode (mB M_X2_leastPushes) 60 = .ok (.goto (-51), 3) := by decide +kernel
theorem d_X2_leastPushes_63 : decode (mB M_X2_leastPushes) 63 = .ok (.iconst (-1), 1) := by decide +kernel
theorem d_X2_leastPushes_64 : decode (mB M_X2_leastPushes) 64 = .ok (.ireturn, 1) := by decide +kernel
theorem l_leastPushes {E : mEnv} (hE : E.1.stackTraces = false) (r : Nat) (g : gT) (w : mW) (hg : mget w r = some (gcell g)) (t : Int64) : ∀ (n : Nat) (k : Nat) (a b : Int64), k + n = 64 → Go E M_X2_leastPushes 0 (9, [some (.ref r), none, none, some (.long t), none, some (.long a), none, some (.long b), none, some (.int (nI k))], [], w) (.inr (.inl (some (.int (gLeL g t n k a b)), w))) := by
  intro n
  induction n with
  | zero =>
    intro k a b hk
    obtain rfl : k = 64 := by omega
    refine g_iload d_X2_leastPushes_9 rfl ?_
    refine g_bipush (v := 64) d_X2_leastPushes_11 (by decide) ?_
    refine g_icmp_ge (tgt := 63) d_X2_leastPushes_13 (by decide) (fun c_13 => ?_) (fun c_13 => absurd c_13 (absurd (nI_le (Nat.le_refl 64) (by decide)) c_13))
    refine g_iconst (v := (-1)) d_X2_leastPushes_63 (by decide) ?_
    exact g_retI d_X2_leastPushes_64 rfl (rfl) (rfl)
  | succ n ih =>
    intro k a b hk
    refine g_iload d_X2_leastPushes_9 rfl ?_
    refine g_bipush (v := 64) d_X2_leastPushes_11 (by decide) ?_
    refine g_icmp_ge (tgt := 63) d_X2_leastPushes_13 (by decide) (fun c_13 => absurd c_13 (nI_ge (a := k) (b := 64) (by omega) (by decide))) (fun c_13 => ?_)
    refine g_lload d_X2_leastPushes_16 rfl ?_
    refine g_lconst (v := 0) d_X2_leastPushes_18 (by decide) ?_
    refine g_lcmp_eq (tgt := 63) d_X2_leastPushes_19 d_X2_leastPushes_20 (by decide) (fun c_19 => ?_) (fun c_19 => ?_)
    · refine g_iconst (v := (-1)) d_X2_leastPushes_63 (by decide) ?_
      exact g_retI d_X2_leastPushes_64 rfl (by simp only [gLeL, eq_true c_19, ↓reduceIte, Bool.false_eq_true]) (rfl)
    · refine g_lload d_X2_leastPushes_23 rfl ?_
      refine g_lload_n d_X2_leastPushes_25 rfl ?_
      refine g_land d_X2_leastPushes_26 ?_
      refine g_lconst (v := 0) d_X2_leastPushes_27 (by decide) ?_
      refine g_lcmp_eq (tgt := 35) d_X2_leastPushes_28 d_X2_leastPushes_29 (by decide) (fun c_28 => ?_) (fun c_28 => ?_)
      · refine g_aload_n d_X2_leastPushes_35 rfl ?_
        refine g_lload d_X2_leastPushes_36 rfl ?_
        refine g_callV (As := [.long a]) d_X2_leastPushes_38 o_X2_lonePushed l_X2_65 ⟨Nat.le_of_ble_eq_true rfl, Nat.le_of_ble_eq_true rfl⟩ (c_lonePushed hE r g w hg a) hg rfl rfl rfl rfl rfl ?_ (Nat.zero_add _)
        refine g_lload d_X2_leastPushes_41 rfl ?_
        refine g_ldc2 (v := (-1)) d_X2_leastPushes_43 k_X2_48 ?_
        refine g_lxor d_X2_leastPushes_46 ?_
        refine g_land d_X2_leastPushes_47 ?_
        refine g_lstore (L' := [some (.ref r), none, none, some (.long t), none, some (.long ((gLp g a) &&& (b ^^^ (-1)))), none, some (.long b), none, some (.int (nI k))]) d_X2_leastPushes_48 rfl rfl ?_
        refine g_lload d_X2_leastPushes_50 rfl ?_
        refine g_lload d_X2_leastPushes_52 rfl ?_
        refine g_lor d_X2_leastPushes_54 ?_
        refine g_lstore (L' := [some (.ref r), none, none, some (.long t), none, some (.long ((gLp g a) &&& (b ^^^ (-1)))), none, some (.long (b ||| ((gLp g a) &&& (b ^^^ (-1))))), none, some (.int (nI k))]) d_X2_leastPushes_55 rfl rfl ?_
        refine g_iinc (v := ((nI k) + 1)) (L' := [some (.ref r), none, none, some (.long t), none, some (.long ((gLp g a) &&& (b ^^^ (-1)))), none, some (.long (b ||| ((gLp g a) &&& (b ^^^ (-1))))), none, some (.int ((nI k) + 1))]) d_X2_leastPushes_57 rfl rfl rfl ?_
        refine g_goto (tgt := 9) d_X2_leastPushes_60 (by decide) ?_
        refine g_eq (S' := (9, [some (.ref r), none, none, some (.long t), none, some (.long (gLp g a &&& (b ^^^ (-1)))), none, some (.long (b ||| (gLp g a &&& (b ^^^ (-1))))), none, some (.int (nI (k + 1)))], [], w)) (by first | rfl | (rw [nI_1]; rfl) | (simp only [nI_1]; rfl) | simp only [nI_1]) ?_
        rw [show gLeL g t (n + 1) k a b = gLeL g t n (k + 1) (gLp g a &&& (b ^^^ (-1))) (b ||| (gLp g a &&& (b ^^^ (-1)))) by simp only [gLeL, *, ↓reduceIte]]
        exact ih (k + 1) _ _ (by omega)
      · refine g_iload d_X2_leastPushes_32 rfl ?_
        exact g_retI d_X2_leastPushes_34 rfl (by simp only [gLeL, eq_false c_19, eq_false c_28, ↓reduceIte, Bool.false_eq_true]) (rfl)
theorem c_leastPushes {E : mEnv} (hE : E.1.stackTraces = false) (r : Nat) (g : gT) (w : mW) (hg : mget w r = some (gcell g)) (s t : Int64) : Rt E M_X2_leastPushes 0 [.ref r, .long s, .long t] w (some (.int (gLe g s t))) w := by
  refine Rt.of hE rfl pn_X2 (Nat.le_of_ble_eq_true rfl) ?_
  refine g_eq (S' := (0, [some (.ref r), some (.long s), none, some (.long t), none, none, none, none, none, none], [], w)) rfl ?_
  refine g_lload_n d_X2_leastPushes_0 rfl ?_
  refine g_lstore (L' := [some (.ref r), some (.long s), none, some (.long t), none, some (.long s), none, none, none, none]) d_X2_leastPushes_1 rfl rfl ?_
  refine g_lload_n d_X2_leastPushes_3 rfl ?_
  refine g_lstore (L' := [some (.ref r), some (.long s), none, some (.long t), none, some (.long s), none, some (.long s), none, none]) d_X2_leastPushes_4 rfl rfl ?_
  refine g_iconst (v := 0) d_X2_leastPushes_6 (by decide) ?_
  refine g_istore (L' := [some (.ref r), some (.long s), none, some (.long t), none, some (.long s), none, some (.long s), none, some (.int 0)]) d_X2_leastPushes_7 rfl rfl ?_
  refine g_drop [1] (L1 := [some (.ref r), none, none, some (.long t), none, some (.long s), none, some (.long s), none, some (.int 0)]) rfl ?_
  refine g_eq (S' := (9, [some (.ref r), none, none, some (.long t), none, some (.long s), none, some (.long s), none, some (.int (nI 0))], [], w)) (rfl) ?_
  exact l_leastPushes hE r g w hg t 64 0 _ _ (by omega)
def gGrL (g : gT) (s : Int64) : Nat → Int64 → Int32 → Int32
  | 0, _, m => m
  | n + 1, q, m => if q = 0 then m else gGrL g s n (q &&& (gSp g (q &&& (-q)) s ^^^ (-1))) (m + 1)
def gGr (g : gT) (s : Int64) : Int32 := gGrL g s 64 s 0
theorem d_X2_groups_0 : decode (mB M_X2_groups) 0 = .ok (.iconst 0, 1) := by decide +kernel
theorem d_X2_groups_1 : decode (mB M_X2_groups) 1 = .ok (.istore_n 3, 1) := by decide +kernel
theorem d_X2_groups_2 : decode (mB M_X2_groups) 2 = .ok (.lload_n 1, 1) := by decide +kernel
theorem d_X2_groups_3 : decode (mB M_X2_groups) 3 = .ok (.lstore 4, 2) := by decide +kernel
theorem d_X2_groups_5 : decode (mB M_X2_groups) 5 = .ok (.iconst 0, 1) := by decide +kernel
theorem d_X2_groups_6 : decode (mB M_X2_groups) 6 = .ok (.istore 6, 2) := by decide +kernel
theorem d_X2_groups_8 : decode (mB M_X2_groups) 8 = .ok (.iload 6, 2) := by decide +kernel
theorem d_X2_groups_10 : decode (mB M_X2_groups) 10 = .ok (.bipush 64, 2) := by decide +kernel
theorem d_X2_groups_12 : decode (mB M_X2_groups) 12 = .ok (.if_icmp .ge 39, 3) := by decide +kernel
theorem d_X2_groups_15 : decode (mB M_X2_groups) 15 = .ok (.lload 4, 2) := by decide +kernel
theorem d_X2_groups_17 : decode (mB M_X2_groups) 17 = .ok (.lconst 0, 1) := by decide +kernel
theorem d_X2_groups_18 : decode (mB M_X2_groups) 18 = .ok (.lcmp, 1) := by decide +kernel
theorem d_X2_groups_19 : decode (mB M_X2_groups) 19 = .ok (.ifCond .eq 32, 3) := by decide +kernel
theorem d_X2_groups_22 : decode (mB M_X2_groups) 22 = .ok (.lload 4, 2) := by decide +kernel
theorem d_X2_groups_24 : decode (mB M_X2_groups) 24 = .ok (.aload_n 0, 1) := by decide +kernel
theorem d_X2_groups_25 : decode (mB M_X2_groups) 25 = .ok (.lload 4, 2) := by decide +kernel
theorem d_X2_groups_27 : decode (mB M_X2_groups) 27 = .ok (.lload 4, 2) := by decide +kernel
theorem d_X2_groups_29 : decode (mB M_X2_groups) 29 = .ok (.lneg, 1) := by decide +kernel
theorem d_X2_groups_30 : decode (mB M_X2_groups) 30 = .ok (.land, 1) := by decide +kernel
theorem d_X2_groups_31 : decode (mB M_X2_groups) 31 = .ok (.lload_n 1, 1) := by decide +kernel
theorem d_X2_groups_32 : decode (mB M_X2_groups) 32 = .ok (.invokevirtual 57, 3) := by decide +kernel
theorem d_X2_groups_35 : decode (mB M_X2_groups) 35 = .ok (.ldc2_w 48, 3) := by decide +kernel
theorem d_X2_groups_38 : decode (mB M_X2_groups) 38 = .ok (.lxor, 1) := by decide +kernel
theorem d_X2_groups_39 : decode (mB M_X2_groups) 39 = .ok (.land, 1) := by decide +kernel
theorem d_X2_groups_40 : decode (mB M_X2_groups) 40 = .ok (.lstore 4, 2) := by decide +kernel
theorem d_X2_groups_42 : decode (mB M_X2_groups) 42 = .ok (.iinc 3 1, 3) := by decide +kernel
theorem d_X2_groups_45 : decode (mB M_X2_groups) 45 = .ok (.iinc 6 1, 3) := by decide +kernel
theorem d_X2_groups_48 : decode (mB M_X2_groups) 48 = .ok (.goto (-40), 3) := by decide +kernel
theorem d_X2_groups_51 : decode (mB M_X2_groups) 51 = .ok (.iload_n 3, 1) := by decide +kernel
theorem d_X2_groups_52 : decode (mB M_X2_groups) 52 = .ok (.ireturn, 1) := by decide +kernel
theorem l_groups {E : mEnv} (hE : E.1.stackTraces = false) (r : Nat) (g : gT) (w : mW) (hg : mget w r = some (gcell g)) (s : Int64) : ∀ (n : Nat) (k : Nat) (q : Int64) (m : Int32), k + n = 64 → Go E M_X2_groups 0 (8, [some (.ref r), some (.long s), none, some (.int m), some (.long q), none, some (.int (nI k))], [], w) (.inr (.inl (some (.int (gGrL g s n q m)), w))) := by
  intro n
  induction n with
  | zero =>
    intro k q m hk
    obtain rfl : k = 64 := by omega
    refine g_iload d_X2_groups_8 rfl ?_
    refine g_bipush (v := 64) d_X2_groups_10 (by decide) ?_
    refine g_icmp_ge (tgt := 51) d_X2_groups_12 (by decide) (fun c_12 => ?_) (fun c_12 => absurd c_12 (absurd (nI_le (Nat.le_refl 64) (by decide)) c_12))
    refine g_iload_n d_X2_groups_51 rfl ?_
    exact g_retI d_X2_groups_52 rfl (rfl) (rfl)
  | succ n ih =>
    intro k q m hk
    refine g_iload d_X2_groups_8 rfl ?_
    refine g_bipush (v := 64) d_X2_groups_10 (by decide) ?_
    refine g_icmp_ge (tgt := 51) d_X2_groups_12 (by decide) (fun c_12 => absurd c_12 (nI_ge (a := k) (b := 64) (by omega) (by decide))) (fun c_12 => ?_)
    refine g_lload d_X2_groups_15 rfl ?_
    refine g_lconst (v := 0) d_X2_groups_17 (by decide) ?_
    refine g_lcmp_eq (tgt := 51) d_X2_groups_18 d_X2_groups_19 (by decide) (fun c_18 => ?_) (fun c_18 => ?_)
    · refine g_iload_n d_X2_groups_51 rfl ?_
      exact g_retI d_X2_groups_52 rfl (by simp only [gGrL, eq_true c_18, ↓reduceIte, Bool.false_eq_true]) (rfl)
    · refine g_lload d_X2_groups_22 rfl ?_
      refine g_aload_n d_X2_groups_24 rfl ?_
      refine g_lload d_X2_groups_25 rfl ?_
      refine g_lload d_X2_groups_27 rfl ?_
      refine g_lneg d_X2_groups_29 ?_
      refine g_land d_X2_groups_30 ?_
      refine g_lload_n d_X2_groups_31 rfl ?_
      refine g_callV (As := [.long (q &&& (-q)), .long s]) d_X2_groups_32 o_X2_spread l_X2_57 ⟨Nat.le_of_ble_eq_true rfl, Nat.le_of_ble_eq_true rfl⟩ (c_spread hE r g w hg (q &&& (-q)) s) hg rfl rfl rfl rfl rfl ?_ (Nat.zero_add _)
      refine g_ldc2 (v := (-1)) d_X2_groups_35 k_X2_48 ?_
      refine g_lxor d_X2_groups_38 ?_
      refine g_land d_X2_groups_39 ?_
      refine g_lstore (L' := [some (.ref r), some (.long s), none, some (.int m), some (.long (q &&& ((gSp g (q &&& (-q)) s) ^^^ (-1)))), none, some (.int (nI k))]) d_X2_groups_40 rfl rfl ?_
      refine g_iinc (v := (m + 1)) (L' := [some (.ref r), some (.long s), none, some (.int (m + 1)), some (.long (q &&& ((gSp g (q &&& (-q)) s) ^^^ (-1)))), none, some (.int (nI k))]) d_X2_groups_42 rfl rfl rfl ?_
      refine g_iinc (v := ((nI k) + 1)) (L' := [some (.ref r), some (.long s), none, some (.int (m + 1)), some (.long (q &&& ((gSp g (q &&& (-q)) s) ^^^ (-1)))), none, some (.int ((nI k) + 1))]) d_X2_groups_45 rfl rfl rfl ?_
      refine g_goto (tgt := 8) d_X2_groups_48 (by decide) ?_
      refine g_eq (S' := (8, [some (.ref r), some (.long s), none, some (.int (m + 1)), some (.long (q &&& (gSp g (q &&& (-q)) s ^^^ (-1)))), none, some (.int (nI (k + 1)))], [], w)) (by first | rfl | (rw [nI_1]; rfl) | (simp only [nI_1]; rfl) | simp only [nI_1]) ?_
      rw [show gGrL g s (n + 1) q m = gGrL g s n (q &&& (gSp g (q &&& (-q)) s ^^^ (-1))) (m + 1) by simp only [gGrL, *, ↓reduceIte]]
      exact ih (k + 1) _ _ (by omega)
theorem c_groups {E : mEnv} (hE : E.1.stackTraces = false) (r : Nat) (g : gT) (w : mW) (hg : mget w r = some (gcell g)) (s : Int64) : Rt E M_X2_groups 0 [.ref r, .long s] w (some (.int (gGr g s))) w := by
  refine Rt.of hE rfl pn_X2 (Nat.le_of_ble_eq_true rfl) ?_
  refine g_eq (S' := (0, [some (.ref r), some (.long s), none, none, none, none, none], [], w)) rfl ?_
  refine g_iconst (v := 0) d_X2_groups_0 (by decide) ?_
  refine g_istore_n (L' := [some (.ref r), some (.long s), none, some (.int 0), none, none, none]) d_X2_groups_1 rfl rfl ?_
  refine g_lload_n d_X2_groups_2 rfl ?_
  refine g_lstore (L' := [some (.ref r), some (.long s), none, some (.int 0), some (.long s), none, none]) d_X2_groups_3 rfl rfl ?_
  refine g_iconst (v := 0) d_X2_groups_5 (by decide) ?_
  refine g_istore (L' := [some (.ref r), some (.long s), none, some (.int 0), some (.long s), none, some (.int 0)]) d_X2_groups_6 rfl rfl ?_
  refine g_eq (S' := (8, [some (.ref r), some (.long s), none, some (.int 0), some (.long s), none, some (.int (nI 0))], [], w)) (rfl) ?_
  exact l_groups hE r g w hg s 64 0 _ _ (by omega)
def gPlI (g : gT) (q : Int64) : Nat → Nat → Int64 → Int64
  | 0, _, m => m
  | n + 1, k, m => gPlI g q n (k + 1) (m ||| (gMv g q ((nI k + 2) &&& 3) &&& gMv g (gO g) (nI k)))
def gPlS (g : gT) (q : Int64) : Int64 := gPlI g q 4 0 q
def gPlL (g : gT) : Nat → Int64 → Int64
  | 0, q => q
  | n + 1, q => if gPlS g q = q then q else gPlL g n (gPlS g q)
def gPl (g : gT) (s : Int64) : Int64 := gPlL g 64 s
theorem d_X2_pulled_0 : decode (mB M_X2_pulled) 0 = .ok (.lload_n 1, 1) := by decide +kernel
theorem d_X2_pulled_1 : decode (mB M_X2_pulled) 1 = .ok (.lstore_n 3, 1) := by decide +kernel
theorem d_X2_pulled_2 : decode (mB M_X2_pulled) 2 = .ok (.iconst 0, 1) := by decide +kernel
theorem d_X2_pulled_3 : decode (mB M_X2_pulled) 3 = .ok (.istore 5, 2) := by decide +kernel
theorem d_X2_pulled_5 : decode (mB M_X2_pulled) 5 = .ok (.iload 5, 2) := by decide +kernel
theorem d_X2_pulled_7 : decode (mB M_X2_pulled) 7 = .ok (.bipush 64, 2) := by decide +kernel
theorem d_X2_pulled_9 : decode (mB M_X2_pulled) 9 = .ok (.if_icmp .ge 66, 3) := by decide +kernel
theorem d_X2_pulled_12 : decode (mB M_X2_pulled) 12 = .ok (.lload_n 3, 1) := by decide +kernel
theorem d_X2_pulled_13 : decode (mB M_X2_pulled) 13 = .ok (.lstore 6, 2) := by decide +kernel
theorem d_X2_pulled_15 : decode (mB M_X2_pulled) 15 = .ok (.iconst 0, 1) := by decide +kernel
theorem d_X2_pulled_16 : decode (mB M_X2_pulled) 16 = .ok (.istore 8, 2) := by decide +kernel
theorem d_X2_pulled_18 : decode (mB M_X2_pulled) 18 = .ok (.iload 8, 2) := by decide +kernel
theorem d_X2_pulled_20 : decode (mB M_X2_pulled) 20 = .ok (.iconst 4, 1) := by decide +kernel
theorem d_X2_pulled_21 : decode (mB M_X2_pulled) 21 = .ok (.if_icmp .ge 35, 3) := by decide +kernel
theorem d_X2_pulled_24 : decode (mB M_X2_pulled) 24 = .ok (.lload 6, 2) := by decide +kernel
theorem d_X2_pulled_26 : decode (mB M_X2_pulled) 26 = .ok (.aload_n 0, 1) := by decide +kernel
theorem d_X2_pulled_27 : decode (mB M_X2_pulled) 27 = .ok (.lload_n 3, 1) := by decide +kernel
theorem d_X2_pulled_28 : decode (mB M_X2_pulled) 28 = .ok (.iload 8, 2) := by decide +kernel
theorem d_X2_pulled_30 : decode (mB M_X2_pulled) 30 = .ok (.invokestatic 61, 3) := by decide +kernel
theorem d_X2_pulled_33 : decode (mB M_X2_pulled) 33 = .ok (.invokevirtual 50, 3) := by decide +kernel
theorem d_X2_pulled_36 : decode (mB M_X2_pulled) 36 = .ok (.aload_n 0, 1) := by decide +kernel
theorem d_X2_pulled_37 : decode (mB M_X2_pulled) 37 = .ok (.aload_n 0, 1) := by decide +kernel
theorem d_X2_pulled_38 : decode (mB M_X2_pulled) 38 = .ok (.getfield 18, 3) := by decide +kernel
theorem d_X2_pulled_41 : decode (mB M_X2_pulled) 41 = .ok (.iload 8, 2) := by decide +kernel
theorem d_X2_pulled_43 : decode (mB M_X2_pulled) 43 = .ok (.invokevirtual 50, 3) := by decide +kernel
theorem d_X2_pulled_46 : decode (mB M_X2_pulled) 46 = .ok (.land, 1) := by decide +kernel
theorem d_X2_pulled_47 : decode (mB M_X2_pulled) 47 = .ok (.lor, 1) := by decide +kernel
theorem d_X2_pulled_48 : decode (mB M_X2_pulled) 48 = .ok (.lstore 6, 2) := by decide +kernel
theorem d_X2_pulled_50 : decode (mB M_X2_pulled) 50 = .ok (.iinc 8 1, 3) := by decide +kernel
theorem d_X2_pulled_53 : decode (mB M_X2_pulled) 53 = .ok (.goto (-35), 3) := by decide +kernel
theorem d_X2_pulled_56 : decode (mB M_X2_pulled) 56 = .ok (.lload 6, 2) := by decide +kernel
theorem d_X2_pulled_58 : decode (mB M_X2_pulled) 58 = .ok (.lload_n 3, 1) := by decide +kernel
theorem d_X2_pulled_59 : decode (mB M_X2_pulled) 59 = .ok (.lcmp, 1) := by decide +kernel
theorem d_X2_pulled_60 : decode (mB M_X2_pulled) 60 = .ok (.ifCond .ne 6, 3) := by decide +kernel
theorem d_X2_pulled_63 : decode (mB M_X2_pulled) 63 = .ok (.goto 12, 3) := by decide +kernel
theorem d_X2_pulled_66 : decode (mB M_X2_pulled) 66 = .ok (.lload 6, 2) := by decide +kernel
theorem d_X2_pulled_68 : decode (mB M_X2_pulled) 68 = .ok (.lstore_n 3, 1) := by decide +kernel
theorem d_X2_pulled_69 : decode (mB M_X2_pulled) 69 = .ok (.iinc 5 1, 3) := by decide +kernel
theorem d_X2_pulled_72 : decode (mB M_X2_pulled) 72 = .ok (.goto (-67), 3) := by decide +kernel
theorem d_X2_pulled_75 : decode (mB M_X2_pulled) 75 = .ok (.lload_n 3, 1) := by decide +kernel
theorem d_X2_pulled_76 : decode (mB M_X2_pulled) 76 = .ok (.lreturn, 1) := by decide +kernel
theorem l_pulledI {E : mEnv} (hE : E.1.stackTraces = false) (r : Nat) (g : gT) (w : mW) (hg : mget w r = some (gcell g)) (q : Int64) (j : Int32) : ∀ (n : Nat) (k : Nat) (m : Int64), k + n = 4 → Go E M_X2_pulled 0 (18, [some (.ref r), none, none, some (.long q), none, some (.int j), some (.long m), none, some (.int (nI k))], [], w) (.inl (56, [some (.ref r), none, none, some (.long q), none, some (.int j), some (.long (gPlI g q n k m)), none, none], [], w)) := by
  intro n
  induction n with
  | zero =>
    intro k m hk
    obtain rfl : k = 4 := by omega
    refine g_iload d_X2_pulled_18 rfl ?_
    refine g_iconst (v := 4) d_X2_pulled_20 (by decide) ?_
    refine g_icmp_ge (tgt := 56) d_X2_pulled_21 (by decide) (fun c_21 => ?_) (fun c_21 => absurd c_21 (absurd (nI_le (Nat.le_refl 4) (by decide)) c_21))
    refine g_drop [8] rfl ?_
    exact g_end rfl
  | succ n ih =>
    intro k m hk
    refine g_iload d_X2_pulled_18 rfl ?_
    refine g_iconst (v := 4) d_X2_pulled_20 (by decide) ?_
    refine g_icmp_ge (tgt := 56) d_X2_pulled_21 (by decide) (fun c_21 => absurd c_21 (nI_ge (a := k) (b := 4) (by omega) (by decide))) (fun c_21 => ?_)
    refine g_lload d_X2_pulled_24 rfl ?_
    refine g_aload_n d_X2_pulled_26 rfl ?_
    refine g_lload_n d_X2_pulled_27 rfl ?_
    refine g_iload d_X2_pulled_28 rfl ?_
    refine g_callN (As := [.int (nI k)]) d_X2_pulled_30 o_X11_opposite n_X2_61 ⟨Nat.le_of_ble_eq_true rfl, Nat.le_of_ble_eq_true rfl⟩ (c_opposite hE (nI k) _) rfl rfl ?_ (Nat.zero_add _)
    refine g_callV (As := [.long q, .int (((nI k) + 2) &&& 3)]) d_X2_pulled_33 o_X2_moved l_X2_50 ⟨Nat.le_of_ble_eq_true rfl, Nat.le_of_ble_eq_true rfl⟩ (c_moved hE r g w hg q (((nI k) + 2) &&& 3)) hg rfl rfl rfl rfl rfl ?_ (Nat.zero_add _)
    refine g_aload_n d_X2_pulled_36 rfl ?_
    refine g_aload_n d_X2_pulled_37 rfl ?_
    refine g_getf d_X2_pulled_38 f_X2_18 hg rfl ?_
    refine g_iload d_X2_pulled_41 rfl ?_
    refine g_callV (As := [.long (gO g), .int (nI k)]) d_X2_pulled_43 o_X2_moved l_X2_50 ⟨Nat.le_of_ble_eq_true rfl, Nat.le_of_ble_eq_true rfl⟩ (c_moved hE r g w hg (gO g) (nI k)) hg rfl rfl rfl rfl rfl ?_ (Nat.zero_add _)
    refine g_land d_X2_pulled_46 ?_
    refine g_lor d_X2_pulled_47 ?_
    refine g_lstore (L' := [some (.ref r), none, none, some (.long q), none, some (.int j), some (.long (m ||| ((gMv g q (((nI k) + 2) &&& 3)) &&& (gMv g (gO g) (nI k))))), none, some (.int (nI k))]) d_X2_pulled_48 rfl rfl ?_
    refine g_iinc (v := ((nI k) + 1)) (L' := [some (.ref r), none, none, some (.long q), none, some (.int j), some (.long (m ||| ((gMv g q (((nI k) + 2) &&& 3)) &&& (gMv g (gO g) (nI k))))), none, some (.int ((nI k) + 1))]) d_X2_pulled_50 rfl rfl rfl ?_
    refine g_goto (tgt := 18) d_X2_pulled_53 (by decide) ?_
    refine g_eq (S' := (18, [some (.ref r), none, none, some (.long q), none, some (.int j), some (.long (m ||| (gMv g q ((nI k + 2) &&& 3) &&& gMv g (gO g) (nI k)))), none, some (.int (nI (k + 1)))], [], w)) (by first | rfl | (rw [nI_1]; rfl) | (simp only [nI_1]; rfl) | simp only [nI_1]) ?_
    exact ih (k + 1) _ (by omega)
theorem l_pulled {E : mEnv} (hE : E.1.stackTraces = false) (r : Nat) (g : gT) (w : mW) (hg : mget w r = some (gcell g)) : ∀ (n : Nat) (k : Nat) (q : Int64), k + n = 64 → Go E M_X2_pulled 0 (5, [some (.ref r), none, none, some (.long q), none, some (.int (nI k)), none, none, none], [], w) (.inr (.inl (some (.long (gPlL g n q)), w))) := by
  intro n
  induction n with
  | zero =>
    intro k q hk
    obtain rfl : k = 64 := by omega
    refine g_iload d_X2_pulled_5 rfl ?_
    refine g_bipush (v := 64) d_X2_pulled_7 (by decide) ?_
    refine g_icmp_ge (tgt := 75) d_X2_pulled_9 (by decide) (fun c_9 => ?_) (fun c_9 => absurd c_9 (absurd (nI_le (Nat.le_refl 64) (by decide)) c_9))
    refine g_lload_n d_X2_pulled_75 rfl ?_
    exact g_retL d_X2_pulled_76 rfl (rfl) (rfl)
  | succ n ih =>
    intro k q hk
    refine g_iload d_X2_pulled_5 rfl ?_
    refine g_bipush (v := 64) d_X2_pulled_7 (by decide) ?_
    refine g_icmp_ge (tgt := 75) d_X2_pulled_9 (by decide) (fun c_9 => absurd c_9 (nI_ge (a := k) (b := 64) (by omega) (by decide))) (fun c_9 => ?_)
    refine g_lload_n d_X2_pulled_12 rfl ?_
    refine g_lstore (L' := [some (.ref r), none, none, some (.long q), none, some (.int (nI k)), some (.long q), none, none]) d_X2_pulled_13 rfl rfl ?_
    refine g_iconst (v := 0) d_X2_pulled_15 (by decide) ?_
    refine g_istore (L' := [some (.ref r), none, none, some (.long q), none, some (.int (nI k)), some (.long q), none, some (.int 0)]) d_X2_pulled_16 rfl rfl ?_
    refine g_eq (S' := (18, [some (.ref r), none, none, some (.long q), none, some (.int (nI k)), some (.long q), none, some (.int (nI 0))], [], w)) (by first | rfl | (rw [nI_1]; rfl) | (simp only [nI_1]; rfl) | simp only [nI_1]) ?_
    refine Go.trans0 (l_pulledI hE r g w hg q (nI k) 4 0 q (by omega)) ?_
    refine g_eq (S' := (56, [some (.ref r), none, none, some (.long q), none, some (.int (nI k)), some (.long (gPlS g q)), none, none], [], w)) rfl ?_
    refine g_lload d_X2_pulled_56 rfl ?_
    refine g_lload_n d_X2_pulled_58 rfl ?_
    refine g_lcmp_ne (tgt := 66) d_X2_pulled_59 d_X2_pulled_60 (by decide) (fun c_59 => ?_) (fun c_59 => ?_)
    · refine g_lload d_X2_pulled_66 rfl ?_
      refine g_lstore_n (L' := [some (.ref r), none, none, some (.long (gPlS g q)), none, some (.int (nI k)), some (.long (gPlS g q)), none, none]) d_X2_pulled_68 rfl rfl ?_
      refine g_iinc (v := ((nI k) + 1)) (L' := [some (.ref r), none, none, some (.long (gPlS g q)), none, some (.int ((nI k) + 1)), some (.long (gPlS g q)), none, none]) d_X2_pulled_69 rfl rfl rfl ?_
      refine g_goto (tgt := 5) d_X2_pulled_72 (by decide) ?_
      refine g_drop [6] (L1 := [some (.ref r), none, none, some (.long (gPlS g q)), none, some (.int ((nI k) + 1)), none, none, none]) rfl ?_
      refine g_eq (S' := (5, [some (.ref r), none, none, some (.long (gPlS g q)), none, some (.int (nI (k + 1))), none, none, none], [], w)) (by first | rfl | (rw [nI_1]; rfl) | (simp only [nI_1]; rfl) | simp only [nI_1]) ?_
      rw [show gPlL g (n + 1) q = gPlL g n (gPlS g q) by simp only [gPlL, *, ↓reduceIte]]
      exact ih (k + 1) _ (by omega)
    · refine g_goto (tgt := 75) d_X2_pulled_63 (by decide) ?_
      refine g_lload_n d_X2_pulled_75 rfl ?_
      exact g_retL d_X2_pulled_76 rfl (by simp only [gPlL, eq_true c_59, ↓reduceIte, Bool.false_eq_true]) (rfl)
theorem c_pulled {E : mEnv} (hE : E.1.stackTraces = false) (r : Nat) (g : gT) (w : mW) (hg : mget w r = some (gcell g)) (s : Int64) : Rt E M_X2_pulled 0 [.ref r, .long s] w (some (.long (gPl g s))) w := by
  refine Rt.of hE rfl pn_X2 (Nat.le_of_ble_eq_true rfl) ?_
  refine g_eq (S' := (0, [some (.ref r), some (.long s), none, none, none, none, none, none, none], [], w)) rfl ?_
  refine g_lload_n d_X2_pulled_0 rfl ?_
  refine g_lstore_n (L' := [some (.ref r), some (.long s), none, some (.long s), none, none, none, none, none]) d_X2_pulled_1 rfl rfl ?_
  refine g_iconst (v := 0) d_X2_pulled_2 (by decide) ?_
  refine g_istore (L' := [some (.ref r), some (.long s), none, some (.long s), none, some (.int 0), none, none, none]) d_X2_pulled_3 rfl rfl ?_
  refine g_drop [1] (L1 := [some (.ref r), none, none, some (.long s), none, some (.int 0), none, none, none]) rfl ?_
  refine g_eq (S' := (5, [some (.ref r), none, none, some (.long s), none, some (.int (nI 0)), none, none, none], [], w)) (rfl) ?_
  exact l_pulled hE r g w hg 64 0 _ (by omega)
def gDr (g : gT) : Int64 := gMv g (gD g) 3 &&& gMv g (gD g) 1
def gDc (g : gT) : Int64 := gMv g (gD g) 0 &&& gMv g (gD g) 2
def gFe (g : gT) (q : Int64) : Int64 := gO g &&& (q ^^^ (-1))
def gBr (g : gT) (q : Int64) : Int64 := gDr g ||| ((gMv g (gFe g q) 3 &&& gMv g (gFe g q) 1) ^^^ (-1))
def gBc (g : gT) (q : Int64) : Int64 := gDc g ||| ((gMv g (gFe g q) 0 &&& gMv g (gFe g q) 2) ^^^ (-1))
def gFzS (g : gT) (q : Int64) : Int64 := q &&& gBr g q &&& gBc g q
def gFzL (g : gT) : Nat → Int64 → Int64
  | 0, q => q
  | n + 1, q => if gFzS g q = q then q else gFzL g n (gFzS g q)
def gFz (g : gT) (b : Int64) : Int64 := gFzL g 64 b
theorem d_X2_frozen_0 : decode (mB M_X2_frozen) 0 = .ok (.aload_n 0, 1) := by decide +kernel
theorem d_X2_frozen_1 : decode (mB M_X2_frozen) 1 = .ok (.aload_n 0, 1) := by decide +kernel
theorem d_X2_frozen_2 : decode (mB M_X2_frozen) 2 = .ok (.getfield 25, 3) := by decide +kernel
theorem d_X2_frozen_5 : decode (mB M_X2_frozen) 5 = .ok (.iconst 3, 1) := by decide +kernel
theorem d_X2_frozen_6 : decode (mB M_X2_frozen) 6 = .ok (.invokevirtual 50, 3) := by decide +kernel
theorem d_X2_frozen_9 : decode (mB M_X2_frozen) 9 = .ok (.aload_n 0, 1) := by decide +kernel
theorem d_X2_frozen_10 : decode (mB M_X2_frozen) 10 = .ok (.aload_n 0, 1) := by decide +kernel
theorem d_X2_frozen_11 : decode (mB M_X2_frozen) 11 = .ok (.getfield 25, 3) := by decide +kernel
theorem d_X2_frozen_14 : decode (mB M_X2_frozen) 14 = .ok (.iconst 1, 1) := by decide +kernel
theorem d_X2_frozen_15 : decode (mB M_X2_frozen) 15 = .ok (.invokevirtual 50, 3) := by decide +kernel
theorem d_X2_frozen_18 : decode (mB M_X2_frozen) 18 = .ok (.land, 1) := by decide +kernel
theorem d_X2_frozen_19 : decode (mB M_X2_frozen) 19 = .ok (.lstore_n 3, 1) := by decide +kernel
theorem d_X2_frozen_20 : decode (mB M_X2_frozen) 20 = .ok (.aload_n 0, 1) := by decide +kernel
theorem d_X2_frozen_21 : decode (mB M_X2_frozen) 21 = .ok (.aload_n 0, 1) := by decide +kernel
theorem d_X2_frozen_22 : decode (mB M_X2_frozen) 22 = .ok (.getfield 25, 3) := by decide +kernel
theorem d_X2_frozen_25 : decode (mB M_X2_frozen) 25 = .ok (.iconst 0, 1) := by decide +kernel
theorem d_X2_frozen_26 : decode (mB M_X2_frozen) 26 = .ok (.invokevirtual 50, 3) := by decide +kernel
theorem d_X2_frozen_29 : decode (mB M_X2_frozen) 29 = .ok (.aload_n 0, 1) := by decide +kernel
theorem d_X2_frozen_30 : decode (mB M_X2_frozen) 30 = .ok (.aload_n 0, 1) := by decide +kernel
theorem d_X2_frozen_31 : decode (mB M_X2_frozen) 31 = .ok (.getfield 25, 3) := by decide +kernel
theorem d_X2_frozen_34 : decode (mB M_X2_frozen) 34 = .ok (.iconst 2, 1) := by decide +kernel
theorem d_X2_frozen_35 : decode (mB M_X2_frozen) 35 = .ok (.invokevirtual 50, 3) := by decide +kernel
theorem d_X2_frozen_38 : decode (mB M_X2_frozen) 38 = .ok (.land, 1) := by decide +kernel
theorem d_X2_frozen_39 : decode (mB M_X2_frozen) 39 = .ok (.lstore 5, 2) := by decide +kernel
theorem d_X2_frozen_41 : decode (mB M_X2_frozen) 41 = .ok (.lload_n 1, 1) := by decide +kernel
theorem d_X2_frozen_42 : decode (mB M_X2_frozen) 42 = .ok (.lstore 7, 2) := by decide +kernel
theorem d_X2_frozen_44 : decode (mB M_X2_frozen) 44 = .ok (.iconst 0, 1) := by decide +kernel
theorem d_X2_frozen_45 : decode (mB M_X2_frozen) 45 = .ok (.istore 9, 2) := by decide +kernel
theorem d_X2_frozen_47 : decode (mB M_X2_frozen) 47 = .ok (.iload 9, 2) := by decide +kernel
theorem d_X2_frozen_49 : decode (mB M_X2_frozen) 49 = .ok (.bipush 64, 2) := by decide +kernel
theorem d_X2_frozen_51 : decode (mB M_X2_frozen) 51 = .ok (.if_icmp .ge 94, 3) := by decide +kernel
theorem d_X2_frozen_54 : decode (mB M_X2_frozen) 54 = .ok (.aload_n 0, 1) := by decide +kernel
theorem d_X2_frozen_55 : decode (mB M_X2_frozen) 55 = .ok (.getfield 18, 3) := by decide +kernel
theorem d_X2_frozen_58 : decode (mB M_X2_frozen) 58 = .ok (.lload 7, 2) := by decide +kernel
theorem d_X2_frozen_60 : decode (mB M_X2_frozen) 60 = .ok (.ldc2_w 48, 3) := by decide +kernel
theorem d_X2_frozen_63 : decode (mB M_X2_frozen) 63 = .ok (.lxor, 1) := by decide +kernel
theorem d_X2_frozen_64 : decode (mB M_X2_frozen) 64 = .ok (.land, 1) := by decide +kernel
theorem d_X2_frozen_65 : decode (mB M_X2_frozen) 65 = .ok (.lstore 10, 2) := by decide +kernel
theorem d_X2_frozen_67 : decode (mB M_X2_frozen) 67 = .ok (.lload_n 3, 1) := by decide +kernel
theorem d_X2_frozen_68 : decode (mB M_X2_frozen) 68 = .ok (.aload_n 0, 1) := by decide +kernel
theorem d_X2_frozen_69 : decode (mB M_X2_frozen) 69 = .ok (.lload 10, 2) := by decide +kernel
theorem d_X2_frozen_71 : decode (mB M_X2_frozen) 71 = .ok (.iconst 3, 1) := by decide +kernel
theorem d_X2_frozen_72 : decode (mB M_X2_frozen) 72 = .ok (.invokevirtual 50, 3) := by decide +kernel
theorem d_X2_frozen_75 : decode (mB M_X2_frozen) 75 = .ok (.aload_n 0, 1) := by decide +kernel
theorem d_X2_frozen_76 : decode (mB M_X2_frozen) 76 = .ok (.lload 10, 2) := by decide +kernel
theorem d_X2_frozen_78 : decode (mB M_X2_frozen) 78 = .ok (.iconst 1, 1) := by decide +kernel
theorem d_X2_frozen_79 : decode (mB M_X2_frozen) 79 = .ok (.invokevirtual 50, 3) := by decide +kernel
theorem d_X2_frozen_82 : decode (mB M_X2_frozen) 82 = .ok (.land, 1) := by decide +kernel
theorem d_X2_frozen_83 : decode (mB M_X2_frozen) 83 = .ok (.ldc2_w 48, 3) := by decide +kernel
theorem d_X2_frozen_86 : decode (mB M_X2_frozen) 86 = .ok (.lxor, 1) := by decide +kernel
theorem d_X2_frozen_87 : decode (mB M_X2_frozen) 87 = .ok (.lor, 1) := by decide +kernel
theorem d_X2_frozen_88 : decode (mB M_X2_frozen) 88 = .ok (.lstore 12, 2) := by decide +kernel
theorem d_X2_frozen_90 : decode (mB M_X2_frozen) 90 = .ok (.lload 5, 2) := by decide +kernel
theorem d_X2_frozen_92 : decode (mB M_X2_frozen) 92 = .ok (.aload_n 0, 1) := by decide +kernel
theorem d_X2_frozen_93 : decode (mB M_X2_frozen) 93 = .ok (.lload 10, 2) := by decide +kernel
theorem d_X2_frozen_95 : decode (mB M_X2_frozen) 95 = .ok (.iconst 0, 1) := by decide +kernel
theorem d_X2_frozen_96 : decode (mB M_X2_frozen) 96 = .ok (.invokevirtual 50, 3) := by decide +kernel
theorem d_X2_frozen_99 : decode (mB M_X2_frozen) 99 = .ok (.aload_n 0, 1) := by decide +kernel
theorem d_X2_frozen_100 : decode (mB M_X2_frozen) 100 = .ok (.lload 10, 2) := by decide +kernel
theorem d_X2_frozen_102 : decode (mB M_X2_frozen) 102 = .ok (.iconst 2, 1) := by decide +kernel
theorem d_X2_frozen_103 : decode (mB M_X2_frozen) 103 = .ok (.invokevirtual 50, 3) := by decide +kernel
theorem d_X2_frozen_106 : decode (mB M_X2_frozen) 106 = .ok (.land, 1) := by decide +kernel
theorem d_X2_frozen_107 : decode (mB M_X2_frozen) 107 = .ok (.ldc2_w 48, 3) := by decide +kernel
theorem d_X2_frozen_110 : decode (mB M_X2_frozen) 110 = .ok (.lxor, 1) := by decide +kernel
theorem d_X2_frozen_111 : decode (mB M_X2_frozen) 111 = .ok (.lor, 1) := by decide +kernel
theorem d_X2_frozen_112 : decode (mB M_X2_frozen) 112 = .ok (.lstore 14, 2) := by decide +kernel
theorem d_X2_frozen_114 : decode (mB M_X2_frozen) 114 = .ok (.lload 7, 2) := by decide +kernel
theorem d_X2_frozen_116 : decode (mB M_X2_frozen) 116 = .ok (.lload 12, 2) := by decide +kernel
theorem d_X2_frozen_118 : decode (mB M_X2_frozen) 118 = .ok (.land, 1) := by decide +kernel
theorem d_X2_frozen_119 : decode (mB M_X2_frozen) 119 = .ok (.lload 14, 2) := by decide +kernel
theorem d_X2_frozen_121 : decode (mB M_X2_frozen) 121 = .ok (.land, 1) := by decide +kernel
theorem d_X2_frozen_122 : decode (mB M_X2_frozen) 122 = .ok (.lstore 16, 2) := by decide +kernel
theorem d_X2_frozen_124 : decode (mB M_X2_frozen) 124 = .ok (.lload 16, 2) := by decide +kernel
theorem d_X2_frozen_126 : decode (mB M_X2_frozen) 126 = .ok (.lload 7, 2) := by decide +kernel
theorem d_X2_frozen_128 : decode (mB M_X2_frozen) 128 = .ok (.lcmp, 1) := by decide +kernel
theorem d_X2_frozen_129 : decode (mB M_X2_frozen) 129 = .ok (.ifCond .ne 6, 3) := by decide +kernel
theorem d_X2_frozen_132 : decode (mB M_X2_frozen) 132 = .ok (.goto 13, 3) := by decide +kernel
theorem d_X2_frozen_135 : decode (mB M_X2_frozen) 135 = .ok (.lload 16, 2) := by decide +kernel
theorem d_X2_frozen_137 : decode (mB M_X2_frozen) 137 = .ok (.lstore 7, 2) := by decide +kernel
theorem d_X2_frozen_139 : decode (mB M_X2_frozen) 139 = .ok (.iinc 9 1, 3) := by decide +kernel
theorem d_X2_frozen_142 : decode (mB M_X2_frozen) 142 = .ok (.goto (-95), 3) := by decide +kernel
theorem d_X2_frozen_145 : decode (mB M_X2_frozen) 145 = .ok (.lload 7, 2) := by decide +kernel
theorem d_X2_frozen_147 : decode (mB M_X2_frozen) 147 = .ok (.lreturn, 1) := by decide +kernel
theorem l_frozen {E : mEnv} (hE : E.1.stackTraces = false) (r : Nat) (g : gT) (w : mW) (hg : mget w r = some (gcell g)) : ∀ (n : Nat) (k : Nat) (q : Int64), k + n = 64 → Go E M_X2_frozen 0 (47, [some (.ref r), none, none, some (.long (gDr g)), none, some (.long (gDc g)), none, some (.long q), none, some (.int (nI k)), none, none, none, none, none, none, none, none], [], w) (.inr (.inl (some (.long (gFzL g n q)), w))) := by
  intro n
  induction n with
  | zero =>
    intro k q hk
    obtain rfl : k = 64 := by omega
    refine g_iload d_X2_frozen_47 rfl ?_
    refine g_bipush (v := 64) d_X2_frozen_49 (by decide) ?_
    refine g_icmp_ge (tgt := 145) d_X2_frozen_51 (by decide) (fun c_51 => ?_) (fun c_51 => absurd c_51 (absurd (nI_le (Nat.le_refl 64) (by decide)) c_51))
    refine g_lload d_X2_frozen_145 rfl ?_
    exact g_retL d_X2_frozen_147 rfl (rfl) (rfl)
  | succ n ih =>
    intro k q hk
    refine g_iload d_X2_frozen_47 rfl ?_
    refine g_bipush (v := 64) d_X2_frozen_49 (by decide) ?_
    refine g_icmp_ge (tgt := 145) d_X2_frozen_51 (by decide) (fun c_51 => absurd c_51 (nI_ge (a := k) (b := 64) (by omega) (by decide))) (fun c_51 => ?_)
    refine g_aload_n d_X2_frozen_54 rfl ?_
    refine g_getf d_X2_frozen_55 f_X2_18 hg rfl ?_
    refine g_lload d_X2_frozen_58 rfl ?_
    refine g_ldc2 (v := (-1)) d_X2_frozen_60 k_X2_48 ?_
    refine g_lxor d_X2_frozen_63 ?_
    refine g_land d_X2_frozen_64 ?_
    refine g_lstore (L' := [some (.ref r), none, none, some (.long (gDr g)), none, some (.long (gDc g)), none, some (.long q), none, some (.int (nI k)), some (.long (gFe g q)), none, none, none, none, none, none, none]) d_X2_frozen_65 rfl rfl ?_
    refine g_lload_n d_X2_frozen_67 rfl ?_
    refine g_aload_n d_X2_frozen_68 rfl ?_
    refine g_lload d_X2_frozen_69 rfl ?_
    refine g_iconst (v := 3) d_X2_frozen_71 (by decide) ?_
    refine g_callV (As := [.long (gFe g q), .int 3]) d_X2_frozen_72 o_X2_moved l_X2_50 ⟨Nat.le_of_ble_eq_true rfl, Nat.le_of_ble_eq_true rfl⟩ (c_moved hE r g w hg (gFe g q) 3) hg rfl rfl rfl rfl rfl ?_ (Nat.zero_add _)
    refine g_aload_n d_X2_frozen_75 rfl ?_
    refine g_lload d_X2_frozen_76 rfl ?_
    refine g_iconst (v := 1) d_X2_frozen_78 (by decide) ?_
    refine g_callV (As := [.long (gFe g q), .int 1]) d_X2_frozen_79 o_X2_moved l_X2_50 ⟨Nat.le_of_ble_eq_true rfl, Nat.le_of_ble_eq_true rfl⟩ (c_moved hE r g w hg (gFe g q) 1) hg rfl rfl rfl rfl rfl ?_ (Nat.zero_add _)
    refine g_land d_X2_frozen_82 ?_
    refine g_ldc2 (v := (-1)) d_X2_frozen_83 k_X2_48 ?_
    refine g_lxor d_X2_frozen_86 ?_
    refine g_lor d_X2_frozen_87 ?_
    refine g_lstore (L' := [some (.ref r), none, none, some (.long (gDr g)), none, some (.long (gDc g)), none, some (.long q), none, some (.int (nI k)), some (.long (gFe g q)), none, some (.long (gBr g q)), none, none, none, none, none]) d_X2_frozen_88 rfl rfl ?_
    refine g_lload d_X2_frozen_90 rfl ?_
    refine g_aload_n d_X2_frozen_92 rfl ?_
    refine g_lload d_X2_frozen_93 rfl ?_
    refine g_iconst (v := 0) d_X2_frozen_95 (by decide) ?_
    refine g_callV (As := [.long (gFe g q), .int 0]) d_X2_frozen_96 o_X2_moved l_X2_50 ⟨Nat.le_of_ble_eq_true rfl, Nat.le_of_ble_eq_true rfl⟩ (c_moved hE r g w hg (gFe g q) 0) hg rfl rfl rfl rfl rfl ?_ (Nat.zero_add _)
    refine g_aload_n d_X2_frozen_99 rfl ?_
    refine g_lload d_X2_frozen_100 rfl ?_
    refine g_iconst (v := 2) d_X2_frozen_102 (by decide) ?_
    refine g_callV (As := [.long (gFe g q), .int 2]) d_X2_frozen_103 o_X2_moved l_X2_50 ⟨Nat.le_of_ble_eq_true rfl, Nat.le_of_ble_eq_true rfl⟩ (c_moved hE r g w hg (gFe g q) 2) hg rfl rfl rfl rfl rfl ?_ (Nat.zero_add _)
    refine g_land d_X2_frozen_106 ?_
    refine g_ldc2 (v := (-1)) d_X2_frozen_107 k_X2_48 ?_
    refine g_lxor d_X2_frozen_110 ?_
    refine g_lor d_X2_frozen_111 ?_
    refine g_lstore (L' := [some (.ref r), none, none, some (.long (gDr g)), none, some (.long (gDc g)), none, some (.long q), none, some (.int (nI k)), some (.long (gFe g q)), none, some (.long (gBr g q)), none, some (.long (gBc g q)), none, none, none]) d_X2_frozen_112 rfl rfl ?_
    refine g_lload d_X2_frozen_114 rfl ?_
    refine g_lload d_X2_frozen_116 rfl ?_
    refine g_land d_X2_frozen_118 ?_
    refine g_lload d_X2_frozen_119 rfl ?_
    refine g_land d_X2_frozen_121 ?_
    refine g_lstore (L' := [some (.ref r), none, none, some (.long (gDr g)), none, some (.long (gDc g)), none, some (.long q), none, some (.int (nI k)), some (.long (gFe g q)), none, some (.long (gBr g q)), none, some (.long (gBc g q)), none, some (.long (gFzS g q)), none]) d_X2_frozen_122 rfl rfl ?_
    refine g_lload d_X2_frozen_124 rfl ?_
    refine g_lload d_X2_frozen_126 rfl ?_
    refine g_lcmp_ne (tgt := 135) d_X2_frozen_128 d_X2_frozen_129 (by decide) (fun c_128 => ?_) (fun c_128 => ?_)
    · refine g_lload d_X2_frozen_135 rfl ?_
      refine g_lstore (L' := [some (.ref r), none, none, some (.long (gDr g)), none, some (.long (gDc g)), none, some (.long (gFzS g q)), none, some (.int (nI k)), some (.long (gFe g q)), none, some (.long (gBr g q)), none, some (.long (gBc g q)), none, some (.long (gFzS g q)), none]) d_X2_frozen_137 rfl rfl ?_
      refine g_iinc (v := ((nI k) + 1)) (L' := [some (.ref r), none, none, some (.long (gDr g)), none, some (.long (gDc g)), none, some (.long (gFzS g q)), none, some (.int ((nI k) + 1)), some (.long (gFe g q)), none, some (.long (gBr g q)), none, some (.long (gBc g q)), none, some (.long (gFzS g q)), none]) d_X2_frozen_139 rfl rfl rfl ?_
      refine g_goto (tgt := 47) d_X2_frozen_142 (by decide) ?_
      refine g_drop [10, 12, 14, 16] (L1 := [some (.ref r), none, none, some (.long (gDr g)), none, some (.long (gDc g)), none, some (.long (gFzS g q)), none, some (.int ((nI k) + 1)), none, none, none, none, none, none, none, none]) rfl ?_
      refine g_eq (S' := (47, [some (.ref r), none, none, some (.long (gDr g)), none, some (.long (gDc g)), none, some (.long (gFzS g q)), none, some (.int (nI (k + 1))), none, none, none, none, none, none, none, none], [], w)) (by first | rfl | (rw [nI_1]; rfl) | (simp only [nI_1]; rfl) | simp only [nI_1]) ?_
      rw [show gFzL g (n + 1) q = gFzL g n (gFzS g q) by simp only [gFzL, *, ↓reduceIte]]
      exact ih (k + 1) _ (by omega)
    · refine g_goto (tgt := 145) d_X2_frozen_132 (by decide) ?_
      refine g_lload d_X2_frozen_145 rfl ?_
      exact g_retL d_X2_frozen_147 rfl (by simp only [gFzL, eq_true c_128, ↓reduceIte, Bool.false_eq_true]) (rfl)
theorem c_frozen {E : mEnv} (hE : E.1.stackTraces = false) (r : Nat) (g : gT) (w : mW) (hg : mget w r = some (gcell g)) (s : Int64) : Rt E M_X2_frozen 0 [.ref r, .long s] w (some (.long (gFz g s))) w := by
  refine Rt.of hE rfl pn_X2 (Nat.le_of_ble_eq_true rfl) ?_
  refine g_eq (S' := (0, [some (.ref r), some (.long s), none, none, none, none, none, none, none, none, none, none, none, none, none, none, none, none], [], w)) rfl ?_
  refine g_aload_n d_X2_frozen_0 rfl ?_
  refine g_aload_n d_X2_frozen_1 rfl ?_
  refine g_getf d_X2_frozen_2 f_X2_25 hg rfl ?_
  refine g_iconst (v := 3) d_X2_frozen_5 (by decide) ?_
  refine g_callV (As := [.long (gD g), .int 3]) d_X2_frozen_6 o_X2_moved l_X2_50 ⟨Nat.le_of_ble_eq_true rfl, Nat.le_of_ble_eq_true rfl⟩ (c_moved hE r g w hg (gD g) 3) hg rfl rfl rfl rfl rfl ?_ (Nat.zero_add _)
  refine g_aload_n d_X2_frozen_9 rfl ?_
  refine g_aload_n d_X2_frozen_10 rfl ?_
  refine g_getf d_X2_frozen_11 f_X2_25 hg rfl ?_
  refine g_iconst (v := 1) d_X2_frozen_14 (by decide) ?_
  refine g_callV (As := [.long (gD g), .int 1]) d_X2_frozen_15 o_X2_moved l_X2_50 ⟨Nat.le_of_ble_eq_true rfl, Nat.le_of_ble_eq_true rfl⟩ (c_moved hE r g w hg (gD g) 1) hg rfl rfl rfl rfl rfl ?_ (Nat.zero_add _)
  refine g_land d_X2_frozen_18 ?_
  refine g_lstore_n (L' := [some (.ref r), some (.long s), none, some (.long (gDr g)), none, none, none, none, none, none, none, none, none, none, none, none, none, none]) d_X2_frozen_19 rfl rfl ?_
  refine g_aload_n d_X2_frozen_20 rfl ?_
  refine g_aload_n d_X2_frozen_21 rfl ?_
  refine g_getf d_X2_frozen_22 f_X2_25 hg rfl ?_
  refine g_iconst (v := 0) d_X2_frozen_25 (by decide) ?_
  refine g_callV (As := [.long (gD g), .int 0]) d_X2_frozen_26 o_X2_moved l_X2_50 ⟨Nat.le_of_ble_eq_true rfl, Nat.le_of_ble_eq_true rfl⟩ (c_moved hE r g w hg (gD g) 0) hg rfl rfl rfl rfl rfl ?_ (Nat.zero_add _)
  refine g_aload_n d_X2_frozen_29 rfl ?_
  refine g_aload_n d_X2_frozen_30 rfl ?_
  refine g_getf d_X2_frozen_31 f_X2_25 hg rfl ?_
  refine g_iconst (v := 2) d_X2_frozen_34 (by decide) ?_
  refine g_callV (As := [.long (gD g), .int 2]) d_X2_frozen_35 o_X2_moved l_X2_50 ⟨Nat.le_of_ble_eq_true rfl, Nat.le_of_ble_eq_true rfl⟩ (c_moved hE r g w hg (gD g) 2) hg rfl rfl rfl rfl rfl ?_ (Nat.zero_add _)
  refine g_land d_X2_frozen_38 ?_
  refine g_lstore (L' := [some (.ref r), some (.long s), none, some (.long (gDr g)), none, some (.long (gDc g)), none, none, none, none, none, none, none, none, none, none, none, none]) d_X2_frozen_39 rfl rfl ?_
  refine g_lload_n d_X2_frozen_41 rfl ?_
  refine g_lstore (L' := [some (.ref r), some (.long s), none, some (.long (gDr g)), none, some (.long (gDc g)), none, some (.long s), none, none, none, none, none, none, none, none, none, none]) d_X2_frozen_42 rfl rfl ?_
  refine g_iconst (v := 0) d_X2_frozen_44 (by decide) ?_
  refine g_istore (L' := [some (.ref r), some (.long s), none, some (.long (gDr g)), none, some (.long (gDc g)), none, some (.long s), none, some (.int 0), none, none, none, none, none, none, none, none]) d_X2_frozen_45 rfl rfl ?_
  refine g_drop [1] (L1 := [some (.ref r), none, none, some (.long (gDr g)), none, some (.long (gDc g)), none, some (.long s), none, some (.int 0), none, none, none, none, none, none, none, none]) rfl ?_
  refine g_eq (S' := (47, [some (.ref r), none, none, some (.long (gDr g)), none, some (.long (gDc g)), none, some (.long s), none, some (.int (nI 0)), none, none, none, none, none, none, none, none], [], w)) (rfl) ?_
  exact l_frozen hE r g w hg 64 0 _ (by omega)
def gSr (g : gT) (s : Int64) : Int32 := if s &&& gD g = 0 then (if gFz g s &&& (gG g ^^^ (-1)) = 0 then 0 else 2) else 1
theorem d_X2_stuckReason_0 : decode (mB M_X2_stuckReason) 0 = .ok (.lload_n 1, 1) := by decide +kernel
theorem d_X2_stuckReason_1 : decode (mB M_X2_stuckReason) 1 = .ok (.aload_n 0, 1) := by decide +kernel
theorem d_X2_stuckReason_2 : decode (mB M_X2_stuckReason) 2 = .ok (.getfield 25, 3) := by decide +kernel
theorem d_X2_stuckReason_5 : decode (mB M_X2_stuckReason) 5 = .ok (.land, 1) := by decide +kernel
theorem d_X2_stuckReason_6 : decode (mB M_X2_stuckReason) 6 = .ok (.lconst 0, 1) := by decide +kernel
theorem d_X2_stuckReason_7 : decode (mB M_X2_stuckReason) 7 = .ok (.lcmp, 1) := by decide +kernel
theorem d_X2_stuckReason_8 : decode (mB M_X2_stuckReason) 8 = .ok (.ifCond .eq 5, 3) := by decide +kernel
theorem d_X2_stuckReason_11 : decode (mB M_X2_stuckReason) 11 = .ok (.iconst 1, 1) := by decide +kernel
theorem d_X2_stuckReason_12 : decode (mB M_X2_stuckReason) 12 = .ok (.ireturn, 1) := by decide +kernel
theorem d_X2_stuckReason_13 : decode (mB M_X2_stuckReason) 13 = .ok (.aload_n 0, 1) := by decide +kernel
theorem d_X2_stuckReason_14 : decode (mB M_X2_stuckReason) 14 = .ok (.lload_n 1, 1) := by decide +kernel
theorem d_X2_stuckReason_15 : decode (mB M_X2_stuckReason) 15 = .ok (.invokevirtual 68, 3) := by decide +kernel
theorem d_X2_stuckReason_18 : decode (mB M_X2_stuckReason) 18 = .ok (.aload_n 0, 1) := by decide +kernel
theorem d_X2_stuckReason_19 : decode (mB M_X2_stuckReason) 19 = .ok (.getfield 22, 3) := by decide +kernel
theorem d_X2_stuckReason_22 : decode (mB M_X2_stuckReason) 22 = .ok (.ldc2_w 48, 3) := by decide +kernel
theorem d_X2_stuckReason_25 : decode (mB M_X2_stuckReason) 25 = .ok (.lxor, 1) := by decide +kernel
theorem d_X2_stuckReason_26 : decode (mB M_X2_stuckReason) 26 = .ok (.land, 1) := by decide +kernel
theorem d_X2_stuckReason_27 : decode (mB M_X2_stuckReason) 27 = .ok (.lconst 0, 1) := by decide +kernel
theorem d_X2_stuckReason_28 : decode (mB M_X2_stuckReason) 28 = .ok (.lcmp, 1) := by decide +kernel
theorem d_X2_stuckReason_29 : decode (mB M_X2_stuckReason) 29 = .ok (.ifCond .eq 7, 3) := by decide +kernel
theorem d_X2_stuckReason_32 : decode (mB M_X2_stuckReason) 32 = .ok (.iconst 2, 1) := by decide +kernel
theorem d_X2_stuckReason_33 : decode (mB M_X2_stuckReason) 33 = .ok (.goto 4, 3) := by decide +kernel
theorem d_X2_stuckReason_36 : decode (mB M_X2_stuckReason) 36 = .ok (.iconst 0, 1) := by decide +kernel
theorem d_X2_stuckReason_37 : decode (mB M_X2_stuckReason) 37 = .ok (.ireturn, 1) := by decide +kernel
theorem c_stuckReason {E : mEnv} (hE : E.1.stackTraces = false) (r : Nat) (g : gT) (w : mW) (hg : mget w r = some (gcell g)) (s : Int64) : Rt E M_X2_stuckReason 0 [.ref r, .long s] w (some (.int (gSr g s))) w := by
  refine Rt.of hE rfl pn_X2 (Nat.le_of_ble_eq_true rfl) ?_
  refine g_eq (S' := (0, [some (.ref r), some (.long s), none], [], w)) rfl ?_
  refine g_lload_n d_X2_stuckReason_0 rfl ?_
  refine g_aload_n d_X2_stuckReason_1 rfl ?_
  refine g_getf d_X2_stuckReason_2 f_X2_25 hg rfl ?_
  refine g_land d_X2_stuckReason_5 ?_
  refine g_lconst (v := 0) d_X2_stuckReason_6 (by decide) ?_
  refine g_lcmp_eq (tgt := 13) d_X2_stuckReason_7 d_X2_stuckReason_8 (by decide) (fun c_7 => ?_) (fun c_7 => ?_)
  · refine g_aload_n d_X2_stuckReason_13 rfl ?_
    refine g_lload_n d_X2_stuckReason_14 rfl ?_
    refine g_callV (As := [.long s]) d_X2_stuckReason_15 o_X2_frozen l_X2_68 ⟨Nat.le_of_ble_eq_true rfl, Nat.le_of_ble_eq_true rfl⟩ (c_frozen hE r g w hg s) hg rfl rfl rfl rfl rfl ?_ (Nat.zero_add _)
    refine g_aload_n d_X2_stuckReason_18 rfl ?_
    refine g_getf d_X2_stuckReason_19 f_X2_22 hg rfl ?_
    refine g_ldc2 (v := (-1)) d_X2_stuckReason_22 k_X2_48 ?_
    refine g_lxor d_X2_stuckReason_25 ?_
    refine g_land d_X2_stuckReason_26 ?_
    refine g_lconst (v := 0) d_X2_stuckReason_27 (by decide) ?_
    refine g_lcmp_eq (tgt := 36) d_X2_stuckReason_28 d_X2_stuckReason_29 (by decide) (fun c_28 => ?_) (fun c_28 => ?_)
    · refine g_iconst (v := 0) d_X2_stuckReason_36 (by decide) ?_
      exact g_retI d_X2_stuckReason_37 rfl (by simp only [gSr, eq_true c_7, eq_true c_28, ↓reduceIte, Bool.false_eq_true]) (rfl)
    · refine g_iconst (v := 2) d_X2_stuckReason_32 (by decide) ?_
      refine g_goto (tgt := 37) d_X2_stuckReason_33 (by decide) ?_
      exact g_retI d_X2_stuckReason_37 rfl (by simp only [gSr, eq_true c_7, eq_false c_28, ↓reduceIte, Bool.false_eq_true]) (rfl)
  · refine g_iconst (v := 1) d_X2_stuckReason_11 (by decide) ?_
    exact g_retI d_X2_stuckReason_12 rfl (by simp only [gSr, eq_false c_7, ↓reduceIte, Bool.false_eq_true]) (rfl)
def gSd (g : gT) (s : Int64) (d : Int32) : Int32 := if d = 1 then lowF (s &&& gD g) else lowF (gFz g s &&& (gG g ^^^ (-1)))
theorem d_X2_stuckDetail_0 : decode (mB M_X2_stuckDetail) 0 = .ok (.iload_n 3, 1) := by decide +kernel
theorem d_X2_stuckDetail_1 : decode (mB M_X2_stuckDetail) 1 = .ok (.iconst 1, 1) := by decide +kernel
theorem d_X2_stuckDetail_2 : decode (mB M_X2_stuckDetail) 2 = .ok (.if_icmp .ne 12, 3) := by decide +kernel
theorem d_X2_stuckDetail_5 : decode (mB M_X2_stuckDetail) 5 = .ok (.lload_n 1, 1) := by decide +kernel
theorem d_X2_stuckDetail_6 : decode (mB M_X2_stuckDetail) 6 = .ok (.aload_n 0, 1) := by decide +kernel
theorem d_X2_stuckDetail_7 : decode (mB M_X2_stuckDetail) 7 = .ok (.getfield 25, 3) := by decide +kernel
theorem d_X2_stuckDetail_10 : decode (mB M_X2_stuckDetail) 10 = .ok (.land, 1) := by decide +kernel
theorem d_X2_stuckDetail_11 : decode (mB M_X2_stuckDetail) 11 = .ok (.goto 17, 3) := by decide +kernel
theorem d_X2_stuckDetail_14 : decode (mB M_X2_stuckDetail) 14 = .ok (.aload_n 0, 1) := by decide +kernel
theorem d_X2_stuckDetail_15 : decode (mB M_X2_stuckDetail) 15 = .ok (.lload_n 1, 1) := by decide +kernel
theorem d_X2_stuckDetail_16 : decode (mB M_X2_stuckDetail) 16 = .ok (.invokevirtual 68, 3) := by decide +kernel
theorem d_X2_stuckDetail_19 : decode (mB M_X2_stuckDetail) 19 = .ok (.aload_n 0, 1) := by decide +kernel
theorem d_X2_stuckDetail_20 : decode (mB M_X2_stuckDetail) 20 = .ok (.getfield 22, 3) := by decide +kernel
theorem d_X2_stuckDetail_23 : decode (mB M_X2_stuckDetail) 23 = .ok (.ldc2_w 48, 3) := by decide +kernel
theorem d_X2_stuckDetail_26 : decode (mB M_X2_stuckDetail) 26 = .ok (.lxor, 1) := by decide +kernel
theorem d_X2_stuckDetail_27 : decode (mB M_X2_stuckDetail) 27 = .ok (.land, 1) := by decide +kernel
theorem d_X2_stuckDetail_28 : decode (mB M_X2_stuckDetail) 28 = .ok (.invokestatic 71, 3) := by decide +kernel
theorem d_X2_stuckDetail_31 : decode (mB M_X2_stuckDetail) 31 = .ok (.ireturn, 1) := by decide +kernel
theorem c_stuckDetail {E : mEnv} (hE : E.1.stackTraces = false) (r : Nat) (g : gT) (w : mW) (hg : mget w r = some (gcell g)) (s : Int64) (d : Int32) : Rt E M_X2_stuckDetail 0 [.ref r, .long s, .int d] w (some (.int (gSd g s d))) w := by
  refine Rt.of hE rfl pn_X2 (Nat.le_of_ble_eq_true rfl) ?_
  refine g_eq (S' := (0, [some (.ref r), some (.long s), none, some (.int d)], [], w)) rfl ?_
  refine g_iload_n d_X2_stuckDetail_0 rfl ?_
  refine g_iconst (v := 1) d_X2_stuckDetail_1 (by decide) ?_
  refine g_icmp_ne (tgt := 14) d_X2_stuckDetail_2 (by decide) (fun c_2 => ?_) (fun c_2 => ?_)
  · refine g_aload_n d_X2_stuckDetail_14 rfl ?_
    refine g_lload_n d_X2_stuckDetail_15 rfl ?_
    refine g_callV (As := [.long s]) d_X2_stuckDetail_16 o_X2_frozen l_X2_68 ⟨Nat.le_of_ble_eq_true rfl, Nat.le_of_ble_eq_true rfl⟩ (c_frozen hE r g w hg s) hg rfl rfl rfl rfl rfl ?_ (Nat.zero_add _)
    refine g_aload_n d_X2_stuckDetail_19 rfl ?_
    refine g_getf d_X2_stuckDetail_20 f_X2_22 hg rfl ?_
    refine g_ldc2 (v := (-1)) d_X2_stuckDetail_23 k_X2_48 ?_
    refine g_lxor d_X2_stuckDetail_26 ?_
    refine g_land d_X2_stuckDetail_27 ?_
    refine g_callN (As := [.long ((gFz g s) &&& ((gG g) ^^^ (-1)))]) d_X2_stuckDetail_28 o_X11_lowest n_X2_71 ⟨Nat.le_of_ble_eq_true rfl, Nat.le_of_ble_eq_true rfl⟩ (c_lowest hE ((gFz g s) &&& ((gG g) ^^^ (-1))) _) rfl rfl ?_ (Nat.zero_add _)
    exact g_retI d_X2_stuckDetail_31 rfl (by simp only [gSd, eq_false c_2, ↓reduceIte, Bool.false_eq_true]) (rfl)
  · refine g_lload_n d_X2_stuckDetail_5 rfl ?_
    refine g_aload_n d_X2_stuckDetail_6 rfl ?_
    refine g_getf d_X2_stuckDetail_7 f_X2_25 hg rfl ?_
    refine g_land d_X2_stuckDetail_10 ?_
    refine g_goto (tgt := 28) d_X2_stuckDetail_11 (by decide) ?_
    refine g_callN (As := [.long (s &&& (gD g))]) d_X2_stuckDetail_28 o_X11_lowest n_X2_71 ⟨Nat.le_of_ble_eq_true rfl, Nat.le_of_ble_eq_true rfl⟩ (c_lowest hE (s &&& (gD g)) _) rfl rfl ?_ (Nat.zero_add _)
    exact g_retI d_X2_stuckDetail_31 rfl (by simp only [gSd, eq_true c_2, ↓reduceIte, Bool.false_eq_true]) (rfl)
def gTr (g : gT) : Int64 := gO g &&& (gG g ^^^ (-1)) &&& (gMv g (gO g) 0 ^^^ (-1)) &&& (gMv g (gO g) 2 ^^^ (-1))
theorem d_X2_tunnelsInRow_0 : decode (mB M_X2_tunnelsInRow) 0 = .ok (.aload_n 0, 1) := by decide +kernel
theorem d_X2_tunnelsInRow_1 : decode (mB M_X2_tunnelsInRow) 1 = .ok (.getfield 18, 3) := by decide +kernel
theorem d_X2_tunnelsInRow_4 : decode (mB M_X2_tunnelsInRow) 4 = .ok (.aload_n 0, 1) := by decide +kernel
theorem d_X2_tunnelsInRow_5 : decode (mB M_X2_tunnelsInRow) 5 = .ok (.getfield 22, 3) := by decide +kernel
theorem d_X2_tunnelsInRow_8 : decode (mB M_X2_tunnelsInRow) 8 = .ok (.ldc2_w 48, 3) := by decide +kernel
theorem d_X2_tunnelsInRow_11 : decode (mB M_X2_tunnelsInRow) 11 = .ok (.lxor, 1) := by decide +kernel
theorem d_X2_tunnelsInRow_12 : decode (mB M_X2_tunnelsInRow) 12 = .ok (.land, 1) := by decide +kernel
theorem d_X2_tunnelsInRow_13 : decode (mB M_X2_tunnelsInRow) 13 = .ok (.aload_n 0, 1) := by decide +kernel
theorem d_X2_tunnelsInRow_14 : decode (mB M_X2_tunnelsInRow) 14 = .ok (.aload_n 0, 1) := by decide +kernel
theorem d_X2_tunnelsInRow_15 : decode (mB M_X2_tunnelsInRow) 15 = .ok (.getfield 18, 3) := by decide +kernel
theorem d_X2_tunnelsInRow_18 : decode (mB M_X2_tunnelsInRow) 18 = .ok (.iconst 0, 1) := by decide +kernel
theorem d_X2_tunnelsInRow_19 : decode (mB M_X2_tunnelsInRow) 19 = .ok (.invokevirtual 50, 3) := by decide +kernel
theorem d_X2_tunnelsInRow_22 : decode (mB M_X2_tunnelsInRow) 22 = .ok (.ldc2_w 48, 3) := by decide +kernel
theorem d_X2_tunnelsInRow_25 : decode (mB M_X2_tunnelsInRow) 25 = .ok (.lxor, 1) := by decide +kernel
theorem d_X2_tunnelsInRow_26 : decode (mB M_X2_tunnelsInRow) 26 = .ok (.land, 1) := by decide +kernel
theorem d_X2_tunnelsInRow_27 : decode (mB M_X2_tunnelsInRow) 27 = .ok (.aload_n 0, 1) := by decide +kernel
theorem d_X2_tunnelsInRow_28 : decode (mB M_X2_tunnelsInRow) 28 = .ok (.aload_n 0, 1) := by decide +kernel
theorem d_X2_tunnelsInRow_29 : decode (mB M_X2_tunnelsInRow) 29 = .ok (.getfield 18, 3) := by decide +kernel
theorem d_X2_tunnelsInRow_32 : decode (mB M_X2_tunnelsInRow) 32 = .ok (.iconst 2, 1) := by decide +kernel
theorem d_X2_tunnelsInRow_33 : decode (mB M_X2_tunnelsInRow) 33 = .ok (.invokevirtual 50, 3) := by decide +kernel
theorem d_X2_tunnelsInRow_36 : decode (mB M_X2_tunnelsInRow) 36 = .ok (.ldc2_w 48, 3) := by decide +kernel
theorem d_X2_tunnelsInRow_39 : decode (mB M_X2_tunnelsInRow) 39 = .ok (.lxor, 1) := by decide +kernel
theorem d_X2_tunnelsInRow_40 : decode (mB M_X2_tunnelsInRow) 40 = .ok (.land, 1) := by decide +kernel
theorem d_X2_tunnelsInRow_41 : decode (mB M_X2_tunnelsInRow) 41 = .ok (.lreturn, 1) := by decide +kernel
theorem c_tunnelsInRow {E : mEnv} (hE : E.1.stackTraces = false) (r : Nat) (g : gT) (w : mW) (hg : mget w r = some (gcell g))  : Rt E M_X2_tunnelsInRow 0 [.ref r] w (some (.long (gTr g))) w := by
  refine Rt.of hE rfl pn_X2 (Nat.le_of_ble_eq_true rfl) ?_
  refine g_eq (S' := (0, [some (.ref r)], [], w)) rfl ?_
  refine g_aload_n d_X2_tunnelsInRow_0 rfl ?_
  refine g_getf d_X2_tunnelsInRow_1 f_X2_18 hg rfl ?_
  refine g_aload_n d_X2_tunnelsInRow_4 rfl ?_
  refine g_getf d_X2_tunnelsInRow_5 f_X2_22 hg rfl ?_
  refine g_ldc2 (v := (-1)) d_X2_tunnelsInRow_8 k_X2_48 ?_
  refine g_lxor d_X2_tunnelsInRow_11 ?_
  refine g_land d_X2_tunnelsInRow_12 ?_
  refine g_aload_n d_X2_tunnelsInRow_13 rfl ?_
  refine g_aload_n d_X2_tunnelsInRow_14 rfl ?_
  refine g_getf d_X2_tunnelsInRow_15 f_X2_18 hg rfl ?_
  refine g_iconst (v := 0) d_X2_tunnelsInRow_18 (by decide) ?_
  refine g_callV (As := [.long (gO g), .int 0]) d_X2_tunnelsInRow_19 o_X2_moved l_X2_50 ⟨Nat.le_of_ble_eq_true rfl, Nat.le_of_ble_eq_true rfl⟩ (c_moved hE r g w hg (gO g) 0) hg rfl rfl rfl rfl rfl ?_ (Nat.zero_add _)
  refine g_ldc2 (v := (-1)) d_X2_tunnelsInRow_22 k_X2_48 ?_
  refine g_lxor d_X2_tunnelsInRow_25 ?_
  refine g_land d_X2_tunnelsInRow_26 ?_
  refine g_aload_n d_X2_tunnelsInRow_27 rfl ?_
  refine g_aload_n d_X2_tunnelsInRow_28 rfl ?_
  refine g_getf d_X2_tunnelsInRow_29 f_X2_18 hg rfl ?_
  refine g_iconst (v := 2) d_X2_tunnelsInRow_32 (by decide) ?_
  refine g_callV (As := [.long (gO g), .int 2]) d_X2_tunnelsInRow_33 o_X2_moved l_X2_50 ⟨Nat.le_of_ble_eq_true rfl, Nat.le_of_ble_eq_true rfl⟩ (c_moved hE r g w hg (gO g) 2) hg rfl rfl rfl rfl rfl ?_ (Nat.zero_add _)
  refine g_ldc2 (v := (-1)) d_X2_tunnelsInRow_36 k_X2_48 ?_
  refine g_lxor d_X2_tunnelsInRow_39 ?_
  refine g_land d_X2_tunnelsInRow_40 ?_
  exact g_retL d_X2_tunnelsInRow_41 rfl (rfl) (rfl)
def gTc (g : gT) : Int64 := gO g &&& (gG g ^^^ (-1)) &&& (gMv g (gO g) 3 ^^^ (-1)) &&& (gMv g (gO g) 1 ^^^ (-1))
theorem d_X2_tunnelsInColumn_0 : decode (mB M_X2_tunnelsInColumn) 0 = .ok (.aload_n 0, 1) := by decide +kernel
theorem d_X2_tunnelsInColumn_1 : decode (mB M_X2_tunnelsInColumn) 1 = .ok (.getfield 18, 3) := by decide +kernel
theorem d_X2_tunnelsInColumn_4 : decode (mB M_X2_tunnelsInColumn) 4 = .ok (.aload_n 0, 1) := by decide +kernel
theorem d_X2_tunnelsInColumn_5 : decode (mB M_X2_tunnelsInColumn) 5 = .ok (.getfield 22, 3) := by decide +kernel
theorem d_X2_tunnelsInColumn_8 : decode (mB M_X2_tunnelsInColumn) 8 = .ok (.ldc2_w 48, 3) := by decide +kernel
theorem d_X2_tunnelsInColumn_11 : decode (mB M_X2_tunnelsInColumn) 11 = .ok (.lxor, 1) := by decide +kernel
theorem d_X2_tunnelsInColumn_12 : decode (mB M_X2_tunnelsInColumn) 12 = .ok (.land, 1) := by decide +kernel
theorem d_X2_tunnelsInColumn_13 : decode (mB M_X2_tunnelsInColumn) 13 = .ok (.aload_n 0, 1) := by decide +kernel
theorem d_X2_tunnelsInColumn_14 : decode (mB M_X2_tunnelsInColumn) 14 = .ok (.aload_n 0, 1) := by decide +kernel
theorem d_X2_tunnelsInColumn_15 : decode (mB M_X2_tunnelsInColumn) 15 = .ok (.getfield 18, 3) := by decide +kernel
theorem d_X2_tunnelsInColumn_18 : decode (mB M_X2_tunnelsInColumn) 18 = .ok (.iconst 3, 1) := by decide +kernel
theorem d_X2_tunnelsInColumn_19 : decode (mB M_X2_tunnelsInColumn) 19 = .ok (.invokevirtual 50, 3) := by decide +kernel
theorem d_X2_tunnelsInColumn_22 : decode (mB M_X2_tunnelsInColumn) 22 = .ok (.ldc2_w 48, 3) := by decide +kernel
theorem d_X2_tunnelsInColumn_25 : decode (mB M_X2_tunnelsInColumn) 25 = .ok (.lxor, 1) := by decide +kernel
theorem d_X2_tunnelsInColumn_26 : decode (mB M_X2_tunnelsInColumn) 26 = .ok (.land, 1) := by decide +kernel
theorem d_X2_tunnelsInColumn_27 : decode (mB M_X2_tunnelsInColumn) 27 = .ok (.aload_n 0, 1) := by decide +kernel
theorem d_X2_tunnelsInColumn_28 : decode (mB M_X2_tunnelsInColumn) 28 = .ok (.aload_n 0, 1) := by decide +kernel
theorem d_X2_tunnelsInColumn_29 : decode (mB M_X2_tunnelsInColumn) 29 = .ok (.getfield 18, 3) := by decide +kernel
theorem d_X2_tunnelsInColumn_32 : decode (mB M_X2_tunnelsInColumn) 32 = .ok (.iconst 1, 1) := by decide +kernel
theorem d_X2_tunnelsInColumn_33 : decode (mB M_X2_tunnelsInColumn) 33 = .ok (.invokevirtual 50, 3) := by decide +kernel
theorem d_X2_tunnelsInColumn_36 : decode (mB M_X2_tunnelsInColumn) 36 = .ok (.ldc2_w 48, 3) := by decide +kernel
theorem d_X2_tunnelsInColumn_39 : decode (mB M_X2_tunnelsInColumn) 39 = .ok (.lxor, 1) := by decide +kernel
theorem d_X2_tunnelsInColumn_40 : decode (mB M_X2_tunnelsInColumn) 40 = .ok (.land, 1) := by decide +kernel
theorem d_X2_tunnelsInColumn_41 : decode (mB M_X2_tunnelsInColumn) 41 = .ok (.lreturn, 1) := by decide +kernel
theorem c_tunnelsInColumn {E : mEnv} (hE : E.1.stackTraces = false) (r : Nat) (g : gT) (w : mW) (hg : mget w r = some (gcell g))  : Rt E M_X2_tunnelsInColumn 0 [.ref r] w (some (.long (gTc g))) w := by
  refine Rt.of hE rfl pn_X2 (Nat.le_of_ble_eq_true rfl) ?_
  refine g_eq (S' := (0, [some (.ref r)], [], w)) rfl ?_
  refine g_aload_n d_X2_tunnelsInColumn_0 rfl ?_
  refine g_getf d_X2_tunnelsInColumn_1 f_X2_18 hg rfl ?_
  refine g_aload_n d_X2_tunnelsInColumn_4 rfl ?_
  refine g_getf d_X2_tunnelsInColumn_5 f_X2_22 hg rfl ?_
  refine g_ldc2 (v := (-1)) d_X2_tunnelsInColumn_8 k_X2_48 ?_
  refine g_lxor d_X2_tunnelsInColumn_11 ?_
  refine g_land d_X2_tunnelsInColumn_12 ?_
  refine g_aload_n d_X2_tunnelsInColumn_13 rfl ?_
  refine g_aload_n d_X2_tunnelsInColumn_14 rfl ?_
  refine g_getf d_X2_tunnelsInColumn_15 f_X2_18 hg rfl ?_
  refine g_iconst (v := 3) d_X2_tunnelsInColumn_18 (by decide) ?_
  refine g_callV (As := [.long (gO g), .int 3]) d_X2_tunnelsInColumn_19 o_X2_moved l_X2_50 ⟨Nat.le_of_ble_eq_true rfl, Nat.le_of_ble_eq_true rfl⟩ (c_moved hE r g w hg (gO g) 3) hg rfl rfl rfl rfl rfl ?_ (Nat.zero_add _)
  refine g_ldc2 (v := (-1)) d_X2_tunnelsInColumn_22 k_X2_48 ?_
  refine g_lxor d_X2_tunnelsInColumn_25 ?_
  refine g_land d_X2_tunnelsInColumn_26 ?_
  refine g_aload_n d_X2_tunnelsInColumn_27 rfl ?_
  refine g_aload_n d_X2_tunnelsInColumn_28 rfl ?_
  refine g_getf d_X2_tunnelsInColumn_29 f_X2_18 hg rfl ?_
  refine g_iconst (v := 1) d_X2_tunnelsInColumn_32 (by decide) ?_
  refine g_callV (As := [.long (gO g), .int 1]) d_X2_tunnelsInColumn_33 o_X2_moved l_X2_50 ⟨Nat.le_of_ble_eq_true rfl, Nat.le_of_ble_eq_true rfl⟩ (c_moved hE r g w hg (gO g) 1) hg rfl rfl rfl rfl rfl ?_ (Nat.zero_add _)
  refine g_ldc2 (v := (-1)) d_X2_tunnelsInColumn_36 k_X2_48 ?_
  refine g_lxor d_X2_tunnelsInColumn_39 ?_
  refine g_land d_X2_tunnelsInColumn_40 ?_
  exact g_retL d_X2_tunnelsInColumn_41 rfl (rfl) (rfl)
def gTa (g : gT) (d : Int32) : Int64 := if d = 3 then gTr g else if d = 1 then gTr g else gTc g
theorem d_X2_tunnelsAlong_0 : decode (mB M_X2_tunnelsAlong) 0 = .ok (.iload_n 1, 1) := by decide +kernel
theorem d_X2_tunnelsAlong_1 : decode (mB M_X2_tunnelsAlong) 1 = .ok (.iconst 3, 1) := by decide +kernel
theorem d_X2_tunnelsAlong_2 : decode (mB M_X2_tunnelsAlong) 2 = .ok (.if_icmp .eq 8, 3) := by decide +kernel
theorem d_X2_tunnelsAlong_5 : decode (mB M_X2_tunnelsAlong) 5 = .ok (.iload_n 1, 1) := by decide +kernel
theorem d_X2_tunnelsAlong_6 : decode (mB M_X2_tunnelsAlong) 6 = .ok (.iconst 1, 1) := by decide +kernel
theorem d_X2_tunnelsAlong_7 : decode (mB M_X2_tunnelsAlong) 7 = .ok (.if_icmp .ne 10, 3) := by decide +kernel
theorem d_X2_tunnelsAlong_10 : decode (mB M_X2_tunnelsAlong) 10 = .ok (.aload_n 0, 1) := by decide +kernel
theorem d_X2_tunnelsAlong_11 : decode (mB M_X2_tunnelsAlong) 11 = .ok (.invokevirtual 75, 3) := by decide +kernel
theorem d_X2_tunnelsAlong_14 : decode (mB M_X2_tunnelsAlong) 14 = .ok (.goto 7, 3) := by decide +kernel
theorem d_X2_tunnelsAlong_17 : decode (mB M_X2_tunnelsAlong) 17 = .ok (.aload_n 0, 1) := by decide +kernel
theorem d_X2_tunnelsAlong_18 : decode (mB M_X2_tunnelsAlong) 18 = .ok (.invokevirtual 79, 3) := by decide +kernel
theorem d_X2_tunnelsAlong_21 : decode (mB M_X2_tunnelsAlong) 21 = .ok (.lreturn, 1) := by decide +kernel
theorem c_tunnelsAlong {E : mEnv} (hE : E.1.stackTraces = false) (r : Nat) (g : gT) (w : mW) (hg : mget w r = some (gcell g)) (d : Int32) : Rt E M_X2_tunnelsAlong 0 [.ref r, .int d] w (some (.long (gTa g d))) w := by
  refine Rt.of hE rfl pn_X2 (Nat.le_of_ble_eq_true rfl) ?_
  refine g_eq (S' := (0, [some (.ref r), some (.int d)], [], w)) rfl ?_
  refine g_iload_n d_X2_tunnelsAlong_0 rfl ?_
  refine g_iconst (v := 3) d_X2_tunnelsAlong_1 (by decide) ?_
  refine g_icmp_eq (tgt := 10) d_X2_tunnelsAlong_2 (by decide) (fun c_2 => ?_) (fun c_2 => ?_)
  · refine g_aload_n d_X2_tunnelsAlong_10 rfl ?_
    refine g_callV (As := []) d_X2_tunnelsAlong_11 o_X2_tunnelsInRow l_X2_75 ⟨Nat.le_of_ble_eq_true rfl, Nat.le_of_ble_eq_true rfl⟩ (c_tunnelsInRow hE r g w hg) hg rfl rfl rfl rfl rfl ?_ (Nat.zero_add _)
    refine g_goto (tgt := 21) d_X2_tunnelsAlong_14 (by decide) ?_
    exact g_retL d_X2_tunnelsAlong_21 rfl (by simp only [gTa, eq_true c_2, ↓reduceIte, Bool.false_eq_true]) (rfl)
  · refine g_iload_n d_X2_tunnelsAlong_5 rfl ?_
    refine g_iconst (v := 1) d_X2_tunnelsAlong_6 (by decide) ?_
    refine g_icmp_ne (tgt := 17) d_X2_tunnelsAlong_7 (by decide) (fun c_7 => ?_) (fun c_7 => ?_)
    · refine g_aload_n d_X2_tunnelsAlong_17 rfl ?_
      refine g_callV (As := []) d_X2_tunnelsAlong_18 o_X2_tunnelsInColumn l_X2_79 ⟨Nat.le_of_ble_eq_true rfl, Nat.le_of_ble_eq_true rfl⟩ (c_tunnelsInColumn hE r g w hg) hg rfl rfl rfl rfl rfl ?_ (Nat.zero_add _)
      exact g_retL d_X2_tunnelsAlong_21 rfl (by simp only [gTa, eq_false c_2, eq_false c_7, ↓reduceIte, Bool.false_eq_true]) (rfl)
    · refine g_aload_n d_X2_tunnelsAlong_10 rfl ?_
      refine g_callV (As := []) d_X2_tunnelsAlong_11 o_X2_tunnelsInRow l_X2_75 ⟨Nat.le_of_ble_eq_true rfl, Nat.le_of_ble_eq_true rfl⟩ (c_tunnelsInRow hE r g w hg) hg rfl rfl rfl rfl rfl ?_ (Nat.zero_add _)
      refine g_goto (tgt := 21) d_X2_tunnelsAlong_14 (by decide) ?_
      exact g_retL d_X2_tunnelsAlong_21 rfl (by simp only [gTa, eq_false c_2, eq_true c_7, ↓reduceIte, Bool.false_eq_true]) (rfl)
