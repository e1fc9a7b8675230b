/-! class PusherRoom: cells, codes and rows (static methods) -/
theorem d_X11_bit_0 : decode (mB M_X11_bit) 0 = .ok (.lconst 1, 1) := by decide +kernel
theorem d_X11_bit_1 : decode (mB M_X11_bit) 1 = .ok (.iload_n 0, 1) := by decide +kernel
theorem d_X11_bit_2 : decode (mB M_X11_bit) 2 = .ok (.lshl, 1) := by decide +kernel
theorem d_X11_bit_3 : decode (mB M_X11_bit) 3 = .ok (.lreturn, 1) := by decide +kernel
theorem c_bit {E : mEnv} (hE : E.1.stackTraces = false) (c : Int32) (w : mW) : Rt E M_X11_bit 0 [.int c] w (some (.long (jshl 1 c))) w := by
  refine Rt.of hE rfl pn_X11 (Nat.le_of_ble_eq_true rfl) ?_
  refine g_eq (S' := (0, [some (.int c)], [], w)) rfl ?_
  refine g_lconst (v := 1) d_X11_bit_0 (by decide) ?_
  refine g_iload_n d_X11_bit_1 rfl ?_
  refine g_lshl (v := (jshl 1 c)) d_X11_bit_2 rfl ?_
  exact g_retL d_X11_bit_3 rfl (rfl) (rfl)
def hasF (s : Int64) (c : Int32) : Bool := if c < 0 then false else if 64 ≤ c then false else !decide (s &&& jshl 1 c = 0)
theorem d_X11_has_0 : decode (mB M_X11_has) 0 = .ok (.iload_n 2, 1) := by decide +kernel
theorem d_X11_has_1 : decode (mB M_X11_has) 1 = .ok (.ifCond .lt 24, 3) := by decide +kernel
theorem d_X11_has_4 : decode (mB M_X11_has) 4 = .ok (.iload_n 2, 1) := by decide +kernel
theorem d_X11_has_5 : decode (mB M_X11_has) 5 = .ok (.bipush 64, 2) := by decide +kernel
theorem d_X11_has_7 : decode (mB M_X11_has) 7 = .ok (.if_icmp .ge 18, 3) := by decide +kernel
theorem d_X11_has_10 : decode (mB M_X11_has) 10 = .ok (.lload_n 0, 1) := by decide +kernel
theorem d_X11_has_11 : decode (mB M_X11_has) 11 = .ok (.iload_n 2, 1) := by decide +kernel
theorem d_X11_has_12 : decode (mB M_X11_has) 12 = .ok (.invokestatic 229, 3) := by decide +kernel
theorem d_X11_has_15 : decode (mB M_X11_has) 15 = .ok (.land, 1) := by decide +kernel
theorem d_X11_has_16 : decode (mB M_X11_has) 16 = .ok (.lconst 0, 1) := by decide +kernel
theorem d_X11_has_17 : decode (mB M_X11_has) 17 = .ok (.lcmp, 1) := by decide +kernel
theorem d_X11_has_18 : decode (mB M_X11_has) 18 = .ok (.ifCond .eq 7, 3) := by decide +kernel
theorem d_X11_has_21 : decode (mB M_X11_has) 21 = .ok (.iconst 1, 1) := by decide +kernel
theorem d_X11_has_22 : decode (mB M_X11_has) 22 = .ok (.goto 4, 3) := by decide +kernel
theorem d_X11_has_25 : decode (mB M_X11_has) 25 = .ok (.iconst 0, 1) := by decide +kernel
theorem d_X11_has_26 : decode (mB M_X11_has) 26 = .ok (.ireturn, 1) := by decide +kernel
theorem c_has {E : mEnv} (hE : E.1.stackTraces = false) (s : Int64) (c : Int32) (w : mW) : Rt E M_X11_has 0 [.long s, .int c] w (some (.int (bI (hasF s c)))) w := by
  refine Rt.of hE rfl pn_X11 (Nat.le_of_ble_eq_true rfl) ?_
  refine g_eq (S' := (0, [some (.long s), none, some (.int c)], [], w)) rfl ?_
  refine g_iload_n d_X11_has_0 rfl ?_
  refine g_if_lt (tgt := 25) d_X11_has_1 (by decide) (fun c_1 => ?_) (fun c_1 => ?_)
  · refine g_iconst (v := 0) d_X11_has_25 (by decide) ?_
    exact g_retZ d_X11_has_26 rfl (by decide) (by simp [hasF, bI, *]) (rfl)
  · refine g_iload_n d_X11_has_4 rfl ?_
    refine g_bipush (v := 64) d_X11_has_5 (by decide) ?_
    refine g_icmp_ge (tgt := 25) d_X11_has_7 (by decide) (fun c_7 => ?_) (fun c_7 => ?_)
    · refine g_iconst (v := 0) d_X11_has_25 (by decide) ?_
      exact g_retZ d_X11_has_26 rfl (by decide) (by simp [hasF, bI, *]) (rfl)
    · refine g_lload_n d_X11_has_10 rfl ?_
      refine g_iload_n d_X11_has_11 rfl ?_
      refine g_callS (As := [.int c]) d_X11_has_12 o_X11_bit l_X11_229 ⟨Nat.le_of_ble_eq_true rfl, Nat.le_of_ble_eq_true rfl⟩ (c_bit hE c w) rfl rfl ?_ (Nat.zero_add _)
      refine g_land d_X11_has_15 ?_
      refine g_lconst (v := 0) d_X11_has_16 (by decide) ?_
      refine g_lcmp_eq (tgt := 25) d_X11_has_17 d_X11_has_18 (by decide) (fun c_17 => ?_) (fun c_17 => ?_)
      · refine g_iconst (v := 0) d_X11_has_25 (by decide) ?_
        exact g_retZ d_X11_has_26 rfl (by decide) (by simp [hasF, bI, *]) (rfl)
      · refine g_iconst (v := 1) d_X11_has_21 (by decide) ?_
        refine g_goto (tgt := 26) d_X11_has_22 (by decide) ?_
        exact g_retZ d_X11_has_26 rfl (by decide) (by simp [hasF, bI, *]) (rfl)
theorem d_X11_opposite_0 : decode (mB M_X11_opposite) 0 = .ok (.iload_n 0, 1) := by decide +kernel
theorem d_X11_opposite_1 : decode (mB M_X11_opposite) 1 = .ok (.iconst 2, 1) := by decide +kernel
theorem d_X11_opposite_2 : decode (mB M_X11_opposite) 2 = .ok (.iadd, 1) := by decide +kernel
theorem d_X11_opposite_3 : decode (mB M_X11_opposite) 3 = .ok (.iconst 3, 1) := by decide +kernel
theorem d_X11_opposite_4 : decode (mB M_X11_opposite) 4 = .ok (.iand, 1) := by decide +kernel
theorem d_X11_opposite_5 : decode (mB M_X11_opposite) 5 = .ok (.ireturn, 1) := by decide +kernel
theorem c_opposite {E : mEnv} (hE : E.1.stackTraces = false) (d : Int32) (w : mW) : Rt E M_X11_opposite 0 [.int d] w (some (.int ((d + 2) &&& 3))) w := by
  refine Rt.of hE rfl pn_X11 (Nat.le_of_ble_eq_true rfl) ?_
  refine g_eq (S' := (0, [some (.int d)], [], w)) rfl ?_
  refine g_iload_n d_X11_opposite_0 rfl ?_
  refine g_iconst (v := 2) d_X11_opposite_1 (by decide) ?_
  refine g_iadd d_X11_opposite_2 ?_
  refine g_iconst (v := 3) d_X11_opposite_3 (by decide) ?_
  refine g_iand d_X11_opposite_4 ?_
  exact g_retI d_X11_opposite_5 rfl (rfl) (rfl)
theorem d_X11_isPushCode_0 : decode (mB M_X11_isPushCode) 0 = .ok (.iload_n 0, 1) := by decide +kernel
theorem d_X11_isPushCode_1 : decode (mB M_X11_isPushCode) 1 = .ok (.iconst 4, 1) := by decide +kernel
theorem d_X11_isPushCode_2 : decode (mB M_X11_isPushCode) 2 = .ok (.if_icmp .lt 7, 3) := by decide +kernel
theorem d_X11_isPushCode_5 : decode (mB M_X11_isPushCode) 5 = .ok (.iconst 1, 1) := by decide +kernel
theorem d_X11_isPushCode_6 : decode (mB M_X11_isPushCode) 6 = .ok (.goto 4, 3) := by decide +kernel
theorem d_X11_isPushCode_9 : decode (mB M_X11_isPushCode) 9 = .ok (.iconst 0, 1) := by decide +kernel
theorem d_X11_isPushCode_10 : decode (mB M_X11_isPushCode) 10 = .ok (.ireturn, 1) := by decide +kernel
theorem c_isPushCode {E : mEnv} (hE : E.1.stackTraces = false) (d : Int32) (w : mW) : Rt E M_X11_isPushCode 0 [.int d] w (some (.int (bI (decide (4 ≤ d))))) w := by
  refine Rt.of hE rfl pn_X11 (Nat.le_of_ble_eq_true rfl) ?_
  refine g_eq (S' := (0, [some (.int d)], [], w)) rfl ?_
  refine g_iload_n d_X11_isPushCode_0 rfl ?_
  refine g_iconst (v := 4) d_X11_isPushCode_1 (by decide) ?_
  refine g_icmp_lt (tgt := 9) d_X11_isPushCode_2 (by decide) (fun c_2 => ?_) (fun c_2 => ?_)
  · refine g_iconst (v := 0) d_X11_isPushCode_9 (by decide) ?_
    exact g_retZ d_X11_isPushCode_10 rfl (by decide) (by simp_all [bI]) (rfl)
  · refine g_iconst (v := 1) d_X11_isPushCode_5 (by decide) ?_
    refine g_goto (tgt := 10) d_X11_isPushCode_6 (by decide) ?_
    exact g_retZ d_X11_isPushCode_10 rfl (by decide) (by simp_all [bI]) (rfl)
theorem d_X11_directionOf_0 : decode (mB M_X11_directionOf) 0 = .ok (.iload_n 0, 1) := by decide +kernel
theorem d_X11_directionOf_1 : decode (mB M_X11_directionOf) 1 = .ok (.iconst 3, 1) := by decide +kernel
theorem d_X11_directionOf_2 : decode (mB M_X11_directionOf) 2 = .ok (.iand, 1) := by decide +kernel
theorem d_X11_directionOf_3 : decode (mB M_X11_directionOf) 3 = .ok (.ireturn, 1) := by decide +kernel
theorem c_directionOf {E : mEnv} (hE : E.1.stackTraces = false) (d : Int32) (w : mW) : Rt E M_X11_directionOf 0 [.int d] w (some (.int (d &&& 3))) w := by
  refine Rt.of hE rfl pn_X11 (Nat.le_of_ble_eq_true rfl) ?_
  refine g_eq (S' := (0, [some (.int d)], [], w)) rfl ?_
  refine g_iload_n d_X11_directionOf_0 rfl ?_
  refine g_iconst (v := 3) d_X11_directionOf_1 (by decide) ?_
  refine g_iand d_X11_directionOf_2 ?_
  exact g_retI d_X11_directionOf_3 rfl (rfl) (rfl)
theorem d_X11_codeOf_0 : decode (mB M_X11_codeOf) 0 = .ok (.iload_n 1, 1) := by decide +kernel
theorem d_X11_codeOf_1 : decode (mB M_X11_codeOf) 1 = .ok (.ifCond .eq 9, 3) := by decide +kernel
theorem d_X11_codeOf_4 : decode (mB M_X11_codeOf) 4 = .ok (.iload_n 0, 1) := by decide +kernel
theorem d_X11_codeOf_5 : decode (mB M_X11_codeOf) 5 = .ok (.iconst 4, 1) := by decide +kernel
theorem d_X11_codeOf_6 : decode (mB M_X11_codeOf) 6 = .ok (.iadd, 1) := by decide +kernel
theorem d_X11_codeOf_7 : decode (mB M_X11_codeOf) 7 = .ok (.goto 4, 3) := by decide +kernel
theorem d_X11_codeOf_10 : decode (mB M_X11_codeOf) 10 = .ok (.iload_n 0, 1) := by decide +kernel
theorem d_X11_codeOf_11 : decode (mB M_X11_codeOf) 11 = .ok (.ireturn, 1) := by decide +kernel
theorem c_codeOf {E : mEnv} (hE : E.1.stackTraces = false) (d : Int32) (p : Bool) (w : mW) : Rt E M_X11_codeOf 0 [.int d, .int ((bI p))] w (some (.int (if p then d + 4 else d))) w := by
  refine Rt.of hE rfl pn_X11 (Nat.le_of_ble_eq_true rfl) ?_
  refine g_eq (S' := (0, [some (.int d), some (.int (bI p))], [], w)) rfl ?_
  refine g_iload_n d_X11_codeOf_0 rfl ?_
  refine g_ifb_eq (tgt := 10) d_X11_codeOf_1 (by decide) (fun c_1 => ?_) (fun c_1 => ?_)
  · refine g_iload_n d_X11_codeOf_10 rfl ?_
    exact g_retI d_X11_codeOf_11 rfl (by simp [*]) (rfl)
  · refine g_iload_n d_X11_codeOf_4 rfl ?_
    refine g_iconst (v := 4) d_X11_codeOf_5 (by decide) ?_
    refine g_iadd d_X11_codeOf_6 ?_
    refine g_goto (tgt := 11) d_X11_codeOf_7 (by decide) ?_
    exact g_retI d_X11_codeOf_11 rfl (by simp [*]) (rfl)
def intAtF (n : Nat) (f : Nat → Int32) (i : Int32) : Int32 := if i < 0 then 0 else if nI n ≤ i then 0 else f i.toNatClampNeg
theorem vp_in_of2 {n : Nat} {i : Int32} (hn : n < 2 ^ 31) (h0 : ¬ i < 0) (h1 : ¬ nI n ≤ i) : vp_in i n := by
  obtain ⟨j, hj, rfl⟩ := nI_of h0
  refine vp_in_nI ?_ hn
  rcases Nat.lt_or_ge j n with h | h
  · exact h
  · exact absurd (nI_le h hj) h1
theorem d_X11_intAt_0 : decode (mB M_X11_intAt) 0 = .ok (.iload_n 1, 1) := by decide +kernel
theorem d_X11_intAt_1 : decode (mB M_X11_intAt) 1 = .ok (.ifCond .lt 15, 3) := by decide +kernel
theorem d_X11_intAt_4 : decode (mB M_X11_intAt) 4 = .ok (.iload_n 1, 1) := by decide +kernel
theorem d_X11_intAt_5 : decode (mB M_X11_intAt) 5 = .ok (.aload_n 0, 1) := by decide +kernel
theorem d_X11_intAt_6 : decode (mB M_X11_intAt) 6 = .ok (.arraylength, 1) := by decide +kernel
theorem d_X11_intAt_7 : decode (mB M_X11_intAt) 7 = .ok (.if_icmp .ge 9, 3) := by decide +kernel
theorem d_X11_intAt_10 : decode (mB M_X11_intAt) 10 = .ok (.aload_n 0, 1) := by decide +kernel
theorem d_X11_intAt_11 : decode (mB M_X11_intAt) 11 = .ok (.iload_n 1, 1) := by decide +kernel
theorem d_X11_intAt_12 : decode (mB M_X11_intAt) 12 = .ok (.iaload, 1) := by decide +kernel
theorem d_X11_intAt_13 : decode (mB M_X11_intAt) 13 = .ok (.goto 4, 3) := by decide +kernel
theorem d_X11_intAt_16 : decode (mB M_X11_intAt) 16 = .ok (.iconst 0, 1) := by decide +kernel
theorem d_X11_intAt_17 : decode (mB M_X11_intAt) 17 = .ok (.ireturn, 1) := by decide +kernel
theorem c_intAt {E : mEnv} (hE : E.1.stackTraces = false) (r n : Nat) (f : Nat → Int32) (i : Int32) (w : mW) (hn : n < 2 ^ 31) (ha : mget w r = some (.inl (0, n, .inl f))) : Rt E M_X11_intAt 0 [.ref r, .int i] w (some (.int (intAtF n f i))) w := by
  refine Rt.of hE rfl pn_X11 (Nat.le_of_ble_eq_true rfl) ?_
  refine g_eq (S' := (0, [some (.ref r), some (.int i)], [], w)) rfl ?_
  refine g_iload_n d_X11_intAt_0 rfl ?_
  refine g_if_lt (tgt := 16) d_X11_intAt_1 (by decide) (fun c_1 => ?_) (fun c_1 => ?_)
  · refine g_iconst (v := 0) d_X11_intAt_16 (by decide) ?_
    exact g_retI d_X11_intAt_17 rfl (by simp [intAtF, *]) (rfl)
  · refine g_iload_n d_X11_intAt_4 rfl ?_
    refine g_aload_n d_X11_intAt_5 rfl ?_
    refine g_alen (v := nI n) d_X11_intAt_6 ha (by decide) rfl ?_
    refine g_icmp_ge (tgt := 16) d_X11_intAt_7 (by decide) (fun c_7 => ?_) (fun c_7 => ?_)
    · refine g_iconst (v := 0) d_X11_intAt_16 (by decide) ?_
      exact g_retI d_X11_intAt_17 rfl (by simp [intAtF, *]) (rfl)
    · refine g_aload_n d_X11_intAt_10 rfl ?_
      refine g_iload_n d_X11_intAt_11 rfl ?_
      refine g_iald d_X11_intAt_12 ha (vp_in_of2 hn c_1 c_7) ?_
      refine g_goto (tgt := 17) d_X11_intAt_13 (by decide) ?_
      exact g_retI d_X11_intAt_17 rfl (by simp [intAtF, *]) (rfl)
def setIntF (n : Nat) (f : Nat → Int32) (i : Int32) (x : Int32) : Nat → Int32 := if i < 0 then f else if nI n ≤ i then f else upd f i.toNatClampNeg x
theorem d_X11_setInt_0 : decode (mB M_X11_setInt) 0 = .ok (.iload_n 1, 1) := by decide +kernel
theorem d_X11_setInt_1 : decode (mB M_X11_setInt) 1 = .ok (.ifCond .lt 13, 3) := by decide +kernel
theorem d_X11_setInt_4 : decode (mB M_X11_setInt) 4 = .ok (.iload_n 1, 1) := by decide +kernel
theorem d_X11_setInt_5 : decode (mB M_X11_setInt) 5 = .ok (.aload_n 0, 1) := by decide +kernel
theorem d_X11_setInt_6 : decode (mB M_X11_setInt) 6 = .ok (.arraylength, 1) := by decide +kernel
theorem d_X11_setInt_7 : decode (mB M_X11_setInt) 7 = .ok (.if_icmp .ge 7, 3) := by decide +kernel
theorem d_X11_setInt_10 : decode (mB M_X11_setInt) 10 = .ok (.aload_n 0, 1) := by decide +kernel
theorem d_X11_setInt_11 : decode (mB M_X11_setInt) 11 = .ok (.iload_n 1, 1) := by decide +kernel
theorem d_X11_setInt_12 : decode (mB M_X11_setInt) 12 = .ok (.iload_n 2, 1) := by decide +kernel
theorem d_X11_setInt_13 : decode (mB M_X11_setInt) 13 = .ok (.iastore, 1) := by decide +kernel
theorem d_X11_setInt_14 : decode (mB M_X11_setInt) 14 = .ok (.return_, 1) := by decide +kernel
theorem c_setInt {E : mEnv} (hE : E.1.stackTraces = false) (r n : Nat) (f : Nat → Int32) (i : Int32) (x : Int32) (w : mW) (hn : n < 2 ^ 31) (ha : mget w r = some (.inl (0, n, .inl f))) : Rt E M_X11_setInt 0 [.ref r, .int i, .int x] w none ((mset w r (.inl (0, n, .inl (setIntF n f i x))))) := by
  refine Rt.of hE rfl pn_X11 (Nat.le_of_ble_eq_true rfl) ?_
  refine g_eq (S' := (0, [some (.ref r), some (.int i), some (.int x)], [], w)) rfl ?_
  refine g_iload_n d_X11_setInt_0 rfl ?_
  refine g_if_lt (tgt := 14) d_X11_setInt_1 (by decide) (fun c_1 => ?_) (fun c_1 => ?_)
  · exact g_retV d_X11_setInt_14 rfl (by simp [setIntF, *, mset_self ha])
  · refine g_iload_n d_X11_setInt_4 rfl ?_
    refine g_aload_n d_X11_setInt_5 rfl ?_
    refine g_alen (v := nI n) d_X11_setInt_6 ha (by decide) rfl ?_
    refine g_icmp_ge (tgt := 14) d_X11_setInt_7 (by decide) (fun c_7 => ?_) (fun c_7 => ?_)
    · exact g_retV d_X11_setInt_14 rfl (by simp [setIntF, *, mset_self ha])
    · refine g_aload_n d_X11_setInt_10 rfl ?_
      refine g_iload_n d_X11_setInt_11 rfl ?_
      refine g_iload_n d_X11_setInt_12 rfl ?_
      refine g_iast d_X11_setInt_13 ha (vp_in_of2 hn c_1 c_7) rfl ?_
      exact g_retV d_X11_setInt_14 rfl (by simp [setIntF, *])
def longAtF (n : Nat) (f : Nat → Int64) (i : Int32) : Int64 := if i < 0 then 0 else if nI n ≤ i then 0 else f i.toNatClampNeg
theorem d_X11_longAt_0 : decode (mB M_X11_longAt) 0 = .ok (.iload_n 1, 1) := by decide +kernel
theorem d_X11_longAt_1 : decode (mB M_X11_longAt) 1 = .ok (.ifCond .lt 15, 3) := by decide +kernel
theorem d_X11_longAt_4 : decode (mB M_X11_longAt) 4 = .ok (.iload_n 1, 1) := by decide +kernel
theorem d_X11_longAt_5 : decode (mB M_X11_longAt) 5 = .ok (.aload_n 0, 1) := by decide +kernel
theorem d_X11_longAt_6 : decode (mB M_X11_longAt) 6 = .ok (.arraylength, 1) := by decide +kernel
theorem d_X11_longAt_7 : decode (mB M_X11_longAt) 7 = .ok (.if_icmp .ge 9, 3) := by decide +kernel
theorem d_X11_longAt_10 : decode (mB M_X11_longAt) 10 = .ok (.aload_n 0, 1) := by decide +kernel
theorem d_X11_longAt_11 : decode (mB M_X11_longAt) 11 = .ok (.iload_n 1, 1) := by decide +kernel
theorem d_X11_longAt_12 : decode (mB M_X11_longAt) 12 = .ok (.laload, 1) := by decide +kernel
theorem d_X11_longAt_13 : decode (mB M_X11_longAt) 13 = .ok (.goto 4, 3) := by decide +kernel
theorem d_X11_longAt_16 : decode (mB M_X11_longAt) 16 = .ok (.lconst 0, 1) := by decide +kernel
theorem d_X11_longAt_17 : decode (mB M_X11_longAt) 17 = .ok (.lreturn, 1) := by decide +kernel
theorem c_longAt {E : mEnv} (hE : E.1.stackTraces = false) (r n : Nat) (f : Nat → Int64) (i : Int32) (w : mW) (hn : n < 2 ^ 31) (ha : mget w r = some (.inl (1, n, .inr (.inl f)))) : Rt E M_X11_longAt 0 [.ref r, .int i] w (some (.long (longAtF n f i))) w := by
  refine Rt.of hE rfl pn_X11 (Nat.le_of_ble_eq_true rfl) ?_
  refine g_eq (S' := (0, [some (.ref r), some (.int i)], [], w)) rfl ?_
  refine g_iload_n d_X11_longAt_0 rfl ?_
  refine g_if_lt (tgt := 16) d_X11_longAt_1 (by decide) (fun c_1 => ?_) (fun c_1 => ?_)
  · refine g_lconst (v := 0) d_X11_longAt_16 (by decide) ?_
    exact g_retL d_X11_longAt_17 rfl (by simp [longAtF, *]) (rfl)
  · refine g_iload_n d_X11_longAt_4 rfl ?_
    refine g_aload_n d_X11_longAt_5 rfl ?_
    refine g_alen (v := nI n) d_X11_longAt_6 ha (by decide) rfl ?_
    refine g_icmp_ge (tgt := 16) d_X11_longAt_7 (by decide) (fun c_7 => ?_) (fun c_7 => ?_)
    · refine g_lconst (v := 0) d_X11_longAt_16 (by decide) ?_
      exact g_retL d_X11_longAt_17 rfl (by simp [longAtF, *]) (rfl)
    · refine g_aload_n d_X11_longAt_10 rfl ?_
      refine g_iload_n d_X11_longAt_11 rfl ?_
      refine g_lald d_X11_longAt_12 ha (vp_in_of2 hn c_1 c_7) ?_
      refine g_goto (tgt := 17) d_X11_longAt_13 (by decide) ?_
      exact g_retL d_X11_longAt_17 rfl (by simp [longAtF, *]) (rfl)
def setLongF (n : Nat) (f : Nat → Int64) (i : Int32) (x : Int64) : Nat → Int64 := if i < 0 then f else if nI n ≤ i then f else vp_updL f i.toNatClampNeg x
theorem d_X11_setLong_0 : decode (mB M_X11_setLong) 0 = .ok (.iload_n 1, 1) := by decide +kernel
theorem d_X11_setLong_1 : decode (mB M_X11_setLong) 1 = .ok (.ifCond .lt 13, 3) := by decide +kernel
theorem d_X11_setLong_4 : decode (mB M_X11_setLong) 4 = .ok (.iload_n 1, 1) := by decide +kernel
theorem d_X11_setLong_5 : decode (mB M_X11_setLong) 5 = .ok (.aload_n 0, 1) := by decide +kernel
theorem d_X11_setLong_6 : decode (mB M_X11_setLong) 6 = .ok (.arraylength, 1) := by decide +kernel
theorem d_X11_setLong_7 : decode (mB M_X11_setLong) 7 = .ok (.if_icmp .ge 7, 3) := by decide +kernel
theorem d_X11_setLong_10 : decode (mB M_X11_setLong) 10 = .ok (.aload_n 0, 1) := by decide +kernel
theorem d_X11_setLong_11 : decode (mB M_X11_setLong) 11 = .ok (.iload_n 1, 1) := by decide +kernel
theorem d_X11_setLong_12 : decode (mB M_X11_setLong) 12 = .ok (.lload_n 2, 1) := by decide +kernel
theorem d_X11_setLong_13 : decode (mB M_X11_setLong) 13 = .ok (.lastore, 1) := by decide +kernel
theorem d_X11_setLong_14 : decode (mB M_X11_setLong) 14 = .ok (.return_, 1) := by decide +kernel
theorem c_setLong {E : mEnv} (hE : E.1.stackTraces = false) (r n : Nat) (f : Nat → Int64) (i : Int32) (x : Int64) (w : mW) (hn : n < 2 ^ 31) (ha : mget w r = some (.inl (1, n, .inr (.inl f)))) : Rt E M_X11_setLong 0 [.ref r, .int i, .long x] w none ((mset w r (.inl (1, n, .inr (.inl (setLongF n f i x)))))) := by
  refine Rt.of hE rfl pn_X11 (Nat.le_of_ble_eq_true rfl) ?_
  refine g_eq (S' := (0, [some (.ref r), some (.int i), some (.long x), none], [], w)) rfl ?_
  refine g_iload_n d_X11_setLong_0 rfl ?_
  refine g_if_lt (tgt := 14) d_X11_setLong_1 (by decide) (fun c_1 => ?_) (fun c_1 => ?_)
  · exact g_retV d_X11_setLong_14 rfl (by simp [setLongF, *, mset_self ha])
  · refine g_iload_n d_X11_setLong_4 rfl ?_
    refine g_aload_n d_X11_setLong_5 rfl ?_
    refine g_alen (v := nI n) d_X11_setLong_6 ha (by decide) rfl ?_
    refine g_icmp_ge (tgt := 14) d_X11_setLong_7 (by decide) (fun c_7 => ?_) (fun c_7 => ?_)
    · exact g_retV d_X11_setLong_14 rfl (by simp [setLongF, *, mset_self ha])
    · refine g_aload_n d_X11_setLong_10 rfl ?_
      refine g_iload_n d_X11_setLong_11 rfl ?_
      refine g_lload_n d_X11_setLong_12 rfl ?_
      refine g_last d_X11_setLong_13 ha (vp_in_of2 hn c_1 c_7) rfl ?_
      exact g_retV d_X11_setLong_14 rfl (by simp [setLongF, *])
