/-! String constants: length, charAt, indexOf of the JDK, and Math.max, min -/
def M_J3_checkIndex_8e157 : mM := (yJ3_checkIndex_8e157, cJ3_checkIndex_8e157, 3, (some .int), [], 1, 12)
theorem pn_J3 : plainName RJ3 = true := by decide +kernel
theorem in_J3 : Cond.initialized RJ3 ∈ mTBL := mTBL_of (tb_1 _ (List.mem_of_getElem? (i := 23) rfl)) rfl
theorem o_J3_checkIndex_8e157 : mOkS M_J3_checkIndex_8e157 3 := ⟨⟨mTBL_of (tb_6 _ (List.mem_of_getElem? (i := 33) rfl)) rfl, in_J3, ⟨by decide, by decide⟩, by decide +kernel⟩, mTBL_of (tb_6 _ (List.mem_of_getElem? (i := 32) rfl)) rfl⟩
theorem l_J0_1059 : Cond.methodLink RJ0 1059 yJ3_checkIndex_8e157 ∈ mTBL := mTBL_of (tb_6 _ (List.mem_of_getElem? (i := 31) rfl)) rfl
theorem fs_val : Cond.fieldLink RJ0 9 "java/lang/String" "value" "[B" ∈ mTBL := mTBL_of (tb_8 _ (List.mem_of_getElem? (i := 55) rfl)) rfl
theorem fs_cod : Cond.fieldLink RJ0 15 "java/lang/String" "coder" "B" ∈ mTBL := mTBL_of (tb_8 _ (List.mem_of_getElem? (i := 54) rfl)) rfl
theorem fs_com : Cond.fieldLink RJ0 38 "java/lang/String" "COMPACT_STRINGS" "Z" ∈ mTBL := mTBL_of (tb_3 _ (List.mem_of_getElem? (i := 25) rfl)) rfl
theorem fs_fmt : Cond.fieldLink RJ0 1053 "jdk/internal/util/Preconditions" "SIOOBE_FORMATTER" "Ljava/util/function/BiFunction;" ∈ mTBL := mTBL_of (tb_3 _ (List.mem_of_getElem? (i := 68) rfl)) rfl
theorem ms_max : Cond.static Lib.Math.max.name ∈ mTBL := mTBL_of (tb_3 _ (List.mem_of_getElem? (i := 42) rfl)) rfl
theorem mc_max : Cond.code Lib.Math.max.name Lib.Math.max.code 2 (some .int) ∈ mTBL := mTBL_of (tb_3 _ (List.mem_of_getElem? (i := 43) rfl)) rfl
theorem ms_min : Cond.static Lib.Math.min.name ∈ mTBL := mTBL_of (tb_3 _ (List.mem_of_getElem? (i := 45) rfl)) rfl
theorem mc_min : Cond.code Lib.Math.min.name Lib.Math.min.code 2 (some .int) ∈ mTBL := mTBL_of (tb_3 _ (List.mem_of_getElem? (i := 46) rfl)) rfl
theorem mi_math : Cond.initialized "java/lang/Math" ∈ mTBL := mTBL_of (tb_1 _ (List.mem_of_getElem? (i := 21) rfl)) rfl
theorem ml_J1_92 : Cond.methodLink RJ1 92 Lib.Math.max.name ∈ mTBL := mTBL_of (tb_3 _ (List.mem_of_getElem? (i := 41) rfl)) rfl
theorem ml_J1_38 : Cond.methodLink RJ1 38 Lib.Math.min.name ∈ mTBL := mTBL_of (tb_3 _ (List.mem_of_getElem? (i := 44) rfl)) rfl
theorem ml_X11_424 : Cond.methodLink RX11 424 Lib.Math.max.name ∈ mTBL := mTBL_of (tb_5 _ (List.mem_of_getElem? (i := 122) rfl)) rfl
theorem g_retB {E : mEnv} {y : mM} {n pc : Nat} {L : List (Option Value)} {w w' : mW} {x : Int32} {v : Option Value} (d : decode (mB y) pc = .ok (.ireturn, 1)) (hT : mT y = some .byte) (hx : narrow .byte (.int x) = .int x) (hv : some (.int x) = v) (hw : w = w') : Go E y n (pc, L, [.int x], w) (.inr (.inl (v, w'))) := by
  subst hv; subst hw
  exact g_ret d (Or.inl ⟨rfl, _, _, hT, rfl, hx⟩) rfl
theorem d_J0_isLatin1_aae02_0 : decode (mB M_J0_isLatin1_aae02) 0 = .ok (.getstatic 38, 3) := by decide +kernel
theorem d_J0_isLatin1_aae02_3 : decode (mB M_J0_isLatin1_aae02) 3 = .ok (.ifCond .eq 14, 3) := by decide +kernel
theorem d_J0_isLatin1_aae02_6 : decode (mB M_J0_isLatin1_aae02) 6 = .ok (.aload_n 0, 1) := by decide +kernel
theorem d_J0_isLatin1_aae02_7 : decode (mB M_J0_isLatin1_aae02) 7 = .ok (.getfield 15, 3) := by decide +kernel
theorem d_J0_isLatin1_aae02_10 : decode (mB M_J0_isLatin1_aae02) 10 = .ok (.ifCond .ne 7, 3) := by decide +kernel
theorem d_J0_isLatin1_aae02_13 : decode (mB M_J0_isLatin1_aae02) 13 = .ok (.iconst 1, 1) := by decide +kernel
theorem d_J0_isLatin1_aae02_14 : decode (mB M_J0_isLatin1_aae02) 14 = .ok (.goto 4, 3) := by decide +kernel
theorem d_J0_isLatin1_aae02_18 : decode (mB M_J0_isLatin1_aae02) 18 = .ok (.ireturn, 1) := by decide +kernel
theorem c_isLatin1 {E : mEnv} (hE : E.1.stackTraces = false) (q : String × Nat × Nat × List Int32) (hq : q ∈ mSC) (w : mW) : Rt E M_J0_isLatin1_aae02 0 [.ref (1000 + q.2.2.1)] w (some (.int 1)) w := by
  refine Rt.of hE rfl pn_J0 (Nat.le_of_ble_eq_true rfl) ?_
  refine g_eq (S' := (0, [some (.ref (1000 + q.2.2.1))], [], w)) rfl ?_
  refine g_scomp d_J0_isLatin1_aae02_0 fs_com ?_
  refine g_if_eq (tgt := 17) d_J0_isLatin1_aae02_3 (by decide) (fun c_3 => absurd c_3 (by decide)) (fun _ => ?_)
  refine g_aload_n d_J0_isLatin1_aae02_6 rfl ?_
  refine g_scod d_J0_isLatin1_aae02_7 fs_cod hq rfl ?_
  refine g_if_ne (tgt := 17) d_J0_isLatin1_aae02_10 (by decide) (fun c_10 => absurd c_10 (by decide)) (fun _ => ?_)
  refine g_iconst (v := 1) d_J0_isLatin1_aae02_13 (by decide) ?_
  refine g_goto (tgt := 18) d_J0_isLatin1_aae02_14 (by decide) ?_
  exact g_retZ d_J0_isLatin1_aae02_18 rfl (by decide) (rfl) (rfl)
theorem d_J0_coder_7d493_0 : decode (mB M_J0_coder_7d493) 0 = .ok (.getstatic 38, 3) := by decide +kernel
theorem d_J0_coder_7d493_3 : decode (mB M_J0_coder_7d493) 3 = .ok (.ifCond .eq 10, 3) := by decide +kernel
theorem d_J0_coder_7d493_6 : decode (mB M_J0_coder_7d493) 6 = .ok (.aload_n 0, 1) := by decide +kernel
theorem d_J0_coder_7d493_7 : decode (mB M_J0_coder_7d493) 7 = .ok (.getfield 15, 3) := by decide +kernel
theorem d_J0_coder_7d493_10 : decode (mB M_J0_coder_7d493) 10 = .ok (.goto 4, 3) := by decide +kernel
theorem d_J0_coder_7d493_14 : decode (mB M_J0_coder_7d493) 14 = .ok (.ireturn, 1) := by decide +kernel
theorem c_coder {E : mEnv} (hE : E.1.stackTraces = false) (q : String × Nat × Nat × List Int32) (hq : q ∈ mSC) (w : mW) : Rt E M_J0_coder_7d493 0 [.ref (1000 + q.2.2.1)] w (some (.int 0)) w := by
  refine Rt.of hE rfl pn_J0 (Nat.le_of_ble_eq_true rfl) ?_
  refine g_eq (S' := (0, [some (.ref (1000 + q.2.2.1))], [], w)) rfl ?_
  refine g_scomp d_J0_coder_7d493_0 fs_com ?_
  refine g_if_eq (tgt := 13) d_J0_coder_7d493_3 (by decide) (fun c_3 => absurd c_3 (by decide)) (fun _ => ?_)
  refine g_aload_n d_J0_coder_7d493_6 rfl ?_
  refine g_scod d_J0_coder_7d493_7 fs_cod hq rfl ?_
  refine g_goto (tgt := 14) d_J0_coder_7d493_10 (by decide) ?_
  exact g_retB d_J0_coder_7d493_14 rfl (by decide) (rfl) (rfl)
theorem d_J0_length_8abf5_0 : decode (mB M_J0_length_8abf5) 0 = .ok (.aload_n 0, 1) := by decide +kernel
theorem d_J0_length_8abf5_1 : decode (mB M_J0_length_8abf5) 1 = .ok (.getfield 9, 3) := by decide +kernel
theorem d_J0_length_8abf5_4 : decode (mB M_J0_length_8abf5) 4 = .ok (.arraylength, 1) := by decide +kernel
theorem d_J0_length_8abf5_5 : decode (mB M_J0_length_8abf5) 5 = .ok (.aload_n 0, 1) := by decide +kernel
theorem d_J0_length_8abf5_6 : decode (mB M_J0_length_8abf5) 6 = .ok (.invokevirtual 335, 3) := by decide +kernel
theorem d_J0_length_8abf5_9 : decode (mB M_J0_length_8abf5) 9 = .ok (.ishr, 1) := by decide +kernel
theorem d_J0_length_8abf5_10 : decode (mB M_J0_length_8abf5) 10 = .ok (.ireturn, 1) := by decide +kernel
theorem c_length {E : mEnv} (hE : E.1.stackTraces = false) (q : String × Nat × Nat × List Int32) (hq : q ∈ mSC) (w : mW) : Rt E M_J0_length_8abf5 0 [.ref (1000 + q.2.2.1)] w (some (.int (nI q.2.2.2.length >>> ((0 : Int32) &&& 31)))) w := by
  refine Rt.of hE rfl pn_J0 (Nat.le_of_ble_eq_true rfl) ?_
  refine g_eq (S' := (0, [some (.ref (1000 + q.2.2.1))], [], w)) rfl ?_
  refine g_aload_n d_J0_length_8abf5_0 rfl ?_
  refine g_sval d_J0_length_8abf5_1 fs_val hq rfl rfl ?_
  refine g_slen (v := nI q.2.2.2.length) d_J0_length_8abf5_4 hq rfl rfl ?_
  refine g_aload_n d_J0_length_8abf5_5 rfl ?_
  refine g_callVs (As := []) d_J0_length_8abf5_6 o_J0_coder_7d493 l_J0_335 ⟨Nat.le_of_ble_eq_true rfl, Nat.le_of_ble_eq_true rfl⟩ (c_coder hE q hq w ) hq rfl rfl rfl rfl rfl ?_ (Nat.zero_add _)
  refine g_ishr d_J0_length_8abf5_9 ?_
  exact g_retI d_J0_length_8abf5_10 rfl (rfl) (rfl)
def canF (c : Int32) : Bool := if c < 0 then false else if 255 < c then false else true
theorem d_J1_canEncode_9a6ad_0 : decode (mB M_J1_canEncode_9a6ad) 0 = .ok (.iload_n 0, 1) := by decide +kernel
theorem d_J1_canEncode_9a6ad_1 : decode (mB M_J1_canEncode_9a6ad) 1 = .ok (.ifCond .lt 14, 3) := by decide +kernel
theorem d_J1_canEncode_9a6ad_4 : decode (mB M_J1_canEncode_9a6ad) 4 = .ok (.iload_n 0, 1) := by decide +kernel
theorem d_J1_canEncode_9a6ad_5 : decode (mB M_J1_canEncode_9a6ad) 5 = .ok (.sipush 255, 3) := by decide +kernel
theorem d_J1_canEncode_9a6ad_8 : decode (mB M_J1_canEncode_9a6ad) 8 = .ok (.if_icmp .gt 7, 3) := by decide +kernel
theorem d_J1_canEncode_9a6ad_11 : decode (mB M_J1_canEncode_9a6ad) 11 = .ok (.iconst 1, 1) := by decide +kernel
theorem d_J1_canEncode_9a6ad_12 : decode (mB M_J1_canEncode_9a6ad) 12 = .ok (.goto 4, 3) := by decide +kernel
theorem d_J1_canEncode_9a6ad_15 : decode (mB M_J1_canEncode_9a6ad) 15 = .ok (.iconst 0, 1) := by decide +kernel
theorem d_J1_canEncode_9a6ad_16 : decode (mB M_J1_canEncode_9a6ad) 16 = .ok (.ireturn, 1) := by decide +kernel
theorem c_canEncode {E : mEnv} (hE : E.1.stackTraces = false) (c : Int32) (w : mW) : Rt E M_J1_canEncode_9a6ad 0 [.int c] w (some (.int (bI (canF c)))) w := by
  refine Rt.of hE rfl pn_J1 (Nat.le_of_ble_eq_true rfl) ?_
  refine g_eq (S' := (0, [some (.int c)], [], w)) rfl ?_
  refine g_iload_n d_J1_canEncode_9a6ad_0 rfl ?_
  refine g_if_lt (tgt := 15) d_J1_canEncode_9a6ad_1 (by decide) (fun c_1 => ?_) (fun c_1 => ?_)
  · refine g_iconst (v := 0) d_J1_canEncode_9a6ad_15 (by decide) ?_
    exact g_retZ d_J1_canEncode_9a6ad_16 rfl (by decide) (by simp only [canF, eq_true c_1, ↓reduceIte, Bool.false_eq_true]; rfl) (rfl)
  · refine g_iload_n d_J1_canEncode_9a6ad_4 rfl ?_
    refine g_sipush (v := 255) d_J1_canEncode_9a6ad_5 (by decide) ?_
    refine g_icmp_gt (tgt := 15) d_J1_canEncode_9a6ad_8 (by decide) (fun c_8 => ?_) (fun c_8 => ?_)
    · refine g_iconst (v := 0) d_J1_canEncode_9a6ad_15 (by decide) ?_
      exact g_retZ d_J1_canEncode_9a6ad_16 rfl (by decide) (by simp only [canF, eq_false c_1, eq_true c_8, ↓reduceIte, Bool.false_eq_true]; rfl) (rfl)
    · refine g_iconst (v := 1) d_J1_canEncode_9a6ad_11 (by decide) ?_
      refine g_goto (tgt := 16) d_J1_canEncode_9a6ad_12 (by decide) ?_
      exact g_retZ d_J1_canEncode_9a6ad_16 rfl (by decide) (by simp only [canF, eq_false c_1, eq_false c_8, ↓reduceIte, Bool.false_eq_true]; rfl) (rfl)
def sIxL (l : List Int32) (c : Int32) : Nat → Nat → Int32
  | 0, _ => -1
  | n + 1, k => if l.getD k 0 = c then nI k else sIxL l c n (k + 1)
theorem d_J1_indexOfChar_4cfef_0 : decode (mB M_J1_indexOfChar_4cfef) 0 = .ok (.iload_n 1, 1) := by decide +kernel
theorem d_J1_indexOfChar_4cfef_1 : decode (mB M_J1_indexOfChar_4cfef) 1 = .ok (.i2b, 1) := by decide +kernel
theorem d_J1_indexOfChar_4cfef_2 : decode (mB M_J1_indexOfChar_4cfef) 2 = .ok (.istore 4, 2) := by decide +kernel
theorem d_J1_indexOfChar_4cfef_4 : decode (mB M_J1_indexOfChar_4cfef) 4 = .ok (.iload_n 2, 1) := by decide +kernel
theorem d_J1_indexOfChar_4cfef_5 : decode (mB M_J1_indexOfChar_4cfef) 5 = .ok (.istore 5, 2) := by decide +kernel
theorem d_J1_indexOfChar_4cfef_7 : decode (mB M_J1_indexOfChar_4cfef) 7 = .ok (.iload 5, 2) := by decide +kernel
theorem d_J1_indexOfChar_4cfef_9 : decode (mB M_J1_indexOfChar_4cfef) 9 = .ok (.iload_n 3, 1) := by decide +kernel
theorem d_J1_indexOfChar_4cfef_10 : decode (mB M_J1_indexOfChar_4cfef) 10 = .ok (.if_icmp .ge 21, 3) := by decide +kernel
theorem d_J1_indexOfChar_4cfef_13 : decode (mB M_J1_indexOfChar_4cfef) 13 = .ok (.aload_n 0, 1) := by decide +kernel
theorem d_J1_indexOfChar_4cfef_14 : decode (mB M_J1_indexOfChar_4cfef) 14 = .ok (.iload 5, 2) := by decide +kernel
theorem d_J1_indexOfChar_4cfef_16 : decode (mB M_J1_indexOfChar_4cfef) 16 = .ok (.baload, 1) := by decide +kernel
theorem d_J1_indexOfChar_4cfef_17 : decode (mB M_J1_indexOfChar_4cfef) 17 = .ok (.iload 4, 2) := by decide +kernel
theorem d_J1_indexOfChar_4cfef_19 : decode (mB M_J1_indexOfChar_4cfef) 19 = .ok (.if_icmp .ne 6, 3) := by decide +kernel
theorem d_J1_indexOfChar_4cfef_22 : decode (mB M_J1_indexOfChar_4cfef) 22 = .ok (.iload 5, 2) := by decide +kernel
theorem d_J1_indexOfChar_4cfef_24 : decode (mB M_J1_indexOfChar_4cfef) 24 = .ok (.ireturn, 1) := by decide +kernel
theorem d_J1_indexOfChar_4cfef_25 : decode (mB M_J1_indexOfChar_4cfef) 25 = .ok (.iinc 5 1, 3) := by decide +kernel
theorem d_J1_indexOfChar_4cfef_28 : decode (mB M_J1_indexOfChar_4cfef) 28 = .ok (.goto (-21), 3) := by decide +kernel
theorem d_J1_indexOfChar_4cfef_31 : decode (mB M_J1_indexOfChar_4cfef) 31 = .ok (.iconst (-1), 1) := by decide +kernel
theorem d_J1_indexOfChar_4cfef_32 : decode (mB M_J1_indexOfChar_4cfef) 32 = .ok (.ireturn, 1) := by decide +kernel
theorem l_indexOfChar {E : mEnv} (hE : E.1.stackTraces = false) (q : String × Nat × Nat × List Int32) (hq : q ∈ mSC) (w : mW) (c : Int32) (hl : q.2.2.2.length < 2 ^ 31) : ∀ (n : Nat) (k : Nat), k + n = q.2.2.2.length → Go E M_J1_indexOfChar_4cfef 0 (7, [some (.ref (1100 + q.2.2.1)), none, none, some (.int (nI q.2.2.2.length)), some (.int c), some (.int (nI k))], [], w) (.inr (.inl (some (.int (sIxL q.2.2.2 c n k)), w))) := by
  intro n
  induction n with
  | zero =>
    intro k hk
    obtain rfl : k = q.2.2.2.length := by omega
    refine g_iload d_J1_indexOfChar_4cfef_7 rfl ?_
    refine g_iload_n d_J1_indexOfChar_4cfef_9 rfl ?_
    refine g_icmp_ge (tgt := 31) d_J1_indexOfChar_4cfef_10 (by decide) (fun c_10 => ?_) (fun c_10 => absurd c_10 (absurd (nI_le (Nat.le_refl _) hl) c_10))
    refine g_iconst (v := (-1)) d_J1_indexOfChar_4cfef_31 (by decide) ?_
    exact g_retI d_J1_indexOfChar_4cfef_32 rfl (rfl) (rfl)
  | succ n ih =>
    intro k hk
    refine g_iload d_J1_indexOfChar_4cfef_7 rfl ?_
    refine g_iload_n d_J1_indexOfChar_4cfef_9 rfl ?_
    refine g_icmp_ge (tgt := 31) d_J1_indexOfChar_4cfef_10 (by decide) (fun c_10 => absurd c_10 (nI_ge (a := k) (by omega) hl)) (fun c_10 => ?_)
    refine g_aload_n d_J1_indexOfChar_4cfef_13 rfl ?_
    refine g_iload d_J1_indexOfChar_4cfef_14 rfl ?_
    refine g_sald d_J1_indexOfChar_4cfef_16 hq rfl (vp_in_nI (by omega) (by omega)) ?_
    refine g_iload d_J1_indexOfChar_4cfef_17 rfl ?_
    refine g_icmp_ne (tgt := 25) d_J1_indexOfChar_4cfef_19 (by decide) (fun c_19 => ?_) (fun c_19 => ?_)
    · refine g_iinc (v := ((nI k) + 1)) (L' := [some (.ref (1100 + q.2.2.1)), none, none, some (.int (nI q.2.2.2.length)), some (.int c), some (.int ((nI k) + 1))]) d_J1_indexOfChar_4cfef_25 rfl rfl rfl ?_
      refine g_goto (tgt := 7) d_J1_indexOfChar_4cfef_28 (by decide) ?_
      refine g_eq (S' := (7, [some (.ref (1100 + q.2.2.1)), none, none, some (.int (nI q.2.2.2.length)), some (.int c), some (.int (nI (k + 1)))], [], w)) (by first | rfl | (rw [nI_1]; rfl) | (simp only [nI_1]; rfl) | simp only [nI_1]) ?_
      rw [nI_clamp (by omega)] at c_19
      rw [show sIxL q.2.2.2 c (n + 1) k = sIxL q.2.2.2 c n (k + 1) by simp only [sIxL, eq_false c_19, ↓reduceIte]]
      exact ih (k + 1) (by omega)
    · refine g_iload d_J1_indexOfChar_4cfef_22 rfl ?_
      exact g_retI d_J1_indexOfChar_4cfef_24 rfl (by rw [nI_clamp (by omega)] at c_19; simp only [sIxL, eq_true c_19, ↓reduceIte]) (rfl)
theorem c_indexOfChar {E : mEnv} (hE : E.1.stackTraces = false) (q : String × Nat × Nat × List Int32) (hq : q ∈ mSC) (w : mW) (c : Int32) (hl : q.2.2.2.length < 2 ^ 31) : Rt E M_J1_indexOfChar_4cfef 0 [.ref (1100 + q.2.2.1), .int c, .int 0, .int ((nI q.2.2.2.length))] w (some (.int (sIxL q.2.2.2 c.toInt8.toInt32 q.2.2.2.length 0))) w := by
  refine Rt.of hE rfl pn_J1 (Nat.le_of_ble_eq_true rfl) ?_
  refine g_eq (S' := (0, [some (.ref (1100 + q.2.2.1)), some (.int c), some (.int 0), some (.int (nI q.2.2.2.length)), none, none], [], w)) rfl ?_
  refine g_iload_n d_J1_indexOfChar_4cfef_0 rfl ?_
  refine g_i2b d_J1_indexOfChar_4cfef_1 ?_
  refine g_istore (L' := [some (.ref (1100 + q.2.2.1)), some (.int c), some (.int 0), some (.int (nI q.2.2.2.length)), some (.int c.toInt8.toInt32), none]) d_J1_indexOfChar_4cfef_2 rfl rfl ?_
  refine g_iload_n d_J1_indexOfChar_4cfef_4 rfl ?_
  refine g_istore (L' := [some (.ref (1100 + q.2.2.1)), some (.int c), some (.int 0), some (.int (nI q.2.2.2.length)), some (.int c.toInt8.toInt32), some (.int 0)]) d_J1_indexOfChar_4cfef_5 rfl rfl ?_
  refine g_drop [1, 2] (L1 := [some (.ref (1100 + q.2.2.1)), none, none, some (.int (nI q.2.2.2.length)), some (.int c.toInt8.toInt32), some (.int 0)]) rfl ?_
  refine g_eq (S' := (7, [some (.ref (1100 + q.2.2.1)), none, none, some (.int (nI q.2.2.2.length)), some (.int c.toInt8.toInt32), some (.int (nI 0))], [], w)) (rfl) ?_
  exact l_indexOfChar hE q hq w _ hl _ 0 (by omega)
def sIx (l : List Int32) (c : Int32) : Int32 := if canF c = true then (if nI l.length ≤ 0 then -1 else sIxL l c.toInt8.toInt32 l.length 0) else -1
theorem d_J1_indexOf_4cfef_0 : decode (mB M_J1_indexOf_4cfef) 0 = .ok (.iload_n 1, 1) := by decide +kernel
theorem d_J1_indexOf_4cfef_1 : decode (mB M_J1_indexOf_4cfef) 1 = .ok (.invokestatic 88, 3) := by decide +kernel
theorem d_J1_indexOf_4cfef_4 : decode (mB M_J1_indexOf_4cfef) 4 = .ok (.ifCond .ne 5, 3) := by decide +kernel
theorem d_J1_indexOf_4cfef_7 : decode (mB M_J1_indexOf_4cfef) 7 = .ok (.iconst (-1), 1) := by decide +kernel
theorem d_J1_indexOf_4cfef_8 : decode (mB M_J1_indexOf_4cfef) 8 = .ok (.ireturn, 1) := by decide +kernel
theorem d_J1_indexOf_4cfef_9 : decode (mB M_J1_indexOf_4cfef) 9 = .ok (.iload_n 2, 1) := by decide +kernel
theorem d_J1_indexOf_4cfef_10 : decode (mB M_J1_indexOf_4cfef) 10 = .ok (.iconst 0, 1) := by decide +kernel
theorem d_J1_indexOf_4cfef_11 : decode (mB M_J1_indexOf_4cfef) 11 = .ok (.invokestatic 92, 3) := by decide +kernel
theorem d_J1_indexOf_4cfef_14 : decode (mB M_J1_indexOf_4cfef) 14 = .ok (.istore_n 2, 1) := by decide +kernel
theorem d_J1_indexOf_4cfef_15 : decode (mB M_J1_indexOf_4cfef) 15 = .ok (.iload_n 3, 1) := by decide +kernel
theorem d_J1_indexOf_4cfef_16 : decode (mB M_J1_indexOf_4cfef) 16 = .ok (.aload_n 0, 1) := by decide +kernel
theorem d_J1_indexOf_4cfef_17 : decode (mB M_J1_indexOf_4cfef) 17 = .ok (.arraylength, 1) := by decide +kernel
theorem d_J1_indexOf_4cfef_18 : decode (mB M_J1_indexOf_4cfef) 18 = .ok (.invokestatic 38, 3) := by decide +kernel
theorem d_J1_indexOf_4cfef_21 : decode (mB M_J1_indexOf_4cfef) 21 = .ok (.istore_n 3, 1) := by decide +kernel
theorem d_J1_indexOf_4cfef_22 : decode (mB M_J1_indexOf_4cfef) 22 = .ok (.iload_n 2, 1) := by decide +kernel
theorem d_J1_indexOf_4cfef_23 : decode (mB M_J1_indexOf_4cfef) 23 = .ok (.iload_n 3, 1) := by decide +kernel
theorem d_J1_indexOf_4cfef_24 : decode (mB M_J1_indexOf_4cfef) 24 = .ok (.if_icmp .lt 5, 3) := by decide +kernel
theorem d_J1_indexOf_4cfef_27 : decode (mB M_J1_indexOf_4cfef) 27 = .ok (.iconst (-1), 1) := by decide +kernel
theorem d_J1_indexOf_4cfef_28 : decode (mB M_J1_indexOf_4cfef) 28 = .ok (.ireturn, 1) := by decide +kernel
theorem d_J1_indexOf_4cfef_29 : decode (mB M_J1_indexOf_4cfef) 29 = .ok (.aload_n 0, 1) := by decide +kernel
theorem d_J1_indexOf_4cfef_30 : decode (mB M_J1_indexOf_4cfef) 30 = .ok (.iload_n 1, 1) := by decide +kernel
theorem d_J1_indexOf_4cfef_31 : decode (mB M_J1_indexOf_4cfef) 31 = .ok (.iload_n 2, 1) := by decide +kernel
theorem d_J1_indexOf_4cfef_32 : decode (mB M_J1_indexOf_4cfef) 32 = .ok (.iload_n 3, 1) := by decide +kernel
theorem d_J1_indexOf_4cfef_33 : decode (mB M_J1_indexOf_4cfef) 33 = .ok (.invokestatic 95, 3) := by decide +kernel
theorem d_J1_indexOf_4cfef_36 : decode (mB M_J1_indexOf_4cfef) 36 = .ok (.ireturn, 1) := by decide +kernel
theorem c_latIndexOf {E : mEnv} (hE : E.1.stackTraces = false) (q : String × Nat × Nat × List Int32) (hq : q ∈ mSC) (w : mW) (c : Int32) (hl : q.2.2.2.length < 2 ^ 31) : Rt E M_J1_indexOf_4cfef 0 [.ref (1100 + q.2.2.1), .int c, .int 0, .int ((nI q.2.2.2.length))] w (some (.int (sIx q.2.2.2 c))) w := by
  refine Rt.of hE rfl pn_J1 (Nat.le_of_ble_eq_true rfl) ?_
  refine g_eq (S' := (0, [some (.ref (1100 + q.2.2.1)), some (.int c), some (.int 0), some (.int (nI q.2.2.2.length))], [], w)) rfl ?_
  refine g_iload_n d_J1_indexOf_4cfef_0 rfl ?_
  refine g_callS (As := [.int c]) d_J1_indexOf_4cfef_1 o_J1_canEncode_9a6ad l_J1_88 ⟨Nat.le_of_ble_eq_true rfl, Nat.le_of_ble_eq_true rfl⟩ (c_canEncode hE c w) rfl rfl ?_ (Nat.zero_add _)
  refine g_ifb_ne (tgt := 9) d_J1_indexOf_4cfef_4 (by decide) (fun c_4 => ?_) (fun c_4 => ?_)
  · refine g_iload_n d_J1_indexOf_4cfef_9 rfl ?_
    refine g_iconst (v := 0) d_J1_indexOf_4cfef_10 (by decide) ?_
    refine g_mmax d_J1_indexOf_4cfef_11 ml_J1_92 ms_max mi_math mc_max (by decide) (by decide) rfl ?_
    refine g_eq (S' := (14, [some (.ref (1100 + q.2.2.1)), some (.int c), some (.int 0), some (.int (nI q.2.2.2.length))], [.int 0], w)) (by rfl) ?_
    refine g_istore_n (L' := [some (.ref (1100 + q.2.2.1)), some (.int c), some (.int 0), some (.int (nI q.2.2.2.length))]) d_J1_indexOf_4cfef_14 rfl rfl ?_
    refine g_iload_n d_J1_indexOf_4cfef_15 rfl ?_
    refine g_aload_n d_J1_indexOf_4cfef_16 rfl ?_
    refine g_slen (v := nI q.2.2.2.length) d_J1_indexOf_4cfef_17 hq rfl rfl ?_
    refine g_mmin d_J1_indexOf_4cfef_18 ml_J1_38 ms_min mi_math mc_min (by decide) (by decide) rfl ?_
    refine g_eq (S' := (21, [some (.ref (1100 + q.2.2.1)), some (.int c), some (.int 0), some (.int (nI q.2.2.2.length))], [.int (nI q.2.2.2.length)], w)) (by rw [ite_self]) ?_
    refine g_istore_n (L' := [some (.ref (1100 + q.2.2.1)), some (.int c), some (.int 0), some (.int (nI q.2.2.2.length))]) d_J1_indexOf_4cfef_21 rfl rfl ?_
    refine g_iload_n d_J1_indexOf_4cfef_22 rfl ?_
    refine g_iload_n d_J1_indexOf_4cfef_23 rfl ?_
    refine g_icmp_lt (tgt := 29) d_J1_indexOf_4cfef_24 (by decide) (fun c_24 => ?_) (fun c_24 => ?_)
    · refine g_aload_n d_J1_indexOf_4cfef_29 rfl ?_
      refine g_iload_n d_J1_indexOf_4cfef_30 rfl ?_
      refine g_iload_n d_J1_indexOf_4cfef_31 rfl ?_
      refine g_iload_n d_J1_indexOf_4cfef_32 rfl ?_
      refine g_callS (As := [.ref (1100 + q.2.2.1), .int c, .int 0, .int (nI q.2.2.2.length)]) d_J1_indexOf_4cfef_33 o_J1_indexOfChar_4cfef l_J1_95 ⟨Nat.le_of_ble_eq_true rfl, Nat.le_of_ble_eq_true rfl⟩ (c_indexOfChar hE q hq w c hl) rfl rfl ?_ (Nat.zero_add _)
      exact g_retI d_J1_indexOf_4cfef_36 rfl (by first | (simp only [sIx, c_4, ↓reduceIte, Bool.false_eq_true]; done) | (simp only [sIx, c_4, c_24, ↓reduceIte]; done) | (simp only [sIx, c_4, eq_false (fun z => absurd c_24 (Int32.not_lt.mpr z)), ↓reduceIte]; done) | (simp only [sIx, c_4, eq_true (Int32.not_lt.mp c_24), ↓reduceIte]; done)) (rfl)
    · refine g_iconst (v := (-1)) d_J1_indexOf_4cfef_27 (by decide) ?_
      exact g_retI d_J1_indexOf_4cfef_28 rfl (by first | (simp only [sIx, c_4, ↓reduceIte, Bool.false_eq_true]; done) | (simp only [sIx, c_4, c_24, ↓reduceIte]; done) | (simp only [sIx, c_4, eq_false (fun z => absurd c_24 (Int32.not_lt.mpr z)), ↓reduceIte]; done) | (simp only [sIx, c_4, eq_true (Int32.not_lt.mp c_24), ↓reduceIte]; done)) (rfl)
  · refine g_iconst (v := (-1)) d_J1_indexOf_4cfef_7 (by decide) ?_
    exact g_retI d_J1_indexOf_4cfef_8 rfl (by simp only [sIx, c_4, ↓reduceIte, Bool.false_eq_true]) (rfl)
theorem d_J0_indexOf_7cf53_0 : decode (mB M_J0_indexOf_7cf53) 0 = .ok (.aload_n 0, 1) := by decide +kernel
theorem d_J0_indexOf_7cf53_1 : decode (mB M_J0_indexOf_7cf53) 1 = .ok (.invokevirtual 492, 3) := by decide +kernel
theorem d_J0_indexOf_7cf53_4 : decode (mB M_J0_indexOf_7cf53) 4 = .ok (.ifCond .eq 19, 3) := by decide +kernel
theorem d_J0_indexOf_7cf53_7 : decode (mB M_J0_indexOf_7cf53) 7 = .ok (.aload_n 0, 1) := by decide +kernel
theorem d_J0_indexOf_7cf53_8 : decode (mB M_J0_indexOf_7cf53) 8 = .ok (.getfield 9, 3) := by decide +kernel
theorem d_J0_indexOf_7cf53_11 : decode (mB M_J0_indexOf_7cf53) 11 = .ok (.iload_n 1, 1) := by decide +kernel
theorem d_J0_indexOf_7cf53_12 : decode (mB M_J0_indexOf_7cf53) 12 = .ok (.iload_n 2, 1) := by decide +kernel
theorem d_J0_indexOf_7cf53_13 : decode (mB M_J0_indexOf_7cf53) 13 = .ok (.aload_n 0, 1) := by decide +kernel
theorem d_J0_indexOf_7cf53_14 : decode (mB M_J0_indexOf_7cf53) 14 = .ok (.invokevirtual 505, 3) := by decide +kernel
theorem d_J0_indexOf_7cf53_17 : decode (mB M_J0_indexOf_7cf53) 17 = .ok (.invokestatic 637, 3) := by decide +kernel
theorem d_J0_indexOf_7cf53_20 : decode (mB M_J0_indexOf_7cf53) 20 = .ok (.goto 16, 3) := by decide +kernel
theorem d_J0_indexOf_7cf53_36 : decode (mB M_J0_indexOf_7cf53) 36 = .ok (.ireturn, 1) := by decide +kernel
theorem c_indexOf2 {E : mEnv} (hE : E.1.stackTraces = false) (q : String × Nat × Nat × List Int32) (hq : q ∈ mSC) (w : mW) (c : Int32) (hl : q.2.2.2.length < 2 ^ 31) : Rt E M_J0_indexOf_7cf53 0 [.ref (1000 + q.2.2.1), .int c, .int 0] w (some (.int (sIx q.2.2.2 c))) w := by
  refine Rt.of hE rfl pn_J0 (Nat.le_of_ble_eq_true rfl) ?_
  refine g_eq (S' := (0, [some (.ref (1000 + q.2.2.1)), some (.int c), some (.int 0)], [], w)) rfl ?_
  refine g_aload_n d_J0_indexOf_7cf53_0 rfl ?_
  refine g_callVs (As := []) d_J0_indexOf_7cf53_1 o_J0_isLatin1_aae02 l_J0_492 ⟨Nat.le_of_ble_eq_true rfl, Nat.le_of_ble_eq_true rfl⟩ (c_isLatin1 hE q hq w ) hq rfl rfl rfl rfl rfl ?_ (Nat.zero_add _)
  refine g_if_eq (tgt := 23) d_J0_indexOf_7cf53_4 (by decide) (fun c_4 => absurd c_4 (by decide)) (fun _ => ?_)
  refine g_aload_n d_J0_indexOf_7cf53_7 rfl ?_
  refine g_sval d_J0_indexOf_7cf53_8 fs_val hq rfl rfl ?_
  refine g_iload_n d_J0_indexOf_7cf53_11 rfl ?_
  refine g_iload_n d_J0_indexOf_7cf53_12 rfl ?_
  refine g_aload_n d_J0_indexOf_7cf53_13 rfl ?_
  refine g_callVs (As := []) d_J0_indexOf_7cf53_14 o_J0_length_8abf5 l_J0_505 ⟨Nat.le_of_ble_eq_true rfl, Nat.le_of_ble_eq_true rfl⟩ (c_length hE q hq w ) hq rfl rfl rfl rfl rfl ?_ (Nat.zero_add _)
  refine g_eq (S' := (17, [some (.ref (1000 + q.2.2.1)), some (.int c), some (.int 0)], [.int (nI q.2.2.2.length), .int 0, .int c, .ref (1100 + q.2.2.1)], w)) (by rw [sc_shr0 hl]; rfl) ?_
  refine g_callS (As := [.ref (1100 + q.2.2.1), .int c, .int 0, .int (nI q.2.2.2.length)]) d_J0_indexOf_7cf53_17 o_J1_indexOf_4cfef l_J0_637 ⟨Nat.le_of_ble_eq_true rfl, Nat.le_of_ble_eq_true rfl⟩ (c_latIndexOf hE q hq w c hl) rfl rfl ?_ (Nat.zero_add _)
  refine g_goto (tgt := 36) d_J0_indexOf_7cf53_20 (by decide) ?_
  exact g_retI d_J0_indexOf_7cf53_36 rfl (rfl) (rfl)
theorem d_J0_indexOf_0f7a4_0 : decode (mB M_J0_indexOf_0f7a4) 0 = .ok (.aload_n 0, 1) := by decide +kernel
theorem d_J0_indexOf_0f7a4_1 : decode (mB M_J0_indexOf_0f7a4) 1 = .ok (.iload_n 1, 1) := by decide +kernel
theorem d_J0_indexOf_0f7a4_2 : decode (mB M_J0_indexOf_0f7a4) 2 = .ok (.iconst 0, 1) := by decide +kernel
theorem d_J0_indexOf_0f7a4_3 : decode (mB M_J0_indexOf_0f7a4) 3 = .ok (.invokevirtual 633, 3) := by decide +kernel
theorem d_J0_indexOf_0f7a4_6 : decode (mB M_J0_indexOf_0f7a4) 6 = .ok (.ireturn, 1) := by decide +kernel
theorem c_indexOf {E : mEnv} (hE : E.1.stackTraces = false) (q : String × Nat × Nat × List Int32) (hq : q ∈ mSC) (w : mW) (c : Int32) (hl : q.2.2.2.length < 2 ^ 31) : Rt E M_J0_indexOf_0f7a4 0 [.ref (1000 + q.2.2.1), .int c] w (some (.int (sIx q.2.2.2 c))) w := by
  refine Rt.of hE rfl pn_J0 (Nat.le_of_ble_eq_true rfl) ?_
  refine g_eq (S' := (0, [some (.ref (1000 + q.2.2.1)), some (.int c)], [], w)) rfl ?_
  refine g_aload_n d_J0_indexOf_0f7a4_0 rfl ?_
  refine g_iload_n d_J0_indexOf_0f7a4_1 rfl ?_
  refine g_iconst (v := 0) d_J0_indexOf_0f7a4_2 (by decide) ?_
  refine g_callVs (As := [.int c, .int 0]) d_J0_indexOf_0f7a4_3 o_J0_indexOf_7cf53 l_J0_633 ⟨Nat.le_of_ble_eq_true rfl, Nat.le_of_ble_eq_true rfl⟩ ((fun (c : Int32) (_ : Int32) => c_indexOf2 hE q hq w c hl) c 0) hq rfl rfl rfl rfl rfl ?_ (Nat.zero_add _)
  exact g_retI d_J0_indexOf_0f7a4_6 rfl (rfl) (rfl)
theorem d_J3_checkIndex_8e157_0 : decode (mB M_J3_checkIndex_8e157) 0 = .ok (.iload_n 0, 1) := by decide +kernel
theorem d_J3_checkIndex_8e157_1 : decode (mB M_J3_checkIndex_8e157) 1 = .ok (.ifCond .lt 8, 3) := by decide +kernel
theorem d_J3_checkIndex_8e157_4 : decode (mB M_J3_checkIndex_8e157) 4 = .ok (.iload_n 0, 1) := by decide +kernel
theorem d_J3_checkIndex_8e157_5 : decode (mB M_J3_checkIndex_8e157) 5 = .ok (.iload_n 1, 1) := by decide +kernel
theorem d_J3_checkIndex_8e157_6 : decode (mB M_J3_checkIndex_8e157) 6 = .ok (.if_icmp .lt 10, 3) := by decide +kernel
theorem d_J3_checkIndex_8e157_16 : decode (mB M_J3_checkIndex_8e157) 16 = .ok (.iload_n 0, 1) := by decide +kernel
theorem d_J3_checkIndex_8e157_17 : decode (mB M_J3_checkIndex_8e157) 17 = .ok (.ireturn, 1) := by decide +kernel
theorem d_J0_checkIndex_df160_0 : decode (mB M_J0_checkIndex_df160) 0 = .ok (.iload_n 0, 1) := by decide +kernel
theorem d_J0_checkIndex_df160_1 : decode (mB M_J0_checkIndex_df160) 1 = .ok (.iload_n 1, 1) := by decide +kernel
theorem d_J0_checkIndex_df160_2 : decode (mB M_J0_checkIndex_df160) 2 = .ok (.getstatic 1053, 3) := by decide +kernel
theorem d_J0_checkIndex_df160_5 : decode (mB M_J0_checkIndex_df160) 5 = .ok (.invokestatic 1059, 3) := by decide +kernel
theorem d_J0_checkIndex_df160_8 : decode (mB M_J0_checkIndex_df160) 8 = .ok (.pop, 1) := by decide +kernel
theorem d_J0_checkIndex_df160_9 : decode (mB M_J0_checkIndex_df160) 9 = .ok (.return_, 1) := by decide +kernel
theorem mFm_cat (E : mEnv) : (mFm E).category = 1 := by
  unfold mFm
  split <;> rfl
theorem c_chk3 {E : mEnv} (hE : E.1.stackTraces = false) (i l : Int32) (w : mW) (h0 : ¬ i < 0) (h1 : i < l) : Rt E M_J3_checkIndex_8e157 0 [.int i, .int l, mFm E] w (some (.int i)) w := by
  have hc := mFm_cat E
  have hM : mEnt [.int i, .int l, mFm E] = [some (.int i), some (.int l), some (mFm E)] := by simp [mEnt, hc, show (Value.int i).category = 1 from rfl, show (Value.int l).category = 1 from rfl]
  have hL : mEnd [.int i, .int l, mFm E] 3 = [some (.int i), some (.int l), some (mFm E)] := by
    unfold mEnd
    rw [hM]
    rfl
  refine Rt.of hE rfl pn_J3 (by rw [hM]; exact Nat.le_of_ble_eq_true rfl) ?_
  refine g_eq (S' := (0, [some (.int i), some (.int l), some (mFm E)], [], w)) (by rw [show mL M_J3_checkIndex_8e157 = 3 from rfl, hL]) ?_
  refine g_iload_n d_J3_checkIndex_8e157_0 rfl ?_
  refine g_if_lt (tgt := 9) d_J3_checkIndex_8e157_1 (by decide) (fun c_1 => absurd c_1 h0) (fun c_1 => ?_)
  refine g_iload_n d_J3_checkIndex_8e157_4 rfl ?_
  refine g_iload_n d_J3_checkIndex_8e157_5 rfl ?_
  refine g_icmp_lt (tgt := 16) d_J3_checkIndex_8e157_6 (by decide) (fun c_6 => ?_) (fun c_6 => absurd h1 c_6)
  refine g_iload_n d_J3_checkIndex_8e157_16 rfl ?_
  exact g_retI d_J3_checkIndex_8e157_17 rfl rfl rfl
theorem c_chk {E : mEnv} (hE : E.1.stackTraces = false) (i l : Int32) (w : mW) (h0 : ¬ i < 0) (h1 : i < l) : Rt E M_J0_checkIndex_df160 0 [.int i, .int l] w none w := by
  refine Rt.of hE rfl pn_J0 (Nat.le_of_ble_eq_true rfl) ?_
  refine g_eq (S' := (0, [some (.int i), some (.int l)], [], w)) rfl ?_
  refine g_iload_n d_J0_checkIndex_df160_0 rfl ?_
  refine g_iload_n d_J0_checkIndex_df160_1 rfl ?_
  refine g_sfmt d_J0_checkIndex_df160_2 fs_fmt ?_
  refine g_callS (As := [.int i, .int l, mFm E]) d_J0_checkIndex_df160_5 o_J3_checkIndex_8e157 l_J0_1059 ⟨Nat.le_of_ble_eq_true rfl, Nat.le_of_ble_eq_true rfl⟩ (c_chk3 hE i l w h0 h1) rfl rfl ?_ (Nat.zero_add _)
  refine g_pop d_J0_checkIndex_df160_8 rfl ?_
  exact g_retV d_J0_checkIndex_df160_9 rfl rfl
def sCh (l : List Int32) (k : Nat) : Int32 := ((l.getD k 0 &&& 255).toUInt32 % 65536).toInt32
theorem d_J1_charAt_3b067_0 : decode (mB M_J1_charAt_3b067) 0 = .ok (.iload_n 1, 1) := by decide +kernel
theorem d_J1_charAt_3b067_1 : decode (mB M_J1_charAt_3b067) 1 = .ok (.aload_n 0, 1) := by decide +kernel
theorem d_J1_charAt_3b067_2 : decode (mB M_J1_charAt_3b067) 2 = .ok (.arraylength, 1) := by decide +kernel
theorem d_J1_charAt_3b067_3 : decode (mB M_J1_charAt_3b067) 3 = .ok (.invokestatic 9, 3) := by decide +kernel
theorem d_J1_charAt_3b067_6 : decode (mB M_J1_charAt_3b067) 6 = .ok (.aload_n 0, 1) := by decide +kernel
theorem d_J1_charAt_3b067_7 : decode (mB M_J1_charAt_3b067) 7 = .ok (.iload_n 1, 1) := by decide +kernel
theorem d_J1_charAt_3b067_8 : decode (mB M_J1_charAt_3b067) 8 = .ok (.baload, 1) := by decide +kernel
theorem d_J1_charAt_3b067_9 : decode (mB M_J1_charAt_3b067) 9 = .ok (.sipush 255, 3) := by decide +kernel
theorem d_J1_charAt_3b067_12 : decode (mB M_J1_charAt_3b067) 12 = .ok (.iand, 1) := by decide +kernel
theorem d_J1_charAt_3b067_13 : decode (mB M_J1_charAt_3b067) 13 = .ok (.i2c, 1) := by decide +kernel
theorem d_J1_charAt_3b067_14 : decode (mB M_J1_charAt_3b067) 14 = .ok (.ireturn, 1) := by decide +kernel
theorem c_latCharAt {E : mEnv} (hE : E.1.stackTraces = false) (q : String × Nat × Nat × List Int32) (hq : q ∈ mSC) (w : mW) (k : Nat) (hk : k < q.2.2.2.length) (hl : q.2.2.2.length < 2 ^ 31) : Rt E M_J1_charAt_3b067 0 [.ref (1100 + q.2.2.1), .int ((nI k))] w (some (.int (sCh q.2.2.2 k))) w := by
  refine Rt.of hE rfl pn_J1 (Nat.le_of_ble_eq_true rfl) ?_
  refine g_eq (S' := (0, [some (.ref (1100 + q.2.2.1)), some (.int (nI k))], [], w)) rfl ?_
  refine g_iload_n d_J1_charAt_3b067_0 rfl ?_
  refine g_aload_n d_J1_charAt_3b067_1 rfl ?_
  refine g_slen (v := nI q.2.2.2.length) d_J1_charAt_3b067_2 hq rfl rfl ?_
  refine g_callS (As := [.int (nI k), .int (nI q.2.2.2.length)]) d_J1_charAt_3b067_3 o_J0_checkIndex_df160 l_J1_9 ⟨Nat.le_of_ble_eq_true rfl, Nat.le_of_ble_eq_true rfl⟩ (c_chk hE (nI k) (nI q.2.2.2.length) w (nI_pos (by omega)) (nI_lt hk hl)) rfl rfl ?_ (Nat.zero_add _)
  refine g_aload_n d_J1_charAt_3b067_6 rfl ?_
  refine g_iload_n d_J1_charAt_3b067_7 rfl ?_
  refine g_sald d_J1_charAt_3b067_8 hq rfl (vp_in_nI hk hl) ?_
  refine g_sipush (v := 255) d_J1_charAt_3b067_9 (by decide) ?_
  refine g_iand d_J1_charAt_3b067_12 ?_
  refine g_i2c d_J1_charAt_3b067_13 ?_
  exact g_retC d_J1_charAt_3b067_14 rfl (by rw [nI_clamp (by omega), sc_c2]; exact sc_nar _) (by rw [nI_clamp (by omega)]; rfl) (rfl)
theorem d_J0_charAt_5068e_0 : decode (mB M_J0_charAt_5068e) 0 = .ok (.aload_n 0, 1) := by decide +kernel
theorem d_J0_charAt_5068e_1 : decode (mB M_J0_charAt_5068e) 1 = .ok (.invokevirtual 492, 3) := by decide +kernel
theorem d_J0_charAt_5068e_4 : decode (mB M_J0_charAt_5068e) 4 = .ok (.ifCond .eq 12, 3) := by decide +kernel
theorem d_J0_charAt_5068e_7 : decode (mB M_J0_charAt_5068e) 7 = .ok (.aload_n 0, 1) := by decide +kernel
theorem d_J0_charAt_5068e_8 : decode (mB M_J0_charAt_5068e) 8 = .ok (.getfield 9, 3) := by decide +kernel
theorem d_J0_charAt_5068e_11 : decode (mB M_J0_charAt_5068e) 11 = .ok (.iload_n 1, 1) := by decide +kernel
theorem d_J0_charAt_5068e_12 : decode (mB M_J0_charAt_5068e) 12 = .ok (.invokestatic 495, 3) := by decide +kernel
theorem d_J0_charAt_5068e_15 : decode (mB M_J0_charAt_5068e) 15 = .ok (.ireturn, 1) := by decide +kernel
theorem c_charAt {E : mEnv} (hE : E.1.stackTraces = false) (q : String × Nat × Nat × List Int32) (hq : q ∈ mSC) (w : mW) (k : Nat) (hk : k < q.2.2.2.length) (hl : q.2.2.2.length < 2 ^ 31) : Rt E M_J0_charAt_5068e 0 [.ref (1000 + q.2.2.1), .int ((nI k))] w (some (.int (sCh q.2.2.2 k))) w := by
  refine Rt.of hE rfl pn_J0 (Nat.le_of_ble_eq_true rfl) ?_
  refine g_eq (S' := (0, [some (.ref (1000 + q.2.2.1)), some (.int (nI k))], [], w)) rfl ?_
  refine g_aload_n d_J0_charAt_5068e_0 rfl ?_
  refine g_callVs (As := []) d_J0_charAt_5068e_1 o_J0_isLatin1_aae02 l_J0_492 ⟨Nat.le_of_ble_eq_true rfl, Nat.le_of_ble_eq_true rfl⟩ (c_isLatin1 hE q hq w ) hq rfl rfl rfl rfl rfl ?_ (Nat.zero_add _)
  refine g_if_eq (tgt := 16) d_J0_charAt_5068e_4 (by decide) (fun c_4 => absurd c_4 (by decide)) (fun _ => ?_)
  refine g_aload_n d_J0_charAt_5068e_7 rfl ?_
  refine g_sval d_J0_charAt_5068e_8 fs_val hq rfl rfl ?_
  refine g_iload_n d_J0_charAt_5068e_11 rfl ?_
  refine g_callS (As := [.ref (1100 + q.2.2.1), .int (nI k)]) d_J0_charAt_5068e_12 o_J1_charAt_3b067 l_J0_495 ⟨Nat.le_of_ble_eq_true rfl, Nat.le_of_ble_eq_true rfl⟩ (c_latCharAt hE q hq w k hk hl) rfl rfl ?_ (Nat.zero_add _)
  exact g_retC d_J0_charAt_5068e_15 rfl (by unfold sCh; rw [sc_c2]; exact sc_nar _) (rfl) (rfl)
