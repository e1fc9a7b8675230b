/-! words for what makes cells (printed by gen/pc1.py) -/
theorem kO_i : Cond.instanceMethod objectInit ∈ mTBL := mTBL_of (tb_1 _ (List.mem_of_getElem? (i := 36) rfl)) rfl
theorem kO_c : Cond.code objectInit ⟨#[0xb1]⟩ 1 none ∈ mTBL := mTBL_of (tb_1 _ (List.mem_of_getElem? (i := 37) rfl)) rfl
theorem kA_int : Cond.arrayClass (newarray.typeOf .int) ∈ mTBL := mTBL_of (tb_1 _ (List.mem_of_getElem? (i := 213) rfl)) rfl
theorem kA_long : Cond.arrayClass (newarray.typeOf .long) ∈ mTBL := mTBL_of (tb_1 _ (List.mem_of_getElem? (i := 184) rfl)) rfl
theorem kA_char : Cond.arrayClass (newarray.typeOf .char) ∈ mTBL := mTBL_of (tb_1 _ (List.mem_of_getElem? (i := 52) rfl)) rfl
theorem kA_boolean : Cond.arrayClass (newarray.typeOf .boolean) ∈ mTBL := mTBL_of (tb_6 _ (List.mem_of_getElem? (i := 208) rfl)) rfl
theorem kI_X0 : Cond.instantiable RX0 7 ∈ mTBL := mTBL_of (tb_1 _ (List.mem_of_getElem? (i := 101) rfl)) rfl
theorem kD_X0 : ∀ j, j < 7 → defaultValue (tyX0 j) = vp_V [.null, .null, .null, .null, .null, .null, .int 0] j := by
  intro j hj
  match j, hj with
  | 0, _ => rfl
  | 1, _ => rfl
  | 2, _ => rfl
  | 3, _ => rfl
  | 4, _ => rfl
  | 5, _ => rfl
  | 6, _ => rfl
  | n + 7, hj => omega
theorem o_X0_init : mOkI M_X0_init 0 := ⟨⟨mTBL_of (tb_1 _ (List.mem_of_getElem? (i := 104) rfl)) rfl, in_X0, ⟨by decide, by decide⟩, by decide +kernel⟩, mTBL_of (tb_1 _ (List.mem_of_getElem? (i := 103) rfl)) rfl, rfl⟩
theorem kI_X1 : Cond.instantiable RX1 2 ∈ mTBL := mTBL_of (tb_1 _ (List.mem_of_getElem? (i := 235) rfl)) rfl
theorem kD_X1 : ∀ j, j < 2 → defaultValue (tyX1 j) = vp_V [.null, .null] j := by
  intro j hj
  match j, hj with
  | 0, _ => rfl
  | 1, _ => rfl
  | n + 2, hj => omega
theorem o_X1_init : mOkI M_X1_init 1 := ⟨⟨mTBL_of (tb_1 _ (List.mem_of_getElem? (i := 238) rfl)) rfl, in_X1, ⟨by decide, by decide⟩, by decide +kernel⟩, mTBL_of (tb_1 _ (List.mem_of_getElem? (i := 237) rfl)) rfl, rfl⟩
theorem kI_X2 : Cond.instantiable RX2 7 ∈ mTBL := mTBL_of (tb_1 _ (List.mem_of_getElem? (i := 107) rfl)) rfl
theorem kD_X2 : ∀ j, j < 7 → defaultValue (tyX2 j) = vp_V [.int 0, .int 0, .long 0, .long 0, .long 0, .long 0, .long 0] j := by
  intro j hj
  match j, hj with
  | 0, _ => rfl
  | 1, _ => rfl
  | 2, _ => rfl
  | 3, _ => rfl
  | 4, _ => rfl
  | 5, _ => rfl
  | 6, _ => rfl
  | n + 7, hj => omega
theorem o_X2_init : mOkI M_X2_init 0 := ⟨⟨mTBL_of (tb_1 _ (List.mem_of_getElem? (i := 110) rfl)) rfl, in_X2, ⟨by decide, by decide⟩, by decide +kernel⟩, mTBL_of (tb_1 _ (List.mem_of_getElem? (i := 109) rfl)) rfl, rfl⟩
theorem kI_X3 : Cond.instantiable RX3 4 ∈ mTBL := mTBL_of (tb_1 _ (List.mem_of_getElem? (i := 215) rfl)) rfl
theorem kD_X3 : ∀ j, j < 4 → defaultValue (tyX3 j) = vp_V [.null, .null, .null, .int 0] j := by
  intro j hj
  match j, hj with
  | 0, _ => rfl
  | 1, _ => rfl
  | 2, _ => rfl
  | 3, _ => rfl
  | n + 4, hj => omega
theorem o_X3_init : mOkI M_X3_init 0 := ⟨⟨mTBL_of (tb_1 _ (List.mem_of_getElem? (i := 218) rfl)) rfl, in_X3, ⟨by decide, by decide⟩, by decide +kernel⟩, mTBL_of (tb_1 _ (List.mem_of_getElem? (i := 217) rfl)) rfl, rfl⟩
theorem kI_X4 : Cond.instantiable RX4 2 ∈ mTBL := mTBL_of (tb_1 _ (List.mem_of_getElem? (i := 171) rfl)) rfl
theorem kD_X4 : ∀ j, j < 2 → defaultValue (tyX4 j) = vp_V [.null, .int 0] j := by
  intro j hj
  match j, hj with
  | 0, _ => rfl
  | 1, _ => rfl
  | n + 2, hj => omega
theorem o_X4_init : mOkI M_X4_init 0 := ⟨⟨mTBL_of (tb_1 _ (List.mem_of_getElem? (i := 174) rfl)) rfl, in_X4, ⟨by decide, by decide⟩, by decide +kernel⟩, mTBL_of (tb_1 _ (List.mem_of_getElem? (i := 173) rfl)) rfl, rfl⟩
theorem kI_X5 : Cond.instantiable RX5 3 ∈ mTBL := mTBL_of (tb_2 _ (List.mem_of_getElem? (i := 10) rfl)) rfl
theorem kD_X5 : ∀ j, j < 3 → defaultValue (tyX5 j) = vp_V [.null, .null, .null] j := by
  intro j hj
  match j, hj with
  | 0, _ => rfl
  | 1, _ => rfl
  | 2, _ => rfl
  | n + 3, hj => omega
theorem o_X5_init : mOkI M_X5_init 1 := ⟨⟨mTBL_of (tb_2 _ (List.mem_of_getElem? (i := 13) rfl)) rfl, in_X5, ⟨by decide, by decide⟩, by decide +kernel⟩, mTBL_of (tb_2 _ (List.mem_of_getElem? (i := 12) rfl)) rfl, rfl⟩
theorem kI_X6 : Cond.instantiable RX6 3 ∈ mTBL := mTBL_of (tb_1 _ (List.mem_of_getElem? (i := 148) rfl)) rfl
theorem kD_X6 : ∀ j, j < 3 → defaultValue (tyX6 j) = vp_V [.null, .long 0, .int 0] j := by
  intro j hj
  match j, hj with
  | 0, _ => rfl
  | 1, _ => rfl
  | 2, _ => rfl
  | n + 3, hj => omega
theorem o_X6_init : mOkI M_X6_init 1 := ⟨⟨mTBL_of (tb_1 _ (List.mem_of_getElem? (i := 151) rfl)) rfl, in_X6, ⟨by decide, by decide⟩, by decide +kernel⟩, mTBL_of (tb_1 _ (List.mem_of_getElem? (i := 150) rfl)) rfl, rfl⟩
theorem kI_X7 : Cond.instantiable RX7 10 ∈ mTBL := mTBL_of (tb_1 _ (List.mem_of_getElem? (i := 54) rfl)) rfl
theorem kD_X7 : ∀ j, j < 10 → defaultValue (tyX7 j) = vp_V [.int 0, .int 0, .long 0, .long 0, .long 0, .int 0, .int 0, .int 0, .int 0, .int 0] j := by
  intro j hj
  match j, hj with
  | 0, _ => rfl
  | 1, _ => rfl
  | 2, _ => rfl
  | 3, _ => rfl
  | 4, _ => rfl
  | 5, _ => rfl
  | 6, _ => rfl
  | 7, _ => rfl
  | 8, _ => rfl
  | 9, _ => rfl
  | n + 10, hj => omega
theorem o_X7_init : mOkI M_X7_init 0 := ⟨⟨mTBL_of (tb_1 _ (List.mem_of_getElem? (i := 57) rfl)) rfl, in_X7, ⟨by decide, by decide⟩, by decide +kernel⟩, mTBL_of (tb_1 _ (List.mem_of_getElem? (i := 56) rfl)) rfl, rfl⟩
theorem kI_X8 : Cond.instantiable RX8 11 ∈ mTBL := mTBL_of (tb_2 _ (List.mem_of_getElem? (i := 26) rfl)) rfl
theorem kD_X8 : ∀ j, j < 11 → defaultValue (tyX8 j) = vp_V [.null, .null, .null, .null, .null, .null, .int 0, .int 0, .int 0, .int 0, .int 0] j := by
  intro j hj
  match j, hj with
  | 0, _ => rfl
  | 1, _ => rfl
  | 2, _ => rfl
  | 3, _ => rfl
  | 4, _ => rfl
  | 5, _ => rfl
  | 6, _ => rfl
  | 7, _ => rfl
  | 8, _ => rfl
  | 9, _ => rfl
  | 10, _ => rfl
  | n + 11, hj => omega
theorem o_X8_init : mOkI M_X8_init 1 := ⟨⟨mTBL_of (tb_2 _ (List.mem_of_getElem? (i := 29) rfl)) rfl, in_X8, ⟨by decide, by decide⟩, by decide +kernel⟩, mTBL_of (tb_2 _ (List.mem_of_getElem? (i := 28) rfl)) rfl, rfl⟩
theorem kI_X9 : Cond.instantiable RX9 3 ∈ mTBL := mTBL_of (tb_2 _ (List.mem_of_getElem? (i := 70) rfl)) rfl
theorem kD_X9 : ∀ j, j < 3 → defaultValue (tyX9 j) = vp_V [.null, .int 0, .int 0] j := by
  intro j hj
  match j, hj with
  | 0, _ => rfl
  | 1, _ => rfl
  | 2, _ => rfl
  | n + 3, hj => omega
theorem o_X9_init : mOkI M_X9_init 0 := ⟨⟨mTBL_of (tb_2 _ (List.mem_of_getElem? (i := 73) rfl)) rfl, in_X9, ⟨by decide, by decide⟩, by decide +kernel⟩, mTBL_of (tb_2 _ (List.mem_of_getElem? (i := 72) rfl)) rfl, rfl⟩
theorem kI_X10 : Cond.instantiable RX10 2 ∈ mTBL := mTBL_of (tb_1 _ (List.mem_of_getElem? (i := 39) rfl)) rfl
theorem kD_X10 : ∀ j, j < 2 → defaultValue (tyX10 j) = vp_V [.null, .int 0] j := by
  intro j hj
  match j, hj with
  | 0, _ => rfl
  | 1, _ => rfl
  | n + 2, hj => omega
theorem o_X10_init : mOkI M_X10_init 0 := ⟨⟨mTBL_of (tb_1 _ (List.mem_of_getElem? (i := 42) rfl)) rfl, in_X10, ⟨by decide, by decide⟩, by decide +kernel⟩, mTBL_of (tb_1 _ (List.mem_of_getElem? (i := 41) rfl)) rfl, rfl⟩
theorem kI_X11 : Cond.instantiable RX11 12 ∈ mTBL := mTBL_of (tb_1 _ (List.mem_of_getElem? (i := 31) rfl)) rfl
theorem kD_X11 : ∀ j, j < 12 → defaultValue (tyX11 j) = vp_V [.null, .null, .null, .null, .null, .null, .null, .null, .null, .int 0, .int 0, .int 0] j := by
  intro j hj
  match j, hj with
  | 0, _ => rfl
  | 1, _ => rfl
  | 2, _ => rfl
  | 3, _ => rfl
  | 4, _ => rfl
  | 5, _ => rfl
  | 6, _ => rfl
  | 7, _ => rfl
  | 8, _ => rfl
  | 9, _ => rfl
  | 10, _ => rfl
  | 11, _ => rfl
  | n + 12, hj => omega
theorem o_X11_init : mOkI M_X11_init 0 := ⟨⟨mTBL_of (tb_1 _ (List.mem_of_getElem? (i := 34) rfl)) rfl, in_X11, ⟨by decide, by decide⟩, by decide +kernel⟩, mTBL_of (tb_1 _ (List.mem_of_getElem? (i := 33) rfl)) rfl, rfl⟩
theorem kI_X12 : Cond.instantiable RX12 36 ∈ mTBL := mTBL_of (tb_6 _ (List.mem_of_getElem? (i := 95) rfl)) rfl
theorem kD_X12 : ∀ j, j < 36 → defaultValue (tyX12 j) = vp_V [.null, .null, .null, .int 0, .null, .int 0, .int 0, .int 0, .int 0, .int 0, .null, .int 0, .int 0, .int 0, .int 0, .null, .int 0, .null, .null, .null, .null, .int 0, .null, .null, .int 0, .null, .int 0, .null, .null, .null, .null, .int 0, .null, .int 0, .int 0, .int 0] j := by
  intro j hj
  match j, hj with
  | 0, _ => rfl
  | 1, _ => rfl
  | 2, _ => rfl
  | 3, _ => rfl
  | 4, _ => rfl
  | 5, _ => rfl
  | 6, _ => rfl
  | 7, _ => rfl
  | 8, _ => rfl
  | 9, _ => rfl
  | 10, _ => rfl
  | 11, _ => rfl
  | 12, _ => rfl
  | 13, _ => rfl
  | 14, _ => rfl
  | 15, _ => rfl
  | 16, _ => rfl
  | 17, _ => rfl
  | 18, _ => rfl
  | 19, _ => rfl
  | 20, _ => rfl
  | 21, _ => rfl
  | 22, _ => rfl
  | 23, _ => rfl
  | 24, _ => rfl
  | 25, _ => rfl
  | 26, _ => rfl
  | 27, _ => rfl
  | 28, _ => rfl
  | 29, _ => rfl
  | 30, _ => rfl
  | 31, _ => rfl
  | 32, _ => rfl
  | 33, _ => rfl
  | 34, _ => rfl
  | 35, _ => rfl
  | n + 36, hj => omega
theorem o_X12_init : mOkI M_X12_init 0 := ⟨⟨mTBL_of (tb_6 _ (List.mem_of_getElem? (i := 98) rfl)) rfl, in_X12, ⟨by decide, by decide⟩, by decide +kernel⟩, mTBL_of (tb_6 _ (List.mem_of_getElem? (i := 97) rfl)) rfl, rfl⟩
theorem kL_X0_3 : Cond.methodLink RX0 3 objectInit ∈ mTBL := mTBL_of (tb_1 _ (List.mem_of_getElem? (i := 105) rfl)) rfl
theorem kC_X0_9 : Cond.classLink RX0 9 RX2 ∈ mTBL := mTBL_of (tb_1 _ (List.mem_of_getElem? (i := 106) rfl)) rfl
theorem kL_X0_11 : Cond.methodLink RX0 11 yX2_init ∈ mTBL := mTBL_of (tb_1 _ (List.mem_of_getElem? (i := 108) rfl)) rfl
theorem pF_X0_12 : mPutF RX0 12 0 0 (tyX0 0) := ⟨RX0, TX0, 7, tyX0, rfl, by decide, iw_X0, mTBL_of (tb_1 _ (List.mem_of_getElem? (i := 185) rfl)) rfl, tyX0_ok, nmX0, rfl, rfl, rfl⟩
theorem kC_X0_18 : Cond.classLink RX0 18 RX6 ∈ mTBL := mTBL_of (tb_1 _ (List.mem_of_getElem? (i := 147) rfl)) rfl
theorem kL_X0_20 : Cond.methodLink RX0 20 yX6_init ∈ mTBL := mTBL_of (tb_1 _ (List.mem_of_getElem? (i := 149) rfl)) rfl
theorem pF_X0_23 : mPutF RX0 23 0 1 (tyX0 1) := ⟨RX0, TX0, 7, tyX0, rfl, by decide, iw_X0, mTBL_of (tb_1 _ (List.mem_of_getElem? (i := 187) rfl)) rfl, tyX0_ok, nmX0, rfl, rfl, rfl⟩
theorem pF_X0_27 : mPutF RX0 27 0 2 (tyX0 2) := ⟨RX0, TX0, 7, tyX0, rfl, by decide, iw_X0, mTBL_of (tb_1 _ (List.mem_of_getElem? (i := 190) rfl)) rfl, tyX0_ok, nmX0, rfl, rfl, rfl⟩
theorem pF_X0_30 : mPutF RX0 30 0 3 (tyX0 3) := ⟨RX0, TX0, 7, tyX0, rfl, by decide, iw_X0, mTBL_of (tb_1 _ (List.mem_of_getElem? (i := 191) rfl)) rfl, tyX0_ok, nmX0, rfl, rfl, rfl⟩
theorem kC_X0_33 : Cond.classLink RX0 33 RX4 ∈ mTBL := mTBL_of (tb_1 _ (List.mem_of_getElem? (i := 170) rfl)) rfl
theorem kL_X0_35 : Cond.methodLink RX0 35 yX4_init ∈ mTBL := mTBL_of (tb_1 _ (List.mem_of_getElem? (i := 172) rfl)) rfl
theorem pF_X0_36 : mPutF RX0 36 0 4 (tyX0 4) := ⟨RX0, TX0, 7, tyX0, rfl, by decide, iw_X0, mTBL_of (tb_1 _ (List.mem_of_getElem? (i := 192) rfl)) rfl, tyX0_ok, nmX0, rfl, rfl, rfl⟩
theorem pF_X0_40 : mPutF RX0 40 0 5 (tyX0 5) := ⟨RX0, TX0, 7, tyX0, rfl, by decide, iw_X0, mTBL_of (tb_1 _ (List.mem_of_getElem? (i := 193) rfl)) rfl, tyX0_ok, nmX0, rfl, rfl, rfl⟩
theorem kL_X1_3 : Cond.methodLink RX1 3 objectInit ∈ mTBL := mTBL_of (tb_1 _ (List.mem_of_getElem? (i := 239) rfl)) rfl
theorem pF_X1_9 : mPutF RX1 9 1 0 (tyX1 0) := ⟨RX1, TX1, 2, tyX1, rfl, by decide, iw_X1, mTBL_of (tb_2 _ (List.mem_of_getElem? (i := 2) rfl)) rfl, tyX1_ok, nmX1, rfl, rfl, rfl⟩
theorem kC_X1_15 : Cond.classLink RX1 15 RX4 ∈ mTBL := mTBL_of (tb_2 _ (List.mem_of_getElem? (i := 0) rfl)) rfl
theorem kL_X1_17 : Cond.methodLink RX1 17 yX4_init ∈ mTBL := mTBL_of (tb_2 _ (List.mem_of_getElem? (i := 1) rfl)) rfl
theorem pF_X1_18 : mPutF RX1 18 1 1 (tyX1 1) := ⟨RX1, TX1, 2, tyX1, rfl, by decide, iw_X1, mTBL_of (tb_2 _ (List.mem_of_getElem? (i := 3) rfl)) rfl, tyX1_ok, nmX1, rfl, rfl, rfl⟩
theorem kL_X2_3 : Cond.methodLink RX2 3 objectInit ∈ mTBL := mTBL_of (tb_1 _ (List.mem_of_getElem? (i := 111) rfl)) rfl
theorem kL_X3_3 : Cond.methodLink RX3 3 objectInit ∈ mTBL := mTBL_of (tb_1 _ (List.mem_of_getElem? (i := 219) rfl)) rfl
theorem pF_X3_9 : mPutF RX3 9 3 0 (tyX3 0) := ⟨RX3, TX3, 4, tyX3, rfl, by decide, iw_X3, mTBL_of (tb_1 _ (List.mem_of_getElem? (i := 220) rfl)) rfl, tyX3_ok, nmX3, rfl, rfl, rfl⟩
theorem pF_X3_15 : mPutF RX3 15 3 1 (tyX3 1) := ⟨RX3, TX3, 4, tyX3, rfl, by decide, iw_X3, mTBL_of (tb_1 _ (List.mem_of_getElem? (i := 221) rfl)) rfl, tyX3_ok, nmX3, rfl, rfl, rfl⟩
theorem pF_X3_19 : mPutF RX3 19 3 2 (tyX3 2) := ⟨RX3, TX3, 4, tyX3, rfl, by decide, iw_X3, mTBL_of (tb_1 _ (List.mem_of_getElem? (i := 222) rfl)) rfl, tyX3_ok, nmX3, rfl, rfl, rfl⟩
theorem kL_X4_3 : Cond.methodLink RX4 3 objectInit ∈ mTBL := mTBL_of (tb_1 _ (List.mem_of_getElem? (i := 175) rfl)) rfl
theorem pF_X4_9 : mPutF RX4 9 4 0 (tyX4 0) := ⟨RX4, TX4, 2, tyX4, rfl, by decide, iw_X4, mTBL_of (tb_1 _ (List.mem_of_getElem? (i := 176) rfl)) rfl, tyX4_ok, nmX4, rfl, rfl, rfl⟩
theorem kL_X5_3 : Cond.methodLink RX5 3 objectInit ∈ mTBL := mTBL_of (tb_2 _ (List.mem_of_getElem? (i := 14) rfl)) rfl
theorem pF_X5_9 : mPutF RX5 9 5 0 (tyX5 0) := ⟨RX5, TX5, 3, tyX5, rfl, by decide, iw_X5, mTBL_of (tb_2 _ (List.mem_of_getElem? (i := 15) rfl)) rfl, tyX5_ok, nmX5, rfl, rfl, rfl⟩
theorem pF_X5_15 : mPutF RX5 15 5 1 (tyX5 1) := ⟨RX5, TX5, 3, tyX5, rfl, by decide, iw_X5, mTBL_of (tb_2 _ (List.mem_of_getElem? (i := 16) rfl)) rfl, tyX5_ok, nmX5, rfl, rfl, rfl⟩
theorem pF_X5_19 : mPutF RX5 19 5 2 (tyX5 2) := ⟨RX5, TX5, 3, tyX5, rfl, by decide, iw_X5, mTBL_of (tb_2 _ (List.mem_of_getElem? (i := 17) rfl)) rfl, tyX5_ok, nmX5, rfl, rfl, rfl⟩
theorem kL_X6_3 : Cond.methodLink RX6 3 objectInit ∈ mTBL := mTBL_of (tb_1 _ (List.mem_of_getElem? (i := 152) rfl)) rfl
theorem pF_X6_9 : mPutF RX6 9 6 0 (tyX6 0) := ⟨RX6, TX6, 3, tyX6, rfl, by decide, iw_X6, mTBL_of (tb_1 _ (List.mem_of_getElem? (i := 153) rfl)) rfl, tyX6_ok, nmX6, rfl, rfl, rfl⟩
theorem kL_X7_3 : Cond.methodLink RX7 3 objectInit ∈ mTBL := mTBL_of (tb_1 _ (List.mem_of_getElem? (i := 58) rfl)) rfl
theorem kL_X8_3 : Cond.methodLink RX8 3 objectInit ∈ mTBL := mTBL_of (tb_2 _ (List.mem_of_getElem? (i := 30) rfl)) rfl
theorem pF_X8_9 : mPutF RX8 9 8 0 (tyX8 0) := ⟨RX8, TX8, 11, tyX8, rfl, by decide, iw_X8, mTBL_of (tb_2 _ (List.mem_of_getElem? (i := 31) rfl)) rfl, tyX8_ok, nmX8, rfl, rfl, rfl⟩
theorem pF_X8_15 : mPutF RX8 15 8 1 (tyX8 1) := ⟨RX8, TX8, 11, tyX8, rfl, by decide, iw_X8, mTBL_of (tb_2 _ (List.mem_of_getElem? (i := 32) rfl)) rfl, tyX8_ok, nmX8, rfl, rfl, rfl⟩
theorem pF_X8_19 : mPutF RX8 19 8 2 (tyX8 2) := ⟨RX8, TX8, 11, tyX8, rfl, by decide, iw_X8, mTBL_of (tb_2 _ (List.mem_of_getElem? (i := 33) rfl)) rfl, tyX8_ok, nmX8, rfl, rfl, rfl⟩
theorem pF_X8_23 : mPutF RX8 23 8 3 (tyX8 3) := ⟨RX8, TX8, 11, tyX8, rfl, by decide, iw_X8, mTBL_of (tb_2 _ (List.mem_of_getElem? (i := 34) rfl)) rfl, tyX8_ok, nmX8, rfl, rfl, rfl⟩
theorem pF_X8_26 : mPutF RX8 26 8 4 (tyX8 4) := ⟨RX8, TX8, 11, tyX8, rfl, by decide, iw_X8, mTBL_of (tb_2 _ (List.mem_of_getElem? (i := 35) rfl)) rfl, tyX8_ok, nmX8, rfl, rfl, rfl⟩
theorem pF_X8_29 : mPutF RX8 29 8 5 (tyX8 5) := ⟨RX8, TX8, 11, tyX8, rfl, by decide, iw_X8, mTBL_of (tb_2 _ (List.mem_of_getElem? (i := 36) rfl)) rfl, tyX8_ok, nmX8, rfl, rfl, rfl⟩
theorem kL_X9_3 : Cond.methodLink RX9 3 objectInit ∈ mTBL := mTBL_of (tb_2 _ (List.mem_of_getElem? (i := 74) rfl)) rfl
theorem pF_X9_9 : mPutF RX9 9 9 0 (tyX9 0) := ⟨RX9, TX9, 3, tyX9, rfl, by decide, iw_X9, mTBL_of (tb_2 _ (List.mem_of_getElem? (i := 75) rfl)) rfl, tyX9_ok, nmX9, rfl, rfl, rfl⟩
theorem kL_X10_3 : Cond.methodLink RX10 3 objectInit ∈ mTBL := mTBL_of (tb_1 _ (List.mem_of_getElem? (i := 43) rfl)) rfl
theorem pF_X10_9 : mPutF RX10 9 10 0 (tyX10 0) := ⟨RX10, TX10, 2, tyX10, rfl, by decide, iw_X10, mTBL_of (tb_1 _ (List.mem_of_getElem? (i := 44) rfl)) rfl, tyX10_ok, nmX10, rfl, rfl, rfl⟩
theorem kL_X11_1 : Cond.methodLink RX11 1 objectInit ∈ mTBL := mTBL_of (tb_1 _ (List.mem_of_getElem? (i := 35) rfl)) rfl
theorem kC_X11_7 : Cond.classLink RX11 7 RX10 ∈ mTBL := mTBL_of (tb_1 _ (List.mem_of_getElem? (i := 38) rfl)) rfl
theorem kL_X11_9 : Cond.methodLink RX11 9 yX10_init ∈ mTBL := mTBL_of (tb_1 _ (List.mem_of_getElem? (i := 40) rfl)) rfl
theorem pF_X11_10 : mPutF RX11 10 11 0 (tyX11 0) := ⟨RX11, TX11, 12, tyX11, rfl, by decide, iw_X11, mTBL_of (tb_2 _ (List.mem_of_getElem? (i := 87) rfl)) rfl, tyX11_ok, nmX11, rfl, rfl, rfl⟩
theorem kC_X11_16 : Cond.classLink RX11 16 RX7 ∈ mTBL := mTBL_of (tb_1 _ (List.mem_of_getElem? (i := 53) rfl)) rfl
theorem kL_X11_18 : Cond.methodLink RX11 18 yX7_init ∈ mTBL := mTBL_of (tb_1 _ (List.mem_of_getElem? (i := 55) rfl)) rfl
theorem pF_X11_19 : mPutF RX11 19 11 1 (tyX11 1) := ⟨RX11, TX11, 12, tyX11, rfl, by decide, iw_X11, mTBL_of (tb_2 _ (List.mem_of_getElem? (i := 88) rfl)) rfl, tyX11_ok, nmX11, rfl, rfl, rfl⟩
theorem kC_X11_23 : Cond.classLink RX11 23 RX0 ∈ mTBL := mTBL_of (tb_1 _ (List.mem_of_getElem? (i := 100) rfl)) rfl
theorem kL_X11_25 : Cond.methodLink RX11 25 yX0_init ∈ mTBL := mTBL_of (tb_1 _ (List.mem_of_getElem? (i := 102) rfl)) rfl
theorem pF_X11_26 : mPutF RX11 26 11 2 (tyX11 2) := ⟨RX11, TX11, 12, tyX11, rfl, by decide, iw_X11, mTBL_of (tb_2 _ (List.mem_of_getElem? (i := 89) rfl)) rfl, tyX11_ok, nmX11, rfl, rfl, rfl⟩
theorem pF_X11_30 : mPutF RX11 30 11 3 (tyX11 3) := ⟨RX11, TX11, 12, tyX11, rfl, by decide, iw_X11, mTBL_of (tb_2 _ (List.mem_of_getElem? (i := 90) rfl)) rfl, tyX11_ok, nmX11, rfl, rfl, rfl⟩
theorem kC_X11_33 : Cond.classLink RX11 33 RX3 ∈ mTBL := mTBL_of (tb_1 _ (List.mem_of_getElem? (i := 214) rfl)) rfl
theorem kL_X11_35 : Cond.methodLink RX11 35 yX3_init ∈ mTBL := mTBL_of (tb_1 _ (List.mem_of_getElem? (i := 216) rfl)) rfl
theorem pF_X11_36 : mPutF RX11 36 11 4 (tyX11 4) := ⟨RX11, TX11, 12, tyX11, rfl, by decide, iw_X11, mTBL_of (tb_2 _ (List.mem_of_getElem? (i := 91) rfl)) rfl, tyX11_ok, nmX11, rfl, rfl, rfl⟩
theorem kC_X11_40 : Cond.classLink RX11 40 RX1 ∈ mTBL := mTBL_of (tb_1 _ (List.mem_of_getElem? (i := 234) rfl)) rfl
theorem kL_X11_46 : Cond.methodLink RX11 46 yX1_init ∈ mTBL := mTBL_of (tb_1 _ (List.mem_of_getElem? (i := 236) rfl)) rfl
theorem pF_X11_49 : mPutF RX11 49 11 5 (tyX11 5) := ⟨RX11, TX11, 12, tyX11, rfl, by decide, iw_X11, mTBL_of (tb_2 _ (List.mem_of_getElem? (i := 92) rfl)) rfl, tyX11_ok, nmX11, rfl, rfl, rfl⟩
theorem kC_X11_53 : Cond.classLink RX11 53 RX5 ∈ mTBL := mTBL_of (tb_2 _ (List.mem_of_getElem? (i := 9) rfl)) rfl
theorem kL_X11_55 : Cond.methodLink RX11 55 yX5_init ∈ mTBL := mTBL_of (tb_2 _ (List.mem_of_getElem? (i := 11) rfl)) rfl
theorem pF_X11_56 : mPutF RX11 56 11 6 (tyX11 6) := ⟨RX11, TX11, 12, tyX11, rfl, by decide, iw_X11, mTBL_of (tb_2 _ (List.mem_of_getElem? (i := 93) rfl)) rfl, tyX11_ok, nmX11, rfl, rfl, rfl⟩
theorem kC_X11_60 : Cond.classLink RX11 60 RX8 ∈ mTBL := mTBL_of (tb_2 _ (List.mem_of_getElem? (i := 25) rfl)) rfl
theorem kL_X11_62 : Cond.methodLink RX11 62 yX8_init ∈ mTBL := mTBL_of (tb_2 _ (List.mem_of_getElem? (i := 27) rfl)) rfl
theorem pF_X11_63 : mPutF RX11 63 11 7 (tyX11 7) := ⟨RX11, TX11, 12, tyX11, rfl, by decide, iw_X11, mTBL_of (tb_2 _ (List.mem_of_getElem? (i := 94) rfl)) rfl, tyX11_ok, nmX11, rfl, rfl, rfl⟩
theorem kC_X11_67 : Cond.classLink RX11 67 RX9 ∈ mTBL := mTBL_of (tb_2 _ (List.mem_of_getElem? (i := 69) rfl)) rfl
theorem kL_X11_69 : Cond.methodLink RX11 69 yX9_init ∈ mTBL := mTBL_of (tb_2 _ (List.mem_of_getElem? (i := 71) rfl)) rfl
theorem pF_X11_70 : mPutF RX11 70 11 8 (tyX11 8) := ⟨RX11, TX11, 12, tyX11, rfl, by decide, iw_X11, mTBL_of (tb_2 _ (List.mem_of_getElem? (i := 95) rfl)) rfl, tyX11_ok, nmX11, rfl, rfl, rfl⟩
theorem kL_X12_1 : Cond.methodLink RX12 1 objectInit ∈ mTBL := mTBL_of (tb_6 _ (List.mem_of_getElem? (i := 99) rfl)) rfl
theorem pF_X12_7 : mPutF RX12 7 12 0 (tyX12 0) := ⟨RX12, TX12, 36, tyX12, rfl, by decide, iw_X12, mTBL_of (tb_6 _ (List.mem_of_getElem? (i := 100) rfl)) rfl, tyX12_ok, nmX12, rfl, rfl, rfl⟩
theorem pF_X12_13 : mPutF RX12 13 12 1 (tyX12 1) := ⟨RX12, TX12, 36, tyX12, rfl, by decide, iw_X12, mTBL_of (tb_6 _ (List.mem_of_getElem? (i := 101) rfl)) rfl, tyX12_ok, nmX12, rfl, rfl, rfl⟩
theorem pF_X12_16 : mPutF RX12 16 12 2 (tyX12 2) := ⟨RX12, TX12, 36, tyX12, rfl, by decide, iw_X12, mTBL_of (tb_6 _ (List.mem_of_getElem? (i := 102) rfl)) rfl, tyX12_ok, nmX12, rfl, rfl, rfl⟩
theorem pF_X12_19 : mPutF RX12 19 12 4 (tyX12 4) := ⟨RX12, TX12, 36, tyX12, rfl, by decide, iw_X12, mTBL_of (tb_6 _ (List.mem_of_getElem? (i := 104) rfl)) rfl, tyX12_ok, nmX12, rfl, rfl, rfl⟩
theorem pF_X12_26 : mPutF RX12 26 12 10 (tyX12 10) := ⟨RX12, TX12, 36, tyX12, rfl, by decide, iw_X12, mTBL_of (tb_6 _ (List.mem_of_getElem? (i := 110) rfl)) rfl, tyX12_ok, nmX12, rfl, rfl, rfl⟩
theorem pF_X12_29 : mPutF RX12 29 12 15 (tyX12 15) := ⟨RX12, TX12, 36, tyX12, rfl, by decide, iw_X12, mTBL_of (tb_6 _ (List.mem_of_getElem? (i := 114) rfl)) rfl, tyX12_ok, nmX12, rfl, rfl, rfl⟩
theorem pF_X12_32 : mPutF RX12 32 12 17 (tyX12 17) := ⟨RX12, TX12, 36, tyX12, rfl, by decide, iw_X12, mTBL_of (tb_6 _ (List.mem_of_getElem? (i := 116) rfl)) rfl, tyX12_ok, nmX12, rfl, rfl, rfl⟩
theorem pF_X12_35 : mPutF RX12 35 12 18 (tyX12 18) := ⟨RX12, TX12, 36, tyX12, rfl, by decide, iw_X12, mTBL_of (tb_6 _ (List.mem_of_getElem? (i := 117) rfl)) rfl, tyX12_ok, nmX12, rfl, rfl, rfl⟩
theorem pF_X12_38 : mPutF RX12 38 12 19 (tyX12 19) := ⟨RX12, TX12, 36, tyX12, rfl, by decide, iw_X12, mTBL_of (tb_6 _ (List.mem_of_getElem? (i := 118) rfl)) rfl, tyX12_ok, nmX12, rfl, rfl, rfl⟩
theorem pF_X12_42 : mPutF RX12 42 12 20 (tyX12 20) := ⟨RX12, TX12, 36, tyX12, rfl, by decide, iw_X12, mTBL_of (tb_6 _ (List.mem_of_getElem? (i := 119) rfl)) rfl, tyX12_ok, nmX12, rfl, rfl, rfl⟩
theorem pF_X12_45 : mPutF RX12 45 12 22 (tyX12 22) := ⟨RX12, TX12, 36, tyX12, rfl, by decide, iw_X12, mTBL_of (tb_6 _ (List.mem_of_getElem? (i := 121) rfl)) rfl, tyX12_ok, nmX12, rfl, rfl, rfl⟩
theorem pF_X12_48 : mPutF RX12 48 12 23 (tyX12 23) := ⟨RX12, TX12, 36, tyX12, rfl, by decide, iw_X12, mTBL_of (tb_6 _ (List.mem_of_getElem? (i := 122) rfl)) rfl, tyX12_ok, nmX12, rfl, rfl, rfl⟩
theorem pF_X12_51 : mPutF RX12 51 12 25 (tyX12 25) := ⟨RX12, TX12, 36, tyX12, rfl, by decide, iw_X12, mTBL_of (tb_6 _ (List.mem_of_getElem? (i := 124) rfl)) rfl, tyX12_ok, nmX12, rfl, rfl, rfl⟩
theorem pF_X12_54 : mPutF RX12 54 12 27 (tyX12 27) := ⟨RX12, TX12, 36, tyX12, rfl, by decide, iw_X12, mTBL_of (tb_6 _ (List.mem_of_getElem? (i := 126) rfl)) rfl, tyX12_ok, nmX12, rfl, rfl, rfl⟩
theorem pF_X12_58 : mPutF RX12 58 12 28 (tyX12 28) := ⟨RX12, TX12, 36, tyX12, rfl, by decide, iw_X12, mTBL_of (tb_6 _ (List.mem_of_getElem? (i := 127) rfl)) rfl, tyX12_ok, nmX12, rfl, rfl, rfl⟩
theorem pF_X12_61 : mPutF RX12 61 12 29 (tyX12 29) := ⟨RX12, TX12, 36, tyX12, rfl, by decide, iw_X12, mTBL_of (tb_6 _ (List.mem_of_getElem? (i := 128) rfl)) rfl, tyX12_ok, nmX12, rfl, rfl, rfl⟩
theorem pF_X12_64 : mPutF RX12 64 12 30 (tyX12 30) := ⟨RX12, TX12, 36, tyX12, rfl, by decide, iw_X12, mTBL_of (tb_6 _ (List.mem_of_getElem? (i := 129) rfl)) rfl, tyX12_ok, nmX12, rfl, rfl, rfl⟩
theorem pF_X12_67 : mPutF RX12 67 12 32 (tyX12 32) := ⟨RX12, TX12, 36, tyX12, rfl, by decide, iw_X12, mTBL_of (tb_6 _ (List.mem_of_getElem? (i := 131) rfl)) rfl, tyX12_ok, nmX12, rfl, rfl, rfl⟩
theorem kC_L_8 : Cond.classLink RL 8 RX11 ∈ mTBL := mTBL_of (tb_1 _ (List.mem_of_getElem? (i := 30) rfl)) rfl
theorem kL_L_103 : Cond.methodLink RL 103 yX11_init ∈ mTBL := mTBL_of (tb_1 _ (List.mem_of_getElem? (i := 32) rfl)) rfl
theorem kC_L_104 : Cond.classLink RL 104 RX12 ∈ mTBL := mTBL_of (tb_6 _ (List.mem_of_getElem? (i := 94) rfl)) rfl
theorem kL_L_106 : Cond.methodLink RL 106 yX12_init ∈ mTBL := mTBL_of (tb_6 _ (List.mem_of_getElem? (i := 96) rfl)) rfl
