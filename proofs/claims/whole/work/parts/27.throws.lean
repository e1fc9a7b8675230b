/-! throws: where the class throws, and contracts that answer or throw -/
def rx7 : ByteArray := ⟨#[0x2a, 0x2b, 0xb7, 0x00, 0x07, 0xb1]⟩
def rx13 : ByteArray := ⟨#[0x2a, 0x2b, 0xb7, 0x00, 0x0d, 0xb1]⟩
theorem rd7 : decode rx7 0 = .ok (.aload_n 0, 1) ∧ decode rx7 1 = .ok (.aload_n 1, 1) ∧ decode rx7 2 = .ok (.invokespecial 7, 3) ∧ decode rx7 5 = .ok (.return_, 1) := ⟨by decide +kernel, by decide +kernel, by decide +kernel, by decide +kernel⟩
theorem rd13 : decode rx13 0 = .ok (.aload_n 0, 1) ∧ decode rx13 1 = .ok (.aload_n 1, 1) ∧ decode rx13 2 = .ok (.invokespecial 13, 3) ∧ decode rx13 5 = .ok (.return_, 1) := ⟨by decide +kernel, by decide +kernel, by decide +kernel, by decide +kernel⟩
def xIAE : String := "java/lang/IllegalArgumentException"
theorem xg_IAE : ∀ w ∈ (vx_atX RX11 88 "java/lang/IllegalArgumentException" 7 rx7 ["java/lang/RuntimeException", "java/lang/Exception"]).filter goodWord, w ∈ lw_tbl := by decide +kernel
theorem xb_IAE : ∀ w ∈ (vx_atX RX11 88 "java/lang/IllegalArgumentException" 7 rx7 ["java/lang/RuntimeException", "java/lang/Exception"]).filter (fun w => !goodWord w), (∃ q ∈ mDecs, w = .declares q) ∨ (∃ q ∈ mCas, w = .castable q.1 q.2) := by decide +kernel
theorem xo_IAE : ∀ w ∈ vx_atX RX11 88 "java/lang/IllegalArgumentException" 7 rx7 ["java/lang/RuntimeException", "java/lang/Exception"], vx_ot w = true := by decide +kernel
theorem xf_IAE : Bundle.fit "java/lang/IllegalArgumentException" = true := by decide +kernel
theorem xi_IAE : Cond.initialized "java/lang/IllegalArgumentException" ∈ mTBL := mTBL_of (tb_1 _ (List.mem_of_getElem? (i := 17) rfl)) rfl
def xISE : String := "java/lang/IllegalStateException"
theorem xg_ISE : ∀ w ∈ (vx_atX RX11 98 "java/lang/IllegalStateException" 7 rx7 ["java/lang/RuntimeException", "java/lang/Exception"]).filter goodWord, w ∈ lw_tbl := by decide +kernel
theorem xb_ISE : ∀ w ∈ (vx_atX RX11 98 "java/lang/IllegalStateException" 7 rx7 ["java/lang/RuntimeException", "java/lang/Exception"]).filter (fun w => !goodWord w), (∃ q ∈ mDecs, w = .declares q) ∨ (∃ q ∈ mCas, w = .castable q.1 q.2) := by decide +kernel
theorem xo_ISE : ∀ w ∈ vx_atX RX11 98 "java/lang/IllegalStateException" 7 rx7 ["java/lang/RuntimeException", "java/lang/Exception"], vx_ot w = true := by decide +kernel
theorem xf_ISE : Bundle.fit "java/lang/IllegalStateException" = true := by decide +kernel
theorem xi_ISE : Cond.initialized "java/lang/IllegalStateException" ∈ mTBL := mTBL_of (tb_1 _ (List.mem_of_getElem? (i := 18) rfl)) rfl
def xAE : String := "java/lang/ArithmeticException"
theorem xg_AE : ∀ w ∈ (vx_atX RX11 119 "java/lang/ArithmeticException" 7 rx7 ["java/lang/RuntimeException", "java/lang/Exception"]).filter goodWord, w ∈ lw_tbl := by decide +kernel
theorem xb_AE : ∀ w ∈ (vx_atX RX11 119 "java/lang/ArithmeticException" 7 rx7 ["java/lang/RuntimeException", "java/lang/Exception"]).filter (fun w => !goodWord w), (∃ q ∈ mDecs, w = .declares q) ∨ (∃ q ∈ mCas, w = .castable q.1 q.2) := by decide +kernel
theorem xo_AE : ∀ w ∈ vx_atX RX11 119 "java/lang/ArithmeticException" 7 rx7 ["java/lang/RuntimeException", "java/lang/Exception"], vx_ot w = true := by decide +kernel
theorem xf_AE : Bundle.fit "java/lang/ArithmeticException" = true := by decide +kernel
theorem xi_AE : Cond.initialized "java/lang/ArithmeticException" ∈ mTBL := mTBL_of (tb_1 _ (List.mem_of_getElem? (i := 25) rfl)) rfl
def xIOOBE : String := "java/lang/IndexOutOfBoundsException"
theorem xg_IOOBE : ∀ w ∈ (vx_atX RX11 150 "java/lang/IndexOutOfBoundsException" 7 rx7 ["java/lang/RuntimeException", "java/lang/Exception"]).filter goodWord, w ∈ lw_tbl := by decide +kernel
theorem xb_IOOBE : ∀ w ∈ (vx_atX RX11 150 "java/lang/IndexOutOfBoundsException" 7 rx7 ["java/lang/RuntimeException", "java/lang/Exception"]).filter (fun w => !goodWord w), (∃ q ∈ mDecs, w = .declares q) ∨ (∃ q ∈ mCas, w = .castable q.1 q.2) := by decide +kernel
theorem xo_IOOBE : ∀ w ∈ vx_atX RX11 150 "java/lang/IndexOutOfBoundsException" 7 rx7 ["java/lang/RuntimeException", "java/lang/Exception"], vx_ot w = true := by decide +kernel
theorem xf_IOOBE : Bundle.fit "java/lang/IndexOutOfBoundsException" = true := by decide +kernel
theorem xi_IOOBE : Cond.initialized "java/lang/IndexOutOfBoundsException" ∈ mTBL := mTBL_of (tb_1 _ (List.mem_of_getElem? (i := 27) rfl)) rfl
def xNSEE : String := "java/util/NoSuchElementException"
theorem xg_NSEE : ∀ w ∈ (vx_atX RX11 241 "java/util/NoSuchElementException" 13 rx13 ["java/lang/RuntimeException", "java/lang/Exception"]).filter goodWord, w ∈ lw_tbl := by decide +kernel
theorem xb_NSEE : ∀ w ∈ (vx_atX RX11 241 "java/util/NoSuchElementException" 13 rx13 ["java/lang/RuntimeException", "java/lang/Exception"]).filter (fun w => !goodWord w), (∃ q ∈ mDecs, w = .declares q) ∨ (∃ q ∈ mCas, w = .castable q.1 q.2) := by decide +kernel
theorem xo_NSEE : ∀ w ∈ vx_atX RX11 241 "java/util/NoSuchElementException" 13 rx13 ["java/lang/RuntimeException", "java/lang/Exception"], vx_ot w = true := by decide +kernel
theorem xf_NSEE : Bundle.fit "java/util/NoSuchElementException" = true := by decide +kernel
theorem xi_NSEE : Cond.initialized "java/util/NoSuchElementException" ∈ mTBL := mTBL_of (tb_1 _ (List.mem_of_getElem? (i := 28) rfl)) rfl
def xUOE : String := "java/lang/UnsupportedOperationException"
theorem xg_UOE : ∀ w ∈ (vx_atX RX11 292 "java/lang/UnsupportedOperationException" 7 rx7 ["java/lang/RuntimeException", "java/lang/Exception"]).filter goodWord, w ∈ lw_tbl := by decide +kernel
theorem xb_UOE : ∀ w ∈ (vx_atX RX11 292 "java/lang/UnsupportedOperationException" 7 rx7 ["java/lang/RuntimeException", "java/lang/Exception"]).filter (fun w => !goodWord w), (∃ q ∈ mDecs, w = .declares q) ∨ (∃ q ∈ mCas, w = .castable q.1 q.2) := by decide +kernel
theorem xo_UOE : ∀ w ∈ vx_atX RX11 292 "java/lang/UnsupportedOperationException" 7 rx7 ["java/lang/RuntimeException", "java/lang/Exception"], vx_ot w = true := by decide +kernel
theorem xf_UOE : Bundle.fit "java/lang/UnsupportedOperationException" = true := by decide +kernel
theorem xi_UOE : Cond.initialized "java/lang/UnsupportedOperationException" ∈ mTBL := mTBL_of (tb_1 _ (List.mem_of_getElem? (i := 29) rfl)) rfl
theorem xn_fit : ∀ n ∈ (["java/lang/RuntimeException", "java/lang/Exception"] : List String), Bundle.fit n = true := by decide +kernel
theorem d_X11_feed_12 : decode (mB M_X11_feed) 12 = .ok (.new 84, 3) := by decide +kernel
theorem d_X11_feed_15 : decode (mB M_X11_feed) 15 = .ok (.dup, 1) := by decide +kernel
theorem d_X11_feed_16 : decode (mB M_X11_feed) 16 = .ok (.ldc 86, 2) := by decide +kernel
theorem d_X11_feed_18 : decode (mB M_X11_feed) 18 = .ok (.invokespecial 88, 3) := by decide +kernel
theorem d_X11_feed_21 : decode (mB M_X11_feed) 21 = .ok (.athrow, 1) := by decide +kernel
theorem th_X11_feed_12 : mThr M_X11_feed 12 xIAE := ⟨84, 86, 88, _, ["java/lang/RuntimeException", "java/lang/Exception"], 7, rx7, rd7, Or.inl ⟨d_X11_feed_12, d_X11_feed_15, d_X11_feed_16, d_X11_feed_18, d_X11_feed_21⟩, xf_IAE, xn_fit, mTBL_of (tb_2 _ (List.mem_of_getElem? (i := 133) rfl)) rfl, xi_IAE, List.mem_of_getElem? (i := 0) rfl, fun w h => mTBL_of (xg_IAE w h) (List.mem_filter.mp h).2, xb_IAE, fun w h => by
  rcases List.mem_cons.mp h with rfl | h
  · rfl
  rcases List.mem_cons.mp h with rfl | h
  · rfl
  exact xo_IAE w h, by decide, by decide⟩
theorem d_X11_feed_34 : decode (mB M_X11_feed) 34 = .ok (.new 94, 3) := by decide +kernel
theorem d_X11_feed_37 : decode (mB M_X11_feed) 37 = .ok (.dup, 1) := by decide +kernel
theorem d_X11_feed_38 : decode (mB M_X11_feed) 38 = .ok (.ldc 96, 2) := by decide +kernel
theorem d_X11_feed_40 : decode (mB M_X11_feed) 40 = .ok (.invokespecial 98, 3) := by decide +kernel
theorem d_X11_feed_43 : decode (mB M_X11_feed) 43 = .ok (.athrow, 1) := by decide +kernel
theorem th_X11_feed_34 : mThr M_X11_feed 34 xISE := ⟨94, 96, 98, _, ["java/lang/RuntimeException", "java/lang/Exception"], 7, rx7, rd7, Or.inl ⟨d_X11_feed_34, d_X11_feed_37, d_X11_feed_38, d_X11_feed_40, d_X11_feed_43⟩, xf_ISE, xn_fit, mTBL_of (tb_2 _ (List.mem_of_getElem? (i := 204) rfl)) rfl, xi_ISE, List.mem_of_getElem? (i := 1) rfl, fun w h => mTBL_of (xg_ISE w h) (List.mem_filter.mp h).2, xb_ISE, fun w h => by
  rcases List.mem_cons.mp h with rfl | h
  · rfl
  rcases List.mem_cons.mp h with rfl | h
  · rfl
  exact xo_ISE w h, by decide, by decide⟩
theorem d_X11_readRoom_41 : decode (mB M_X11_readRoom) 41 = .ok (.new 115, 3) := by decide +kernel
theorem d_X11_readRoom_44 : decode (mB M_X11_readRoom) 44 = .ok (.dup, 1) := by decide +kernel
theorem d_X11_readRoom_45 : decode (mB M_X11_readRoom) 45 = .ok (.ldc 117, 2) := by decide +kernel
theorem d_X11_readRoom_47 : decode (mB M_X11_readRoom) 47 = .ok (.invokespecial 119, 3) := by decide +kernel
theorem d_X11_readRoom_50 : decode (mB M_X11_readRoom) 50 = .ok (.athrow, 1) := by decide +kernel
theorem th_X11_readRoom_41 : mThr M_X11_readRoom 41 xAE := ⟨115, 117, 119, _, ["java/lang/RuntimeException", "java/lang/Exception"], 7, rx7, rd7, Or.inl ⟨d_X11_readRoom_41, d_X11_readRoom_44, d_X11_readRoom_45, d_X11_readRoom_47, d_X11_readRoom_50⟩, xf_AE, xn_fit, mTBL_of (tb_3 _ (List.mem_of_getElem? (i := 109) rfl)) rfl, xi_AE, List.mem_of_getElem? (i := 3) rfl, fun w h => mTBL_of (xg_AE w h) (List.mem_filter.mp h).2, xb_AE, fun w h => by
  rcases List.mem_cons.mp h with rfl | h
  · rfl
  rcases List.mem_cons.mp h with rfl | h
  · rfl
  exact xo_AE w h, by decide, by decide⟩
theorem d_X11_cell_19 : decode (mB M_X11_cell) 19 = .ok (.new 146, 3) := by decide +kernel
theorem d_X11_cell_22 : decode (mB M_X11_cell) 22 = .ok (.dup, 1) := by decide +kernel
theorem d_X11_cell_23 : decode (mB M_X11_cell) 23 = .ok (.ldc 148, 2) := by decide +kernel
theorem d_X11_cell_25 : decode (mB M_X11_cell) 25 = .ok (.invokespecial 150, 3) := by decide +kernel
theorem d_X11_cell_28 : decode (mB M_X11_cell) 28 = .ok (.athrow, 1) := by decide +kernel
theorem th_X11_cell_19 : mThr M_X11_cell 19 xIOOBE := ⟨146, 148, 150, _, ["java/lang/RuntimeException", "java/lang/Exception"], 7, rx7, rd7, Or.inl ⟨d_X11_cell_19, d_X11_cell_22, d_X11_cell_23, d_X11_cell_25, d_X11_cell_28⟩, xf_IOOBE, xn_fit, mTBL_of (tb_3 _ (List.mem_of_getElem? (i := 185) rfl)) rfl, xi_IOOBE, List.mem_of_getElem? (i := 5) rfl, fun w h => mTBL_of (xg_IOOBE w h) (List.mem_filter.mp h).2, xb_IOOBE, fun w h => by
  rcases List.mem_cons.mp h with rfl | h
  · rfl
  rcases List.mem_cons.mp h with rfl | h
  · rfl
  exact xo_IOOBE w h, by decide, by decide⟩
theorem d_X11_requireRoom_13 : decode (mB M_X11_requireRoom) 13 = .ok (.new 94, 3) := by decide +kernel
theorem d_X11_requireRoom_16 : decode (mB M_X11_requireRoom) 16 = .ok (.dup, 1) := by decide +kernel
theorem d_X11_requireRoom_17 : decode (mB M_X11_requireRoom) 17 = .ok (.ldc_w 379, 3) := by decide +kernel
theorem d_X11_requireRoom_20 : decode (mB M_X11_requireRoom) 20 = .ok (.invokespecial 98, 3) := by decide +kernel
theorem d_X11_requireRoom_23 : decode (mB M_X11_requireRoom) 23 = .ok (.athrow, 1) := by decide +kernel
theorem th_X11_requireRoom_13 : mThr M_X11_requireRoom 13 xISE := ⟨94, 379, 98, _, ["java/lang/RuntimeException", "java/lang/Exception"], 7, rx7, rd7, Or.inr ⟨d_X11_requireRoom_13, d_X11_requireRoom_16, d_X11_requireRoom_17, d_X11_requireRoom_20, d_X11_requireRoom_23⟩, xf_ISE, xn_fit, mTBL_of (tb_2 _ (List.mem_of_getElem? (i := 204) rfl)) rfl, xi_ISE, List.mem_of_getElem? (i := 4) rfl, fun w h => mTBL_of (xg_ISE w h) (List.mem_filter.mp h).2, xb_ISE, fun w h => by
  rcases List.mem_cons.mp h with rfl | h
  · rfl
  rcases List.mem_cons.mp h with rfl | h
  · rfl
  exact xo_ISE w h, by decide, by decide⟩
theorem d_X11_cells_127 : decode (mB M_X11_cells) 127 = .ok (.new 84, 3) := by decide +kernel
theorem d_X11_cells_130 : decode (mB M_X11_cells) 130 = .ok (.dup, 1) := by decide +kernel
theorem d_X11_cells_131 : decode (mB M_X11_cells) 131 = .ok (.ldc 187, 2) := by decide +kernel
theorem d_X11_cells_133 : decode (mB M_X11_cells) 133 = .ok (.invokespecial 88, 3) := by decide +kernel
theorem d_X11_cells_136 : decode (mB M_X11_cells) 136 = .ok (.athrow, 1) := by decide +kernel
theorem th_X11_cells_127 : mThr M_X11_cells 127 xIAE := ⟨84, 187, 88, _, ["java/lang/RuntimeException", "java/lang/Exception"], 7, rx7, rd7, Or.inl ⟨d_X11_cells_127, d_X11_cells_130, d_X11_cells_131, d_X11_cells_133, d_X11_cells_136⟩, xf_IAE, xn_fit, mTBL_of (tb_2 _ (List.mem_of_getElem? (i := 133) rfl)) rfl, xi_IAE, List.mem_of_getElem? (i := 6) rfl, fun w h => mTBL_of (xg_IAE w h) (List.mem_filter.mp h).2, xb_IAE, fun w h => by
  rcases List.mem_cons.mp h with rfl | h
  · rfl
  rcases List.mem_cons.mp h with rfl | h
  · rfl
  exact xo_IAE w h, by decide, by decide⟩
theorem d_X11_count_196 : decode (mB M_X11_count) 196 = .ok (.new 84, 3) := by decide +kernel
theorem d_X11_count_199 : decode (mB M_X11_count) 199 = .ok (.dup, 1) := by decide +kernel
theorem d_X11_count_200 : decode (mB M_X11_count) 200 = .ok (.ldc 219, 2) := by decide +kernel
theorem d_X11_count_202 : decode (mB M_X11_count) 202 = .ok (.invokespecial 88, 3) := by decide +kernel
theorem d_X11_count_205 : decode (mB M_X11_count) 205 = .ok (.athrow, 1) := by decide +kernel
theorem th_X11_count_196 : mThr M_X11_count 196 xIAE := ⟨84, 219, 88, _, ["java/lang/RuntimeException", "java/lang/Exception"], 7, rx7, rd7, Or.inl ⟨d_X11_count_196, d_X11_count_199, d_X11_count_200, d_X11_count_202, d_X11_count_205⟩, xf_IAE, xn_fit, mTBL_of (tb_2 _ (List.mem_of_getElem? (i := 133) rfl)) rfl, xi_IAE, List.mem_of_getElem? (i := 7) rfl, fun w h => mTBL_of (xg_IAE w h) (List.mem_filter.mp h).2, xb_IAE, fun w h => by
  rcases List.mem_cons.mp h with rfl | h
  · rfl
  rcases List.mem_cons.mp h with rfl | h
  · rfl
  exact xo_IAE w h, by decide, by decide⟩
theorem d_X11_distance_23 : decode (mB M_X11_distance) 23 = .ok (.new 146, 3) := by decide +kernel
theorem d_X11_distance_26 : decode (mB M_X11_distance) 26 = .ok (.dup, 1) := by decide +kernel
theorem d_X11_distance_27 : decode (mB M_X11_distance) 27 = .ok (.ldc 225, 2) := by decide +kernel
theorem d_X11_distance_29 : decode (mB M_X11_distance) 29 = .ok (.invokespecial 150, 3) := by decide +kernel
theorem d_X11_distance_32 : decode (mB M_X11_distance) 32 = .ok (.athrow, 1) := by decide +kernel
theorem th_X11_distance_23 : mThr M_X11_distance 23 xIOOBE := ⟨146, 225, 150, _, ["java/lang/RuntimeException", "java/lang/Exception"], 7, rx7, rd7, Or.inl ⟨d_X11_distance_23, d_X11_distance_26, d_X11_distance_27, d_X11_distance_29, d_X11_distance_32⟩, xf_IOOBE, xn_fit, mTBL_of (tb_3 _ (List.mem_of_getElem? (i := 185) rfl)) rfl, xi_IOOBE, List.mem_of_getElem? (i := 8) rfl, fun w h => mTBL_of (xg_IOOBE w h) (List.mem_filter.mp h).2, xb_IOOBE, fun w h => by
  rcases List.mem_cons.mp h with rfl | h
  · rfl
  rcases List.mem_cons.mp h with rfl | h
  · rfl
  exact xo_IOOBE w h, by decide, by decide⟩
theorem d_X11_distance_49 : decode (mB M_X11_distance) 49 = .ok (.new 146, 3) := by decide +kernel
theorem d_X11_distance_52 : decode (mB M_X11_distance) 52 = .ok (.dup, 1) := by decide +kernel
theorem d_X11_distance_53 : decode (mB M_X11_distance) 53 = .ok (.ldc 227, 2) := by decide +kernel
theorem d_X11_distance_55 : decode (mB M_X11_distance) 55 = .ok (.invokespecial 150, 3) := by decide +kernel
theorem d_X11_distance_58 : decode (mB M_X11_distance) 58 = .ok (.athrow, 1) := by decide +kernel
theorem th_X11_distance_49 : mThr M_X11_distance 49 xIOOBE := ⟨146, 227, 150, _, ["java/lang/RuntimeException", "java/lang/Exception"], 7, rx7, rd7, Or.inl ⟨d_X11_distance_49, d_X11_distance_52, d_X11_distance_53, d_X11_distance_55, d_X11_distance_58⟩, xf_IOOBE, xn_fit, mTBL_of (tb_3 _ (List.mem_of_getElem? (i := 185) rfl)) rfl, xi_IOOBE, List.mem_of_getElem? (i := 9) rfl, fun w h => mTBL_of (xg_IOOBE w h) (List.mem_filter.mp h).2, xb_IOOBE, fun w h => by
  rcases List.mem_cons.mp h with rfl | h
  · rfl
  rcases List.mem_cons.mp h with rfl | h
  · rfl
  exact xo_IOOBE w h, by decide, by decide⟩
theorem d_X11_distance_91 : decode (mB M_X11_distance) 91 = .ok (.new 237, 3) := by decide +kernel
theorem d_X11_distance_94 : decode (mB M_X11_distance) 94 = .ok (.dup, 1) := by decide +kernel
theorem d_X11_distance_95 : decode (mB M_X11_distance) 95 = .ok (.ldc 239, 2) := by decide +kernel
theorem d_X11_distance_97 : decode (mB M_X11_distance) 97 = .ok (.invokespecial 241, 3) := by decide +kernel
theorem d_X11_distance_100 : decode (mB M_X11_distance) 100 = .ok (.athrow, 1) := by decide +kernel
theorem th_X11_distance_91 : mThr M_X11_distance 91 xNSEE := ⟨237, 239, 241, _, ["java/lang/RuntimeException", "java/lang/Exception"], 13, rx13, rd13, Or.inl ⟨d_X11_distance_91, d_X11_distance_94, d_X11_distance_95, d_X11_distance_97, d_X11_distance_100⟩, xf_NSEE, xn_fit, mTBL_of (tb_4 _ (List.mem_of_getElem? (i := 70) rfl)) rfl, xi_NSEE, List.mem_of_getElem? (i := 10) rfl, fun w h => mTBL_of (xg_NSEE w h) (List.mem_filter.mp h).2, xb_NSEE, fun w h => by
  rcases List.mem_cons.mp h with rfl | h
  · rfl
  rcases List.mem_cons.mp h with rfl | h
  · rfl
  exact xo_NSEE w h, by decide, by decide⟩
theorem d_X11_bound_27 : decode (mB M_X11_bound) 27 = .ok (.new 237, 3) := by decide +kernel
theorem d_X11_bound_30 : decode (mB M_X11_bound) 30 = .ok (.dup, 1) := by decide +kernel
theorem d_X11_bound_31 : decode (mB M_X11_bound) 31 = .ok (.ldc 245, 2) := by decide +kernel
theorem d_X11_bound_33 : decode (mB M_X11_bound) 33 = .ok (.invokespecial 241, 3) := by decide +kernel
theorem d_X11_bound_36 : decode (mB M_X11_bound) 36 = .ok (.athrow, 1) := by decide +kernel
theorem th_X11_bound_27 : mThr M_X11_bound 27 xNSEE := ⟨237, 245, 241, _, ["java/lang/RuntimeException", "java/lang/Exception"], 13, rx13, rd13, Or.inl ⟨d_X11_bound_27, d_X11_bound_30, d_X11_bound_31, d_X11_bound_33, d_X11_bound_36⟩, xf_NSEE, xn_fit, mTBL_of (tb_4 _ (List.mem_of_getElem? (i := 70) rfl)) rfl, xi_NSEE, List.mem_of_getElem? (i := 11) rfl, fun w h => mTBL_of (xg_NSEE w h) (List.mem_filter.mp h).2, xb_NSEE, fun w h => by
  rcases List.mem_cons.mp h with rfl | h
  · rfl
  rcases List.mem_cons.mp h with rfl | h
  · rfl
  exact xo_NSEE w h, by decide, by decide⟩
theorem d_X11_stuck_40 : decode (mB M_X11_stuck) 40 = .ok (.new 94, 3) := by decide +kernel
theorem d_X11_stuck_43 : decode (mB M_X11_stuck) 43 = .ok (.dup, 1) := by decide +kernel
theorem d_X11_stuck_44 : decode (mB M_X11_stuck) 44 = .ok (.ldc 250, 2) := by decide +kernel
theorem d_X11_stuck_46 : decode (mB M_X11_stuck) 46 = .ok (.invokespecial 98, 3) := by decide +kernel
theorem d_X11_stuck_49 : decode (mB M_X11_stuck) 49 = .ok (.athrow, 1) := by decide +kernel
theorem th_X11_stuck_40 : mThr M_X11_stuck 40 xISE := ⟨94, 250, 98, _, ["java/lang/RuntimeException", "java/lang/Exception"], 7, rx7, rd7, Or.inl ⟨d_X11_stuck_40, d_X11_stuck_43, d_X11_stuck_44, d_X11_stuck_46, d_X11_stuck_49⟩, xf_ISE, xn_fit, mTBL_of (tb_2 _ (List.mem_of_getElem? (i := 204) rfl)) rfl, xi_ISE, List.mem_of_getElem? (i := 12) rfl, fun w h => mTBL_of (xg_ISE w h) (List.mem_filter.mp h).2, xb_ISE, fun w h => by
  rcases List.mem_cons.mp h with rfl | h
  · rfl
  rcases List.mem_cons.mp h with rfl | h
  · rfl
  exact xo_ISE w h, by decide, by decide⟩
theorem d_X11_goalRoom_33 : decode (mB M_X11_goalRoom) 33 = .ok (.new 237, 3) := by decide +kernel
theorem d_X11_goalRoom_36 : decode (mB M_X11_goalRoom) 36 = .ok (.dup, 1) := by decide +kernel
theorem d_X11_goalRoom_37 : decode (mB M_X11_goalRoom) 37 = .ok (.ldc_w 259, 3) := by decide +kernel
theorem d_X11_goalRoom_40 : decode (mB M_X11_goalRoom) 40 = .ok (.invokespecial 241, 3) := by decide +kernel
theorem d_X11_goalRoom_43 : decode (mB M_X11_goalRoom) 43 = .ok (.athrow, 1) := by decide +kernel
theorem th_X11_goalRoom_33 : mThr M_X11_goalRoom 33 xNSEE := ⟨237, 259, 241, _, ["java/lang/RuntimeException", "java/lang/Exception"], 13, rx13, rd13, Or.inr ⟨d_X11_goalRoom_33, d_X11_goalRoom_36, d_X11_goalRoom_37, d_X11_goalRoom_40, d_X11_goalRoom_43⟩, xf_NSEE, xn_fit, mTBL_of (tb_4 _ (List.mem_of_getElem? (i := 70) rfl)) rfl, xi_NSEE, List.mem_of_getElem? (i := 13) rfl, fun w h => mTBL_of (xg_NSEE w h) (List.mem_filter.mp h).2, xb_NSEE, fun w h => by
  rcases List.mem_cons.mp h with rfl | h
  · rfl
  rcases List.mem_cons.mp h with rfl | h
  · rfl
  exact xo_NSEE w h, by decide, by decide⟩
theorem d_X11_step_21 : decode (mB M_X11_step) 21 = .ok (.new 94, 3) := by decide +kernel
theorem d_X11_step_24 : decode (mB M_X11_step) 24 = .ok (.dup, 1) := by decide +kernel
theorem d_X11_step_25 : decode (mB M_X11_step) 25 = .ok (.ldc_w 274, 3) := by decide +kernel
theorem d_X11_step_28 : decode (mB M_X11_step) 28 = .ok (.invokespecial 98, 3) := by decide +kernel
theorem d_X11_step_31 : decode (mB M_X11_step) 31 = .ok (.athrow, 1) := by decide +kernel
theorem th_X11_step_21 : mThr M_X11_step 21 xISE := ⟨94, 274, 98, _, ["java/lang/RuntimeException", "java/lang/Exception"], 7, rx7, rd7, Or.inr ⟨d_X11_step_21, d_X11_step_24, d_X11_step_25, d_X11_step_28, d_X11_step_31⟩, xf_ISE, xn_fit, mTBL_of (tb_2 _ (List.mem_of_getElem? (i := 204) rfl)) rfl, xi_ISE, List.mem_of_getElem? (i := 15) rfl, fun w h => mTBL_of (xg_ISE w h) (List.mem_filter.mp h).2, xb_ISE, fun w h => by
  rcases List.mem_cons.mp h with rfl | h
  · rfl
  rcases List.mem_cons.mp h with rfl | h
  · rfl
  exact xo_ISE w h, by decide, by decide⟩
theorem d_X11_step_65 : decode (mB M_X11_step) 65 = .ok (.new 288, 3) := by decide +kernel
theorem d_X11_step_68 : decode (mB M_X11_step) 68 = .ok (.dup, 1) := by decide +kernel
theorem d_X11_step_69 : decode (mB M_X11_step) 69 = .ok (.ldc_w 290, 3) := by decide +kernel
theorem d_X11_step_72 : decode (mB M_X11_step) 72 = .ok (.invokespecial 292, 3) := by decide +kernel
theorem d_X11_step_75 : decode (mB M_X11_step) 75 = .ok (.athrow, 1) := by decide +kernel
theorem th_X11_step_65 : mThr M_X11_step 65 xUOE := ⟨288, 290, 292, _, ["java/lang/RuntimeException", "java/lang/Exception"], 7, rx7, rd7, Or.inr ⟨d_X11_step_65, d_X11_step_68, d_X11_step_69, d_X11_step_72, d_X11_step_75⟩, xf_UOE, xn_fit, mTBL_of (tb_4 _ (List.mem_of_getElem? (i := 209) rfl)) rfl, xi_UOE, List.mem_of_getElem? (i := 16) rfl, fun w h => mTBL_of (xg_UOE w h) (List.mem_filter.mp h).2, xb_UOE, fun w h => by
  rcases List.mem_cons.mp h with rfl | h
  · rfl
  rcases List.mem_cons.mp h with rfl | h
  · rfl
  exact xo_UOE w h, by decide, by decide⟩
theorem d_X11_requireDirection_9 : decode (mB M_X11_requireDirection) 9 = .ok (.new 84, 3) := by decide +kernel
theorem d_X11_requireDirection_12 : decode (mB M_X11_requireDirection) 12 = .ok (.dup, 1) := by decide +kernel
theorem d_X11_requireDirection_13 : decode (mB M_X11_requireDirection) 13 = .ok (.ldc_w 381, 3) := by decide +kernel
theorem d_X11_requireDirection_16 : decode (mB M_X11_requireDirection) 16 = .ok (.invokespecial 88, 3) := by decide +kernel
theorem d_X11_requireDirection_19 : decode (mB M_X11_requireDirection) 19 = .ok (.athrow, 1) := by decide +kernel
theorem th_X11_requireDirection_9 : mThr M_X11_requireDirection 9 xIAE := ⟨84, 381, 88, _, ["java/lang/RuntimeException", "java/lang/Exception"], 7, rx7, rd7, Or.inr ⟨d_X11_requireDirection_9, d_X11_requireDirection_12, d_X11_requireDirection_13, d_X11_requireDirection_16, d_X11_requireDirection_19⟩, xf_IAE, xn_fit, mTBL_of (tb_2 _ (List.mem_of_getElem? (i := 133) rfl)) rfl, xi_IAE, List.mem_of_getElem? (i := 14) rfl, fun w h => mTBL_of (xg_IAE w h) (List.mem_filter.mp h).2, xb_IAE, fun w h => by
  rcases List.mem_cons.mp h with rfl | h
  · rfl
  rcases List.mem_cons.mp h with rfl | h
  · rfl
  exact xo_IAE w h, by decide, by decide⟩
theorem d_X11_requirePush_41 : decode (mB M_X11_requirePush) 41 = .ok (.new 288, 3) := by decide +kernel
theorem d_X11_requirePush_44 : decode (mB M_X11_requirePush) 44 = .ok (.dup, 1) := by decide +kernel
theorem d_X11_requirePush_45 : decode (mB M_X11_requirePush) 45 = .ok (.ldc_w 389, 3) := by decide +kernel
theorem d_X11_requirePush_48 : decode (mB M_X11_requirePush) 48 = .ok (.invokespecial 292, 3) := by decide +kernel
theorem d_X11_requirePush_51 : decode (mB M_X11_requirePush) 51 = .ok (.athrow, 1) := by decide +kernel
theorem th_X11_requirePush_41 : mThr M_X11_requirePush 41 xUOE := ⟨288, 389, 292, _, ["java/lang/RuntimeException", "java/lang/Exception"], 7, rx7, rd7, Or.inr ⟨d_X11_requirePush_41, d_X11_requirePush_44, d_X11_requirePush_45, d_X11_requirePush_48, d_X11_requirePush_51⟩, xf_UOE, xn_fit, mTBL_of (tb_4 _ (List.mem_of_getElem? (i := 209) rfl)) rfl, xi_UOE, List.mem_of_getElem? (i := 18) rfl, fun w h => mTBL_of (xg_UOE w h) (List.mem_filter.mp h).2, xb_UOE, fun w h => by
  rcases List.mem_cons.mp h with rfl | h
  · rfl
  rcases List.mem_cons.mp h with rfl | h
  · rfl
  exact xo_UOE w h, by decide, by decide⟩
theorem d_X11_requireBox_25 : decode (mB M_X11_requireBox) 25 = .ok (.new 146, 3) := by decide +kernel
theorem d_X11_requireBox_28 : decode (mB M_X11_requireBox) 28 = .ok (.dup, 1) := by decide +kernel
theorem d_X11_requireBox_29 : decode (mB M_X11_requireBox) 29 = .ok (.ldc_w 383, 3) := by decide +kernel
theorem d_X11_requireBox_32 : decode (mB M_X11_requireBox) 32 = .ok (.invokespecial 150, 3) := by decide +kernel
theorem d_X11_requireBox_35 : decode (mB M_X11_requireBox) 35 = .ok (.athrow, 1) := by decide +kernel
theorem th_X11_requireBox_25 : mThr M_X11_requireBox 25 xIOOBE := ⟨146, 383, 150, _, ["java/lang/RuntimeException", "java/lang/Exception"], 7, rx7, rd7, Or.inr ⟨d_X11_requireBox_25, d_X11_requireBox_28, d_X11_requireBox_29, d_X11_requireBox_32, d_X11_requireBox_35⟩, xf_IOOBE, xn_fit, mTBL_of (tb_3 _ (List.mem_of_getElem? (i := 185) rfl)) rfl, xi_IOOBE, List.mem_of_getElem? (i := 17) rfl, fun w h => mTBL_of (xg_IOOBE w h) (List.mem_filter.mp h).2, xb_IOOBE, fun w h => by
  rcases List.mem_cons.mp h with rfl | h
  · rfl
  rcases List.mem_cons.mp h with rfl | h
  · rfl
  exact xo_IOOBE w h, by decide, by decide⟩
theorem d_X11_commitOrThrow_24 : decode (mB M_X11_commitOrThrow) 24 = .ok (.new 115, 3) := by decide +kernel
theorem d_X11_commitOrThrow_27 : decode (mB M_X11_commitOrThrow) 27 = .ok (.dup, 1) := by decide +kernel
theorem d_X11_commitOrThrow_28 : decode (mB M_X11_commitOrThrow) 28 = .ok (.ldc_w 391, 3) := by decide +kernel
theorem d_X11_commitOrThrow_31 : decode (mB M_X11_commitOrThrow) 31 = .ok (.invokespecial 119, 3) := by decide +kernel
theorem d_X11_commitOrThrow_34 : decode (mB M_X11_commitOrThrow) 34 = .ok (.athrow, 1) := by decide +kernel
theorem th_X11_commitOrThrow_24 : mThr M_X11_commitOrThrow 24 xAE := ⟨115, 391, 119, _, ["java/lang/RuntimeException", "java/lang/Exception"], 7, rx7, rd7, Or.inr ⟨d_X11_commitOrThrow_24, d_X11_commitOrThrow_27, d_X11_commitOrThrow_28, d_X11_commitOrThrow_31, d_X11_commitOrThrow_34⟩, xf_AE, xn_fit, mTBL_of (tb_3 _ (List.mem_of_getElem? (i := 109) rfl)) rfl, xi_AE, List.mem_of_getElem? (i := 19) rfl, fun w h => mTBL_of (xg_AE w h) (List.mem_filter.mp h).2, xb_AE, fun w h => by
  rcases List.mem_cons.mp h with rfl | h
  · rfl
  rcases List.mem_cons.mp h with rfl | h
  · rfl
  exact xo_AE w h, by decide, by decide⟩
theorem d_X11_play_82 : decode (mB M_X11_play) 82 = .ok (.new 288, 3) := by decide +kernel
theorem d_X11_play_85 : decode (mB M_X11_play) 85 = .ok (.dup, 1) := by decide +kernel
theorem d_X11_play_86 : decode (mB M_X11_play) 86 = .ok (.ldc_w 324, 3) := by decide +kernel
theorem d_X11_play_89 : decode (mB M_X11_play) 89 = .ok (.invokespecial 292, 3) := by decide +kernel
theorem d_X11_play_92 : decode (mB M_X11_play) 92 = .ok (.athrow, 1) := by decide +kernel
theorem th_X11_play_82 : mThr M_X11_play 82 xUOE := ⟨288, 324, 292, _, ["java/lang/RuntimeException", "java/lang/Exception"], 7, rx7, rd7, Or.inr ⟨d_X11_play_82, d_X11_play_85, d_X11_play_86, d_X11_play_89, d_X11_play_92⟩, xf_UOE, xn_fit, mTBL_of (tb_4 _ (List.mem_of_getElem? (i := 209) rfl)) rfl, xi_UOE, List.mem_of_getElem? (i := 22) rfl, fun w h => mTBL_of (xg_UOE w h) (List.mem_filter.mp h).2, xb_UOE, fun w h => by
  rcases List.mem_cons.mp h with rfl | h
  · rfl
  rcases List.mem_cons.mp h with rfl | h
  · rfl
  exact xo_UOE w h, by decide, by decide⟩
theorem d_X11_refused_8 : decode (mB M_X11_refused) 8 = .ok (.new 237, 3) := by decide +kernel
theorem d_X11_refused_11 : decode (mB M_X11_refused) 11 = .ok (.dup, 1) := by decide +kernel
theorem d_X11_refused_12 : decode (mB M_X11_refused) 12 = .ok (.ldc_w 326, 3) := by decide +kernel
theorem d_X11_refused_15 : decode (mB M_X11_refused) 15 = .ok (.invokespecial 241, 3) := by decide +kernel
theorem d_X11_refused_18 : decode (mB M_X11_refused) 18 = .ok (.athrow, 1) := by decide +kernel
theorem th_X11_refused_8 : mThr M_X11_refused 8 xNSEE := ⟨237, 326, 241, _, ["java/lang/RuntimeException", "java/lang/Exception"], 13, rx13, rd13, Or.inr ⟨d_X11_refused_8, d_X11_refused_11, d_X11_refused_12, d_X11_refused_15, d_X11_refused_18⟩, xf_NSEE, xn_fit, mTBL_of (tb_4 _ (List.mem_of_getElem? (i := 70) rfl)) rfl, xi_NSEE, List.mem_of_getElem? (i := 23) rfl, fun w h => mTBL_of (xg_NSEE w h) (List.mem_filter.mp h).2, xb_NSEE, fun w h => by
  rcases List.mem_cons.mp h with rfl | h
  · rfl
  rcases List.mem_cons.mp h with rfl | h
  · rfl
  exact xo_NSEE w h, by decide, by decide⟩
theorem d_X11_refusal_7 : decode (mB M_X11_refusal) 7 = .ok (.new 237, 3) := by decide +kernel
theorem d_X11_refusal_10 : decode (mB M_X11_refusal) 10 = .ok (.dup, 1) := by decide +kernel
theorem d_X11_refusal_11 : decode (mB M_X11_refusal) 11 = .ok (.ldc_w 328, 3) := by decide +kernel
theorem d_X11_refusal_14 : decode (mB M_X11_refusal) 14 = .ok (.invokespecial 241, 3) := by decide +kernel
theorem d_X11_refusal_17 : decode (mB M_X11_refusal) 17 = .ok (.athrow, 1) := by decide +kernel
theorem th_X11_refusal_7 : mThr M_X11_refusal 7 xNSEE := ⟨237, 328, 241, _, ["java/lang/RuntimeException", "java/lang/Exception"], 13, rx13, rd13, Or.inr ⟨d_X11_refusal_7, d_X11_refusal_10, d_X11_refusal_11, d_X11_refusal_14, d_X11_refusal_17⟩, xf_NSEE, xn_fit, mTBL_of (tb_4 _ (List.mem_of_getElem? (i := 70) rfl)) rfl, xi_NSEE, List.mem_of_getElem? (i := 24) rfl, fun w h => mTBL_of (xg_NSEE w h) (List.mem_filter.mp h).2, xb_NSEE, fun w h => by
  rcases List.mem_cons.mp h with rfl | h
  · rfl
  rcases List.mem_cons.mp h with rfl | h
  · rfl
  exact xo_NSEE w h, by decide, by decide⟩
theorem d_X11_searchAndKeep_12 : decode (mB M_X11_searchAndKeep) 12 = .ok (.new 84, 3) := by decide +kernel
theorem d_X11_searchAndKeep_15 : decode (mB M_X11_searchAndKeep) 15 = .ok (.dup, 1) := by decide +kernel
theorem d_X11_searchAndKeep_16 : decode (mB M_X11_searchAndKeep) 16 = .ok (.ldc_w 393, 3) := by decide +kernel
theorem d_X11_searchAndKeep_19 : decode (mB M_X11_searchAndKeep) 19 = .ok (.invokespecial 88, 3) := by decide +kernel
theorem d_X11_searchAndKeep_22 : decode (mB M_X11_searchAndKeep) 22 = .ok (.athrow, 1) := by decide +kernel
theorem th_X11_searchAndKeep_12 : mThr M_X11_searchAndKeep 12 xIAE := ⟨84, 393, 88, _, ["java/lang/RuntimeException", "java/lang/Exception"], 7, rx7, rd7, Or.inr ⟨d_X11_searchAndKeep_12, d_X11_searchAndKeep_15, d_X11_searchAndKeep_16, d_X11_searchAndKeep_19, d_X11_searchAndKeep_22⟩, xf_IAE, xn_fit, mTBL_of (tb_2 _ (List.mem_of_getElem? (i := 133) rfl)) rfl, xi_IAE, List.mem_of_getElem? (i := 25) rfl, fun w h => mTBL_of (xg_IAE w h) (List.mem_filter.mp h).2, xb_IAE, fun w h => by
  rcases List.mem_cons.mp h with rfl | h
  · rfl
  rcases List.mem_cons.mp h with rfl | h
  · rfl
  exact xo_IAE w h, by decide, by decide⟩
theorem d_X11_searchAndKeep_53 : decode (mB M_X11_searchAndKeep) 53 = .ok (.new 115, 3) := by decide +kernel
theorem d_X11_searchAndKeep_56 : decode (mB M_X11_searchAndKeep) 56 = .ok (.dup, 1) := by decide +kernel
theorem d_X11_searchAndKeep_57 : decode (mB M_X11_searchAndKeep) 57 = .ok (.ldc_w 403, 3) := by decide +kernel
theorem d_X11_searchAndKeep_60 : decode (mB M_X11_searchAndKeep) 60 = .ok (.invokespecial 119, 3) := by decide +kernel
theorem d_X11_searchAndKeep_63 : decode (mB M_X11_searchAndKeep) 63 = .ok (.athrow, 1) := by decide +kernel
theorem th_X11_searchAndKeep_53 : mThr M_X11_searchAndKeep 53 xAE := ⟨115, 403, 119, _, ["java/lang/RuntimeException", "java/lang/Exception"], 7, rx7, rd7, Or.inr ⟨d_X11_searchAndKeep_53, d_X11_searchAndKeep_56, d_X11_searchAndKeep_57, d_X11_searchAndKeep_60, d_X11_searchAndKeep_63⟩, xf_AE, xn_fit, mTBL_of (tb_3 _ (List.mem_of_getElem? (i := 109) rfl)) rfl, xi_AE, List.mem_of_getElem? (i := 26) rfl, fun w h => mTBL_of (xg_AE w h) (List.mem_filter.mp h).2, xb_AE, fun w h => by
  rcases List.mem_cons.mp h with rfl | h
  · rfl
  rcases List.mem_cons.mp h with rfl | h
  · rfl
  exact xo_AE w h, by decide, by decide⟩
theorem d_X11_searchAndKeep_75 : decode (mB M_X11_searchAndKeep) 75 = .ok (.new 237, 3) := by decide +kernel
theorem d_X11_searchAndKeep_78 : decode (mB M_X11_searchAndKeep) 78 = .ok (.dup, 1) := by decide +kernel
theorem d_X11_searchAndKeep_79 : decode (mB M_X11_searchAndKeep) 79 = .ok (.ldc_w 408, 3) := by decide +kernel
theorem d_X11_searchAndKeep_82 : decode (mB M_X11_searchAndKeep) 82 = .ok (.invokespecial 241, 3) := by decide +kernel
theorem d_X11_searchAndKeep_85 : decode (mB M_X11_searchAndKeep) 85 = .ok (.athrow, 1) := by decide +kernel
theorem th_X11_searchAndKeep_75 : mThr M_X11_searchAndKeep 75 xNSEE := ⟨237, 408, 241, _, ["java/lang/RuntimeException", "java/lang/Exception"], 13, rx13, rd13, Or.inr ⟨d_X11_searchAndKeep_75, d_X11_searchAndKeep_78, d_X11_searchAndKeep_79, d_X11_searchAndKeep_82, d_X11_searchAndKeep_85⟩, xf_NSEE, xn_fit, mTBL_of (tb_4 _ (List.mem_of_getElem? (i := 70) rfl)) rfl, xi_NSEE, List.mem_of_getElem? (i := 27) rfl, fun w h => mTBL_of (xg_NSEE w h) (List.mem_filter.mp h).2, xb_NSEE, fun w h => by
  rcases List.mem_cons.mp h with rfl | h
  · rfl
  rcases List.mem_cons.mp h with rfl | h
  · rfl
  exact xo_NSEE w h, by decide, by decide⟩
theorem d_X11_solution_27 : decode (mB M_X11_solution) 27 = .ok (.new 237, 3) := by decide +kernel
theorem d_X11_solution_30 : decode (mB M_X11_solution) 30 = .ok (.dup, 1) := by decide +kernel
theorem d_X11_solution_31 : decode (mB M_X11_solution) 31 = .ok (.ldc_w 342, 3) := by decide +kernel
theorem d_X11_solution_34 : decode (mB M_X11_solution) 34 = .ok (.invokespecial 241, 3) := by decide +kernel
theorem d_X11_solution_37 : decode (mB M_X11_solution) 37 = .ok (.athrow, 1) := by decide +kernel
theorem th_X11_solution_27 : mThr M_X11_solution 27 xNSEE := ⟨237, 342, 241, _, ["java/lang/RuntimeException", "java/lang/Exception"], 13, rx13, rd13, Or.inr ⟨d_X11_solution_27, d_X11_solution_30, d_X11_solution_31, d_X11_solution_34, d_X11_solution_37⟩, xf_NSEE, xn_fit, mTBL_of (tb_4 _ (List.mem_of_getElem? (i := 70) rfl)) rfl, xi_NSEE, List.mem_of_getElem? (i := 28) rfl, fun w h => mTBL_of (xg_NSEE w h) (List.mem_filter.mp h).2, xb_NSEE, fun w h => by
  rcases List.mem_cons.mp h with rfl | h
  · rfl
  rcases List.mem_cons.mp h with rfl | h
  · rfl
  exact xo_NSEE w h, by decide, by decide⟩
theorem d_X11_recorded_15 : decode (mB M_X11_recorded) 15 = .ok (.new 146, 3) := by decide +kernel
theorem d_X11_recorded_18 : decode (mB M_X11_recorded) 18 = .ok (.dup, 1) := by decide +kernel
theorem d_X11_recorded_19 : decode (mB M_X11_recorded) 19 = .ok (.ldc_w 353, 3) := by decide +kernel
theorem d_X11_recorded_22 : decode (mB M_X11_recorded) 22 = .ok (.invokespecial 150, 3) := by decide +kernel
theorem d_X11_recorded_25 : decode (mB M_X11_recorded) 25 = .ok (.athrow, 1) := by decide +kernel
theorem th_X11_recorded_15 : mThr M_X11_recorded 15 xIOOBE := ⟨146, 353, 150, _, ["java/lang/RuntimeException", "java/lang/Exception"], 7, rx7, rd7, Or.inr ⟨d_X11_recorded_15, d_X11_recorded_18, d_X11_recorded_19, d_X11_recorded_22, d_X11_recorded_25⟩, xf_IOOBE, xn_fit, mTBL_of (tb_3 _ (List.mem_of_getElem? (i := 185) rfl)) rfl, xi_IOOBE, List.mem_of_getElem? (i := 29) rfl, fun w h => mTBL_of (xg_IOOBE w h) (List.mem_filter.mp h).2, xb_IOOBE, fun w h => by
  rcases List.mem_cons.mp h with rfl | h
  · rfl
  rcases List.mem_cons.mp h with rfl | h
  · rfl
  exact xo_IOOBE w h, by decide, by decide⟩
theorem d_X11_undo_10 : decode (mB M_X11_undo) 10 = .ok (.new 94, 3) := by decide +kernel
theorem d_X11_undo_13 : decode (mB M_X11_undo) 13 = .ok (.dup, 1) := by decide +kernel
theorem d_X11_undo_14 : decode (mB M_X11_undo) 14 = .ok (.ldc_w 369, 3) := by decide +kernel
theorem d_X11_undo_17 : decode (mB M_X11_undo) 17 = .ok (.invokespecial 98, 3) := by decide +kernel
theorem d_X11_undo_20 : decode (mB M_X11_undo) 20 = .ok (.athrow, 1) := by decide +kernel
theorem th_X11_undo_10 : mThr M_X11_undo 10 xISE := ⟨94, 369, 98, _, ["java/lang/RuntimeException", "java/lang/Exception"], 7, rx7, rd7, Or.inr ⟨d_X11_undo_10, d_X11_undo_13, d_X11_undo_14, d_X11_undo_17, d_X11_undo_20⟩, xf_ISE, xn_fit, mTBL_of (tb_2 _ (List.mem_of_getElem? (i := 204) rfl)) rfl, xi_ISE, List.mem_of_getElem? (i := 30) rfl, fun w h => mTBL_of (xg_ISE w h) (List.mem_filter.mp h).2, xb_ISE, fun w h => by
  rcases List.mem_cons.mp h with rfl | h
  · rfl
  rcases List.mem_cons.mp h with rfl | h
  · rfl
  exact xo_ISE w h, by decide, by decide⟩
theorem d_X11_restoreSnapshot_13 : decode (mB M_X11_restoreSnapshot) 13 = .ok (.new 94, 3) := by decide +kernel
theorem d_X11_restoreSnapshot_16 : decode (mB M_X11_restoreSnapshot) 16 = .ok (.dup, 1) := by decide +kernel
theorem d_X11_restoreSnapshot_17 : decode (mB M_X11_restoreSnapshot) 17 = .ok (.ldc_w 377, 3) := by decide +kernel
theorem d_X11_restoreSnapshot_20 : decode (mB M_X11_restoreSnapshot) 20 = .ok (.invokespecial 98, 3) := by decide +kernel
theorem d_X11_restoreSnapshot_23 : decode (mB M_X11_restoreSnapshot) 23 = .ok (.athrow, 1) := by decide +kernel
theorem th_X11_restoreSnapshot_13 : mThr M_X11_restoreSnapshot 13 xISE := ⟨94, 377, 98, _, ["java/lang/RuntimeException", "java/lang/Exception"], 7, rx7, rd7, Or.inr ⟨d_X11_restoreSnapshot_13, d_X11_restoreSnapshot_16, d_X11_restoreSnapshot_17, d_X11_restoreSnapshot_20, d_X11_restoreSnapshot_23⟩, xf_ISE, xn_fit, mTBL_of (tb_2 _ (List.mem_of_getElem? (i := 204) rfl)) rfl, xi_ISE, List.mem_of_getElem? (i := 31) rfl, fun w h => mTBL_of (xg_ISE w h) (List.mem_filter.mp h).2, xb_ISE, fun w h => by
  rcases List.mem_cons.mp h with rfl | h
  · rfl
  rcases List.mem_cons.mp h with rfl | h
  · rfl
  exact xo_ISE w h, by decide, by decide⟩
/-- an outcome of a call: an answer or a throw, and the state after it -/
abbrev mO : Type := (Option Value × cT) ⊕ (String × cT)
def ocs (o : mO) : Nat := match o with | .inl _ => 0 | .inr _ => 1
def oG (m : List mE) (o : mO) : mG := match o with | .inl (v, t) => .inr (.inl (v, (m, cw t))) | .inr (X, t) => .inr (.inr (X, (m, cw t)))
def Rc (E : mEnv) (y : mM) (m : List mE) (As : List Value) (t : cT) (o : mO) : Prop := match o with | .inl (v, t2) => Rt E y 0 As (m, cw t) v (m, cw t2) | .inr (X, t2) => Rx E y As (m, cw t) X (m, cw t2)
theorem Rc.of {E : mEnv} {y : mM} {m : List mE} {As : List Value} {t : cT} {o : mO} (hl : E.1.stackTraces = false) (h0 : mHH y = []) (hy : plainName (mN y).cls = true) (he : (mEnt As).length ≤ mL y) (h : Go E y (ocs o) (0, mEnd As (mL y), [], (m, cw t)) (oG m o)) : Rc E y m As t o := by
  match o, h with
  | .inl (v, t2), h => exact Rt.of hl h0 hy he h
  | .inr (X, t2), h => exact Rx.of hl h0 hy he h
