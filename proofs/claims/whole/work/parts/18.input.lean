/-! TextInput and RoomText -/
abbrev LET : List Int32 := [117, 114, 100, 108, 85, 82, 68, 76]
abbrev SGN : List Int32 := [35, 45, 46, 36, 42, 64, 43]
theorem nI_cl {c : Int32} (h : ¬ c < 0) : c = nI c.toNatClampNeg := by
  obtain ⟨j, hj, rfl⟩ := nI_of h
  rw [nI_clamp hj]
def iAdd (q : InT) (c : Int32) : InT := if q.2 < 0 then q else if 80 ≤ q.2 then q else (upd q.1 q.2.toNatClampNeg (vp_nar .char c), q.2 + 1)
def iAt (f : Nat → Int32) (i : Int32) : Int32 := if i < 0 then 32 else if 80 ≤ i then 32 else f i.toNatClampNeg
def chOk (f : Nat → Int32) : Prop := ∀ j, narrow .char (.int (f j)) = .int (f j)
theorem d_X10_add_0 : decode (mB M_X10_add) 0 = .ok (.aload_n 0, 1) := by decide +kernel
theorem d_X10_add_1 : decode (mB M_X10_add) 1 = .ok (.getfield 15, 3) := by decide +kernel
theorem d_X10_add_4 : decode (mB M_X10_add) 4 = .ok (.ifCond .lt 35, 3) := by decide +kernel
theorem d_X10_add_7 : decode (mB M_X10_add) 7 = .ok (.aload_n 0, 1) := by decide +kernel
theorem d_X10_add_8 : decode (mB M_X10_add) 8 = .ok (.getfield 15, 3) := by decide +kernel
theorem d_X10_add_11 : decode (mB M_X10_add) 11 = .ok (.aload_n 0, 1) := by decide +kernel
theorem d_X10_add_12 : decode (mB M_X10_add) 12 = .ok (.getfield 9, 3) := by decide +kernel
theorem d_X10_add_15 : decode (mB M_X10_add) 15 = .ok (.arraylength, 1) := by decide +kernel
theorem d_X10_add_16 : decode (mB M_X10_add) 16 = .ok (.if_icmp .ge 23, 3) := by decide +kernel
theorem d_X10_add_19 : decode (mB M_X10_add) 19 = .ok (.aload_n 0, 1) := by decide +kernel
theorem d_X10_add_20 : decode (mB M_X10_add) 20 = .ok (.getfield 9, 3) := by decide +kernel
theorem d_X10_add_23 : decode (mB M_X10_add) 23 = .ok (.aload_n 0, 1) := by decide +kernel
theorem d_X10_add_24 : decode (mB M_X10_add) 24 = .ok (.getfield 15, 3) := by decide +kernel
theorem d_X10_add_27 : decode (mB M_X10_add) 27 = .ok (.iload_n 1, 1) := by decide +kernel
theorem d_X10_add_28 : decode (mB M_X10_add) 28 = .ok (.castore, 1) := by decide +kernel
theorem d_X10_add_29 : decode (mB M_X10_add) 29 = .ok (.aload_n 0, 1) := by decide +kernel
theorem d_X10_add_30 : decode (mB M_X10_add) 30 = .ok (.dup, 1) := by decide +kernel
theorem d_X10_add_31 : decode (mB M_X10_add) 31 = .ok (.getfield 15, 3) := by decide +kernel
theorem d_X10_add_34 : decode (mB M_X10_add) 34 = .ok (.iconst 1, 1) := by decide +kernel
theorem d_X10_add_35 : decode (mB M_X10_add) 35 = .ok (.iadd, 1) := by decide +kernel
theorem d_X10_add_36 : decode (mB M_X10_add) 36 = .ok (.putfield 15, 3) := by decide +kernel
theorem d_X10_add_39 : decode (mB M_X10_add) 39 = .ok (.return_, 1) := by decide +kernel
theorem c_add {E : mEnv} (hE : E.1.stackTraces = false) (m : List mE) (t : cT) (c : Int32) : Rt E M_X10_add 0 [.ref 101, .int c] ((m, cw t)) none ((m, cw (wI t (iAdd (tI t) c)))) := by
  refine Rt.of hE rfl pn_X10 (Nat.le_of_ble_eq_true rfl) ?_
  refine g_eq (S' := (0, [some (.ref 101), some (.int c)], [], (m, cw t))) rfl ?_
  refine g_aload_n d_X10_add_0 rfl ?_
  refine g_getf d_X10_add_1 f_X10_15 rfl rfl ?_
  refine g_if_lt (tgt := 39) d_X10_add_4 (by decide) (fun c_4 => ?_) (fun c_4 => ?_)
  · exact g_retV d_X10_add_39 rfl (by simp only [iAdd, eq_true c_4, ↓reduceIte]; rfl)
  · refine g_aload_n d_X10_add_7 rfl ?_
    refine g_getf d_X10_add_8 f_X10_15 rfl rfl ?_
    refine g_aload_n d_X10_add_11 rfl ?_
    refine g_getf d_X10_add_12 f_X10_9 rfl rfl ?_
    refine g_alen (v := 80) d_X10_add_15 rfl (by decide) rfl ?_
    refine g_icmp_ge (tgt := 39) d_X10_add_16 (by decide) (fun c_16 => ?_) (fun c_16 => ?_)
    · exact g_retV d_X10_add_39 rfl (by simp only [iAdd, eq_false c_4, eq_true c_16, ↓reduceIte]; rfl)
    · refine g_aload_n d_X10_add_19 rfl ?_
      refine g_getf d_X10_add_20 f_X10_9 rfl rfl ?_
      refine g_aload_n d_X10_add_23 rfl ?_
      refine g_getf d_X10_add_24 f_X10_15 rfl rfl ?_
      refine g_iload_n d_X10_add_27 rfl ?_
      refine g_cast (w' := (mset (m, cw t) 102 (.inl (2, 80, .inl (upd (tI t).1 (Int32.toNatClampNeg ((tI t).2)) (vp_nar .char c)))))) d_X10_add_28 rfl (vp_in_of2 (by decide) c_4 c_16) (rfl) ?_
      refine g_aload_n d_X10_add_29 rfl ?_
      refine g_dup d_X10_add_30 rfl ?_
      refine g_getf d_X10_add_31 f_X10_15 ((mget_ne (by decide)).trans rfl) rfl ?_
      refine g_iconst (v := 1) d_X10_add_34 (by decide) ?_
      refine g_iadd d_X10_add_35 ?_
      refine g_putI (w' := (mset (mset (m, cw t) 102 (.inl (2, 80, .inl (upd (tI t).1 (Int32.toNatClampNeg ((tI t).2)) (vp_nar .char c))))) 101 (.inr (10, [.ref 102, .int ((tI t).2 + 1)])))) d_X10_add_36 p_X10_15 rfl rfl ((mget_ne (by decide)).trans rfl) (Nat.le_of_ble_eq_true rfl) (rfl) ?_
      exact g_retV d_X10_add_39 rfl (by simp only [iAdd, eq_false c_4, eq_false c_16, ↓reduceIte]; rfl)
theorem d_X10_take_0 : decode (mB M_X10_take) 0 = .ok (.aload_n 0, 1) := by decide +kernel
theorem d_X10_take_1 : decode (mB M_X10_take) 1 = .ok (.getfield 15, 3) := by decide +kernel
theorem d_X10_take_4 : decode (mB M_X10_take) 4 = .ok (.istore_n 1, 1) := by decide +kernel
theorem d_X10_take_5 : decode (mB M_X10_take) 5 = .ok (.aload_n 0, 1) := by decide +kernel
theorem d_X10_take_6 : decode (mB M_X10_take) 6 = .ok (.iconst 0, 1) := by decide +kernel
theorem d_X10_take_7 : decode (mB M_X10_take) 7 = .ok (.putfield 15, 3) := by decide +kernel
theorem d_X10_take_10 : decode (mB M_X10_take) 10 = .ok (.iload_n 1, 1) := by decide +kernel
theorem d_X10_take_11 : decode (mB M_X10_take) 11 = .ok (.ireturn, 1) := by decide +kernel
theorem c_take {E : mEnv} (hE : E.1.stackTraces = false) (m : List mE) (t : cT)  : Rt E M_X10_take 0 [.ref 101] ((m, cw t)) (some (.int (tI t).2)) ((m, cw (wI t ((tI t).1, 0)))) := by
  refine Rt.of hE rfl pn_X10 (Nat.le_of_ble_eq_true rfl) ?_
  refine g_eq (S' := (0, [some (.ref 101), none], [], (m, cw t))) rfl ?_
  refine g_aload_n d_X10_take_0 rfl ?_
  refine g_getf d_X10_take_1 f_X10_15 rfl rfl ?_
  refine g_istore_n (L' := [some (.ref 101), some (.int ((tI t).2))]) d_X10_take_4 rfl rfl ?_
  refine g_aload_n d_X10_take_5 rfl ?_
  refine g_iconst (v := 0) d_X10_take_6 (by decide) ?_
  refine g_putI (w' := (mset (m, cw t) 101 (.inr (10, [.ref 102, .int 0])))) d_X10_take_7 p_X10_15 rfl rfl rfl (Nat.le_of_ble_eq_true rfl) (rfl) ?_
  refine g_iload_n d_X10_take_10 rfl ?_
  exact g_retI d_X10_take_11 rfl (rfl) (rfl)
theorem d_X10_at_0 : decode (mB M_X10_at) 0 = .ok (.iload_n 1, 1) := by decide +kernel
theorem d_X10_at_1 : decode (mB M_X10_at) 1 = .ok (.ifCond .lt 21, 3) := by decide +kernel
theorem d_X10_at_4 : decode (mB M_X10_at) 4 = .ok (.iload_n 1, 1) := by decide +kernel
theorem d_X10_at_5 : decode (mB M_X10_at) 5 = .ok (.aload_n 0, 1) := by decide +kernel
theorem d_X10_at_6 : decode (mB M_X10_at) 6 = .ok (.getfield 9, 3) := by decide +kernel
theorem d_X10_at_9 : decode (mB M_X10_at) 9 = .ok (.arraylength, 1) := by decide +kernel
theorem d_X10_at_10 : decode (mB M_X10_at) 10 = .ok (.if_icmp .ge 12, 3) := by decide +kernel
theorem d_X10_at_13 : decode (mB M_X10_at) 13 = .ok (.aload_n 0, 1) := by decide +kernel
theorem d_X10_at_14 : decode (mB M_X10_at) 14 = .ok (.getfield 9, 3) := by decide +kernel
theorem d_X10_at_17 : decode (mB M_X10_at) 17 = .ok (.iload_n 1, 1) := by decide +kernel
theorem d_X10_at_18 : decode (mB M_X10_at) 18 = .ok (.caload, 1) := by decide +kernel
theorem d_X10_at_19 : decode (mB M_X10_at) 19 = .ok (.goto 5, 3) := by decide +kernel
theorem d_X10_at_22 : decode (mB M_X10_at) 22 = .ok (.bipush 32, 2) := by decide +kernel
theorem d_X10_at_24 : decode (mB M_X10_at) 24 = .ok (.ireturn, 1) := by decide +kernel
theorem c_iat {E : mEnv} (hE : E.1.stackTraces = false) (m : List mE) (t : cT) (i : Int32) (hch : chOk (tI t).1) : Rt E M_X10_at 0 [.ref 101, .int i] ((m, cw t)) (some (.int (iAt (tI t).1 i))) ((m, cw t)) := by
  refine Rt.of hE rfl pn_X10 (Nat.le_of_ble_eq_true rfl) ?_
  refine g_eq (S' := (0, [some (.ref 101), some (.int i)], [], (m, cw t))) rfl ?_
  refine g_iload_n d_X10_at_0 rfl ?_
  refine g_if_lt (tgt := 22) d_X10_at_1 (by decide) (fun c_1 => ?_) (fun c_1 => ?_)
  · refine g_bipush (v := 32) d_X10_at_22 (by decide) ?_
    exact g_retC d_X10_at_24 rfl (by first | decide | exact hch _) (by simp only [iAt, eq_true c_1, ↓reduceIte, Bool.false_eq_true]) (rfl)
  · refine g_iload_n d_X10_at_4 rfl ?_
    refine g_aload_n d_X10_at_5 rfl ?_
    refine g_getf d_X10_at_6 f_X10_9 rfl rfl ?_
    refine g_alen (v := 80) d_X10_at_9 rfl (by decide) rfl ?_
    refine g_icmp_ge (tgt := 22) d_X10_at_10 (by decide) (fun c_10 => ?_) (fun c_10 => ?_)
    · refine g_bipush (v := 32) d_X10_at_22 (by decide) ?_
      exact g_retC d_X10_at_24 rfl (by first | decide | exact hch _) (by simp only [iAt, eq_false c_1, eq_true c_10, ↓reduceIte, Bool.false_eq_true]) (rfl)
    · refine g_aload_n d_X10_at_13 rfl ?_
      refine g_getf d_X10_at_14 f_X10_9 rfl rfl ?_
      refine g_iload_n d_X10_at_17 rfl ?_
      refine g_cald d_X10_at_18 rfl (vp_in_of2 (by decide) c_1 c_10) ?_
      refine g_goto (tgt := 24) d_X10_at_19 (by decide) ?_
      exact g_retC d_X10_at_24 rfl (by first | decide | exact hch _) (by simp only [iAt, eq_false c_1, eq_false c_10, ↓reduceIte, Bool.false_eq_true]) (rfl)
def digF (s d : Int32) : Bool := if d = 0 then (if 2 ≤ d then false else if s < 49 then false else if 57 < s then false else true) else if 2 ≤ d then false else if s < 48 then false else if 57 < s then false else true
theorem d_X10_isDigit_0 : decode (mB M_X10_isDigit) 0 = .ok (.iload_n 1, 1) := by decide +kernel
theorem d_X10_isDigit_1 : decode (mB M_X10_isDigit) 1 = .ok (.ifCond .ne 8, 3) := by decide +kernel
theorem d_X10_isDigit_4 : decode (mB M_X10_isDigit) 4 = .ok (.bipush 49, 2) := by decide +kernel
theorem d_X10_isDigit_6 : decode (mB M_X10_isDigit) 6 = .ok (.goto 5, 3) := by decide +kernel
theorem d_X10_isDigit_9 : decode (mB M_X10_isDigit) 9 = .ok (.bipush 48, 2) := by decide +kernel
theorem d_X10_isDigit_11 : decode (mB M_X10_isDigit) 11 = .ok (.istore_n 2, 1) := by decide +kernel
theorem d_X10_isDigit_12 : decode (mB M_X10_isDigit) 12 = .ok (.iload_n 1, 1) := by decide +kernel
theorem d_X10_isDigit_13 : decode (mB M_X10_isDigit) 13 = .ok (.iconst 2, 1) := by decide +kernel
theorem d_X10_isDigit_14 : decode (mB M_X10_isDigit) 14 = .ok (.if_icmp .ge 18, 3) := by decide +kernel
theorem d_X10_isDigit_17 : decode (mB M_X10_isDigit) 17 = .ok (.iload_n 0, 1) := by decide +kernel
theorem d_X10_isDigit_18 : decode (mB M_X10_isDigit) 18 = .ok (.iload_n 2, 1) := by decide +kernel
theorem d_X10_isDigit_19 : decode (mB M_X10_isDigit) 19 = .ok (.if_icmp .lt 13, 3) := by decide +kernel
theorem d_X10_isDigit_22 : decode (mB M_X10_isDigit) 22 = .ok (.iload_n 0, 1) := by decide +kernel
theorem d_X10_isDigit_23 : decode (mB M_X10_isDigit) 23 = .ok (.bipush 57, 2) := by decide +kernel
theorem d_X10_isDigit_25 : decode (mB M_X10_isDigit) 25 = .ok (.if_icmp .gt 7, 3) := by decide +kernel
theorem d_X10_isDigit_28 : decode (mB M_X10_isDigit) 28 = .ok (.iconst 1, 1) := by decide +kernel
theorem d_X10_isDigit_29 : decode (mB M_X10_isDigit) 29 = .ok (.goto 4, 3) := by decide +kernel
theorem d_X10_isDigit_32 : decode (mB M_X10_isDigit) 32 = .ok (.iconst 0, 1) := by decide +kernel
theorem d_X10_isDigit_33 : decode (mB M_X10_isDigit) 33 = .ok (.ireturn, 1) := by decide +kernel
theorem c_isDigit {E : mEnv} (hE : E.1.stackTraces = false) (s d : Int32) (w : mW) : Rt E M_X10_isDigit 0 [.int s, .int d] w (some (.int (bI (digF s d)))) w := by
  refine Rt.of hE rfl pn_X10 (Nat.le_of_ble_eq_true rfl) ?_
  refine g_eq (S' := (0, [some (.int s), some (.int d), none], [], w)) rfl ?_
  refine g_iload_n d_X10_isDigit_0 rfl ?_
  refine g_if_ne (tgt := 9) d_X10_isDigit_1 (by decide) (fun c_1 => ?_) (fun c_1 => ?_)
  · refine g_bipush (v := 48) d_X10_isDigit_9 (by decide) ?_
    refine g_istore_n (L' := [some (.int s), some (.int d), some (.int 48)]) d_X10_isDigit_11 rfl rfl ?_
    refine g_iload_n d_X10_isDigit_12 rfl ?_
    refine g_iconst (v := 2) d_X10_isDigit_13 (by decide) ?_
    refine g_icmp_ge (tgt := 32) d_X10_isDigit_14 (by decide) (fun c_14 => ?_) (fun c_14 => ?_)
    · refine g_iconst (v := 0) d_X10_isDigit_32 (by decide) ?_
      exact g_retZ d_X10_isDigit_33 rfl (by decide) (by simp only [digF, eq_false c_1, eq_true c_14, ↓reduceIte, Bool.false_eq_true]; rfl) (rfl)
    · refine g_iload_n d_X10_isDigit_17 rfl ?_
      refine g_iload_n d_X10_isDigit_18 rfl ?_
      refine g_icmp_lt (tgt := 32) d_X10_isDigit_19 (by decide) (fun c_19 => ?_) (fun c_19 => ?_)
      · refine g_iconst (v := 0) d_X10_isDigit_32 (by decide) ?_
        exact g_retZ d_X10_isDigit_33 rfl (by decide) (by simp only [digF, eq_false c_1, eq_false c_14, eq_true c_19, ↓reduceIte, Bool.false_eq_true]; rfl) (rfl)
      · refine g_iload_n d_X10_isDigit_22 rfl ?_
        refine g_bipush (v := 57) d_X10_isDigit_23 (by decide) ?_
        refine g_icmp_gt (tgt := 32) d_X10_isDigit_25 (by decide) (fun c_25 => ?_) (fun c_25 => ?_)
        · refine g_iconst (v := 0) d_X10_isDigit_32 (by decide) ?_
          exact g_retZ d_X10_isDigit_33 rfl (by decide) (by simp only [digF, eq_false c_1, eq_false c_14, eq_false c_19, eq_true c_25, ↓reduceIte, Bool.false_eq_true]; rfl) (rfl)
        · refine g_iconst (v := 1) d_X10_isDigit_28 (by decide) ?_
          refine g_goto (tgt := 33) d_X10_isDigit_29 (by decide) ?_
          exact g_retZ d_X10_isDigit_33 rfl (by decide) (by simp only [digF, eq_false c_1, eq_false c_14, eq_false c_19, eq_false c_25, ↓reduceIte, Bool.false_eq_true]; rfl) (rfl)
  · refine g_bipush (v := 49) d_X10_isDigit_4 (by decide) ?_
    refine g_goto (tgt := 11) d_X10_isDigit_6 (by decide) ?_
    refine g_istore_n (L' := [some (.int s), some (.int d), some (.int 49)]) d_X10_isDigit_11 rfl rfl ?_
    refine g_iload_n d_X10_isDigit_12 rfl ?_
    refine g_iconst (v := 2) d_X10_isDigit_13 (by decide) ?_
    refine g_icmp_ge (tgt := 32) d_X10_isDigit_14 (by decide) (fun c_14 => ?_) (fun c_14 => ?_)
    · refine g_iconst (v := 0) d_X10_isDigit_32 (by decide) ?_
      exact g_retZ d_X10_isDigit_33 rfl (by decide) (by simp only [digF, eq_true c_1, eq_true c_14, ↓reduceIte, Bool.false_eq_true]; rfl) (rfl)
    · refine g_iload_n d_X10_isDigit_17 rfl ?_
      refine g_iload_n d_X10_isDigit_18 rfl ?_
      refine g_icmp_lt (tgt := 32) d_X10_isDigit_19 (by decide) (fun c_19 => ?_) (fun c_19 => ?_)
      · refine g_iconst (v := 0) d_X10_isDigit_32 (by decide) ?_
        exact g_retZ d_X10_isDigit_33 rfl (by decide) (by simp only [digF, eq_true c_1, eq_false c_14, eq_true c_19, ↓reduceIte, Bool.false_eq_true]; rfl) (rfl)
      · refine g_iload_n d_X10_isDigit_22 rfl ?_
        refine g_bipush (v := 57) d_X10_isDigit_23 (by decide) ?_
        refine g_icmp_gt (tgt := 32) d_X10_isDigit_25 (by decide) (fun c_25 => ?_) (fun c_25 => ?_)
        · refine g_iconst (v := 0) d_X10_isDigit_32 (by decide) ?_
          exact g_retZ d_X10_isDigit_33 rfl (by decide) (by simp only [digF, eq_true c_1, eq_false c_14, eq_false c_19, eq_true c_25, ↓reduceIte, Bool.false_eq_true]; rfl) (rfl)
        · refine g_iconst (v := 1) d_X10_isDigit_28 (by decide) ?_
          refine g_goto (tgt := 33) d_X10_isDigit_29 (by decide) ?_
          exact g_retZ d_X10_isDigit_33 rfl (by decide) (by simp only [digF, eq_true c_1, eq_false c_14, eq_false c_19, eq_false c_25, ↓reduceIte, Bool.false_eq_true]; rfl) (rfl)
def fsL (f : Nat → Int32) (N : Int32) : Nat → Nat → Int32 → Int32
  | 0, _, d => if N = 0 then N else if d ≤ 0 then -1 else N
  | n + 1, k, d => if sIx LET (iAt f (nI k)) < 0 then (if digF (iAt f (nI k)) d = true then fsL f N n (k + 1) (d + 1) else nI k) else fsL f N n (k + 1) 0
theorem d_X10_faultAsSteps_0 : decode (mB M_X10_faultAsSteps) 0 = .ok (.iconst 0, 1) := by decide +kernel
theorem d_X10_faultAsSteps_1 : decode (mB M_X10_faultAsSteps) 1 = .ok (.istore_n 2, 1) := by decide +kernel
theorem d_X10_faultAsSteps_2 : decode (mB M_X10_faultAsSteps) 2 = .ok (.iconst 0, 1) := by decide +kernel
theorem d_X10_faultAsSteps_3 : decode (mB M_X10_faultAsSteps) 3 = .ok (.istore_n 3, 1) := by decide +kernel
theorem d_X10_faultAsSteps_4 : decode (mB M_X10_faultAsSteps) 4 = .ok (.iload_n 3, 1) := by decide +kernel
theorem d_X10_faultAsSteps_5 : decode (mB M_X10_faultAsSteps) 5 = .ok (.iload_n 1, 1) := by decide +kernel
theorem d_X10_faultAsSteps_6 : decode (mB M_X10_faultAsSteps) 6 = .ok (.if_icmp .ge 48, 3) := by decide +kernel
theorem d_X10_faultAsSteps_9 : decode (mB M_X10_faultAsSteps) 9 = .ok (.aload_n 0, 1) := by decide +kernel
theorem d_X10_faultAsSteps_10 : decode (mB M_X10_faultAsSteps) 10 = .ok (.iload_n 3, 1) := by decide +kernel
theorem d_X10_faultAsSteps_11 : decode (mB M_X10_faultAsSteps) 11 = .ok (.invokevirtual 19, 3) := by decide +kernel
theorem d_X10_faultAsSteps_14 : decode (mB M_X10_faultAsSteps) 14 = .ok (.istore 4, 2) := by decide +kernel
theorem d_X10_faultAsSteps_16 : decode (mB M_X10_faultAsSteps) 16 = .ok (.ldc 23, 2) := by decide +kernel
theorem d_X10_faultAsSteps_18 : decode (mB M_X10_faultAsSteps) 18 = .ok (.iload 4, 2) := by decide +kernel
theorem d_X10_faultAsSteps_20 : decode (mB M_X10_faultAsSteps) 20 = .ok (.invokevirtual 25, 3) := by decide +kernel
theorem d_X10_faultAsSteps_23 : decode (mB M_X10_faultAsSteps) 23 = .ok (.ifCond .lt 8, 3) := by decide +kernel
theorem d_X10_faultAsSteps_26 : decode (mB M_X10_faultAsSteps) 26 = .ok (.iconst 0, 1) := by decide +kernel
theorem d_X10_faultAsSteps_27 : decode (mB M_X10_faultAsSteps) 27 = .ok (.istore_n 2, 1) := by decide +kernel
theorem d_X10_faultAsSteps_28 : decode (mB M_X10_faultAsSteps) 28 = .ok (.goto 20, 3) := by decide +kernel
theorem d_X10_faultAsSteps_31 : decode (mB M_X10_faultAsSteps) 31 = .ok (.iload 4, 2) := by decide +kernel
theorem d_X10_faultAsSteps_33 : decode (mB M_X10_faultAsSteps) 33 = .ok (.iload_n 2, 1) := by decide +kernel
theorem d_X10_faultAsSteps_34 : decode (mB M_X10_faultAsSteps) 34 = .ok (.invokestatic 31, 3) := by decide +kernel
theorem d_X10_faultAsSteps_37 : decode (mB M_X10_faultAsSteps) 37 = .ok (.ifCond .eq 9, 3) := by decide +kernel
theorem d_X10_faultAsSteps_40 : decode (mB M_X10_faultAsSteps) 40 = .ok (.iinc 2 1, 3) := by decide +kernel
theorem d_X10_faultAsSteps_43 : decode (mB M_X10_faultAsSteps) 43 = .ok (.goto 5, 3) := by decide +kernel
theorem d_X10_faultAsSteps_46 : decode (mB M_X10_faultAsSteps) 46 = .ok (.iload_n 3, 1) := by decide +kernel
theorem d_X10_faultAsSteps_47 : decode (mB M_X10_faultAsSteps) 47 = .ok (.ireturn, 1) := by decide +kernel
theorem d_X10_faultAsSteps_48 : decode (mB M_X10_faultAsSteps) 48 = .ok (.iinc 3 1, 3) := by decide +kernel
theorem d_X10_faultAsSteps_51 : decode (mB M_X10_faultAsSteps) 51 = .ok (.goto (-47), 3) := by decide +kernel
theorem d_X10_faultAsSteps_54 : decode (mB M_X10_faultAsSteps) 54 = .ok (.iload_n 1, 1) := by decide +kernel
theorem d_X10_faultAsSteps_55 : decode (mB M_X10_faultAsSteps) 55 = .ok (.ifCond .eq 7, 3) := by decide +kernel
theorem d_X10_faultAsSteps_58 : decode (mB M_X10_faultAsSteps) 58 = .ok (.iload_n 2, 1) := by decide +kernel
theorem d_X10_faultAsSteps_59 : decode (mB M_X10_faultAsSteps) 59 = .ok (.ifCond .le 7, 3) := by decide +kernel
theorem d_X10_faultAsSteps_62 : decode (mB M_X10_faultAsSteps) 62 = .ok (.iload_n 1, 1) := by decide +kernel
theorem d_X10_faultAsSteps_63 : decode (mB M_X10_faultAsSteps) 63 = .ok (.goto 4, 3) := by decide +kernel
theorem d_X10_faultAsSteps_66 : decode (mB M_X10_faultAsSteps) 66 = .ok (.iconst (-1), 1) := by decide +kernel
theorem d_X10_faultAsSteps_67 : decode (mB M_X10_faultAsSteps) 67 = .ok (.ireturn, 1) := by decide +kernel
theorem l_fault {E : mEnv} (hE : E.1.stackTraces = false) (m : List mE) (t : cT) (N : Nat) (hN : N < 2 ^ 31) (hch : chOk (tI t).1) : ∀ (n : Nat) (k : Nat) (d : Int32), k + n = N → Go E M_X10_faultAsSteps 0 (4, [some (.ref 101), some (.int (nI N)), some (.int d), some (.int (nI k)), none], [], (m, cw t)) (.inr (.inl (some (.int (fsL (tI t).1 (nI N) n k d)), (m, cw t)))) := by
  intro n
  induction n with
  | zero =>
    intro k d hk
    obtain rfl : k = N := by omega
    refine g_iload_n d_X10_faultAsSteps_4 rfl ?_
    refine g_iload_n d_X10_faultAsSteps_5 rfl ?_
    refine g_icmp_ge (tgt := 54) d_X10_faultAsSteps_6 (by decide) (fun c_6 => ?_) (fun c_6 => absurd c_6 (absurd (nI_le (Nat.le_refl k) hN) c_6))
    refine g_iload_n d_X10_faultAsSteps_54 rfl ?_
    refine g_if_eq (tgt := 62) d_X10_faultAsSteps_55 (by decide) (fun c_55 => ?_) (fun c_55 => ?_)
    · refine g_iload_n d_X10_faultAsSteps_62 rfl ?_
      refine g_goto (tgt := 67) d_X10_faultAsSteps_63 (by decide) ?_
      exact g_retI d_X10_faultAsSteps_67 rfl (by simp only [fsL, eq_true c_55, ↓reduceIte, Bool.false_eq_true]) (rfl)
    · refine g_iload_n d_X10_faultAsSteps_58 rfl ?_
      refine g_if_le (tgt := 66) d_X10_faultAsSteps_59 (by decide) (fun c_59 => ?_) (fun c_59 => ?_)
      · refine g_iconst (v := (-1)) d_X10_faultAsSteps_66 (by decide) ?_
        exact g_retI d_X10_faultAsSteps_67 rfl (by simp only [fsL, eq_false c_55, eq_true c_59, ↓reduceIte, Bool.false_eq_true]) (rfl)
      · refine g_iload_n d_X10_faultAsSteps_62 rfl ?_
        refine g_goto (tgt := 67) d_X10_faultAsSteps_63 (by decide) ?_
        exact g_retI d_X10_faultAsSteps_67 rfl (by simp only [fsL, eq_false c_55, eq_false c_59, ↓reduceIte, Bool.false_eq_true]) (rfl)
  | succ n ih =>
    intro k d hk
    refine g_iload_n d_X10_faultAsSteps_4 rfl ?_
    refine g_iload_n d_X10_faultAsSteps_5 rfl ?_
    refine g_icmp_ge (tgt := 54) d_X10_faultAsSteps_6 (by decide) (fun c_6 => absurd c_6 (nI_ge (a := k) (b := N) (by omega) hN)) (fun c_6 => ?_)
    refine g_aload_n d_X10_faultAsSteps_9 rfl ?_
    refine g_iload_n d_X10_faultAsSteps_10 rfl ?_
    refine g_callV (As := [.int (nI k)]) d_X10_faultAsSteps_11 o_X10_at l_X10_19 ⟨Nat.le_of_ble_eq_true rfl, Nat.le_of_ble_eq_true rfl⟩ (c_iat hE m t (nI k) hch) rfl rfl rfl rfl rfl rfl ?_ (Nat.zero_add _)
    refine g_istore (L' := [some (.ref 101), some (.int (nI N)), some (.int d), some (.int (nI k)), some (.int (iAt (tI t).1 (nI k)))]) d_X10_faultAsSteps_14 rfl rfl ?_
    refine g_ldcS (j := 1) d_X10_faultAsSteps_16 (List.mem_of_getElem? (i := 1) rfl) (List.mem_of_getElem? (i := 20) rfl) ?_
    refine g_iload d_X10_faultAsSteps_18 rfl ?_
    refine g_callVs (As := [.int (iAt (tI t).1 (nI k))]) (r := 1001) d_X10_faultAsSteps_20 o_J0_indexOf_0f7a4 l_X10_25 ⟨Nat.le_of_ble_eq_true rfl, Nat.le_of_ble_eq_true rfl⟩ (c_indexOf hE _ (List.mem_of_getElem? (i := 1) rfl) _ (iAt (tI t).1 (nI k)) (by decide)) (List.mem_of_getElem? (i := 1) rfl) rfl rfl rfl rfl rfl ?_ (Nat.zero_add _)
    refine g_if_lt (tgt := 31) d_X10_faultAsSteps_23 (by decide) (fun c_23 => ?_) (fun c_23 => ?_)
    · refine g_iload d_X10_faultAsSteps_31 rfl ?_
      refine g_iload_n d_X10_faultAsSteps_33 rfl ?_
      refine g_callS (As := [.int (iAt (tI t).1 (nI k)), .int d]) d_X10_faultAsSteps_34 o_X10_isDigit l_X10_31 ⟨Nat.le_of_ble_eq_true rfl, Nat.le_of_ble_eq_true rfl⟩ (c_isDigit hE (iAt (tI t).1 (nI k)) d _) rfl rfl ?_ (Nat.zero_add _)
      refine g_ifb_eq (tgt := 46) d_X10_faultAsSteps_37 (by decide) (fun c_37 => ?_) (fun c_37 => ?_)
      · refine g_iload_n d_X10_faultAsSteps_46 rfl ?_
        exact g_retI d_X10_faultAsSteps_47 rfl (by simp only [fsL, eq_true c_23, c_37, ↓reduceIte, Bool.false_eq_true]) (rfl)
      · refine g_iinc (v := (d + 1)) (L' := [some (.ref 101), some (.int (nI N)), some (.int (d + 1)), some (.int (nI k)), some (.int (iAt (tI t).1 (nI k)))]) d_X10_faultAsSteps_40 rfl rfl rfl ?_
        refine g_goto (tgt := 48) d_X10_faultAsSteps_43 (by decide) ?_
        refine g_iinc (v := ((nI k) + 1)) (L' := [some (.ref 101), some (.int (nI N)), some (.int (d + 1)), some (.int ((nI k) + 1)), some (.int (iAt (tI t).1 (nI k)))]) d_X10_faultAsSteps_48 rfl rfl rfl ?_
        refine g_goto (tgt := 4) d_X10_faultAsSteps_51 (by decide) ?_
        refine g_drop [4] (L1 := [some (.ref 101), some (.int (nI N)), some (.int (d + 1)), some (.int ((nI k) + 1)), none]) rfl ?_
        refine g_eq (S' := (4, [some (.ref 101), some (.int (nI N)), some (.int (d + 1)), some (.int (nI (k + 1))), none], [], (m, cw t))) (by first | rfl | (rw [nI_1]; rfl) | (simp only [nI_1]; rfl) | simp only [nI_1]) ?_
        rw [show fsL (tI t).1 (nI N) (n + 1) k d = fsL (tI t).1 (nI N) n (k + 1) (d + 1) by simp only [fsL, eq_true c_23, c_37, ↓reduceIte]]
        exact ih (k + 1) _ (by omega)
    · refine g_iconst (v := 0) d_X10_faultAsSteps_26 (by decide) ?_
      refine g_istore_n (L' := [some (.ref 101), some (.int (nI N)), some (.int 0), some (.int (nI k)), some (.int (iAt (tI t).1 (nI k)))]) d_X10_faultAsSteps_27 rfl rfl ?_
      refine g_goto (tgt := 48) d_X10_faultAsSteps_28 (by decide) ?_
      refine g_iinc (v := ((nI k) + 1)) (L' := [some (.ref 101), some (.int (nI N)), some (.int 0), some (.int ((nI k) + 1)), some (.int (iAt (tI t).1 (nI k)))]) d_X10_faultAsSteps_48 rfl rfl rfl ?_
      refine g_goto (tgt := 4) d_X10_faultAsSteps_51 (by decide) ?_
      refine g_drop [4] (L1 := [some (.ref 101), some (.int (nI N)), some (.int 0), some (.int ((nI k) + 1)), none]) rfl ?_
      refine g_eq (S' := (4, [some (.ref 101), some (.int (nI N)), some (.int 0), some (.int (nI (k + 1))), none], [], (m, cw t))) (by first | rfl | (rw [nI_1]; rfl) | (simp only [nI_1]; rfl) | simp only [nI_1]) ?_
      rw [show fsL (tI t).1 (nI N) (n + 1) k d = fsL (tI t).1 (nI N) n (k + 1) 0 by simp only [fsL, eq_false c_23, ↓reduceIte]]
      exact ih (k + 1) _ (by omega)
theorem c_fault {E : mEnv} (hE : E.1.stackTraces = false) (m : List mE) (t : cT) (N : Nat) (hN : N < 2 ^ 31) (hch : chOk (tI t).1) : Rt E M_X10_faultAsSteps 0 [.ref 101, .int ((nI N))] ((m, cw t)) (some (.int (fsL (tI t).1 (nI N) N 0 0))) ((m, cw t)) := by
  refine Rt.of hE rfl pn_X10 (Nat.le_of_ble_eq_true rfl) ?_
  refine g_eq (S' := (0, [some (.ref 101), some (.int (nI N)), none, none, none], [], (m, cw t))) rfl ?_
  refine g_iconst (v := 0) d_X10_faultAsSteps_0 (by decide) ?_
  refine g_istore_n (L' := [some (.ref 101), some (.int (nI N)), some (.int 0), none, none]) d_X10_faultAsSteps_1 rfl rfl ?_
  refine g_iconst (v := 0) d_X10_faultAsSteps_2 (by decide) ?_
  refine g_istore_n (L' := [some (.ref 101), some (.int (nI N)), some (.int 0), some (.int 0), none]) d_X10_faultAsSteps_3 rfl rfl ?_
  refine g_eq (S' := (4, [some (.ref 101), some (.int (nI N)), some (.int 0), some (.int (nI 0)), none], [], (m, cw t))) (rfl) ?_
  exact l_fault hE m t N hN hch N 0 0 (by omega)
def ltrF (c : Int32) : Int32 := if c < 0 then 32 else if (nI 8 >>> ((0 : Int32) &&& 31)) ≤ c then 32 else sCh LET c.toNatClampNeg
theorem ltr_lt {c : Int32} (h0 : ¬ c < 0) (h1 : ¬ (nI 8 >>> ((0 : Int32) &&& 31)) ≤ c) : c.toNatClampNeg < 8 := by
  obtain ⟨j, hj, rfl⟩ := nI_of h0
  rw [nI_clamp hj]
  rw [sc_shr0 (by decide)] at h1
  rcases Nat.lt_or_ge j 8 with h | h
  · exact h
  · exact absurd (nI_le h hj) h1
theorem d_X11_letterOf_0 : decode (mB M_X11_letterOf) 0 = .ok (.iload_n 0, 1) := by decide +kernel
theorem d_X11_letterOf_1 : decode (mB M_X11_letterOf) 1 = .ok (.ifCond .lt 23, 3) := by decide +kernel
theorem d_X11_letterOf_4 : decode (mB M_X11_letterOf) 4 = .ok (.iload_n 0, 1) := by decide +kernel
theorem d_X11_letterOf_5 : decode (mB M_X11_letterOf) 5 = .ok (.ldc_w 417, 3) := by decide +kernel
theorem d_X11_letterOf_8 : decode (mB M_X11_letterOf) 8 = .ok (.invokevirtual 442, 3) := by decide +kernel
theorem d_X11_letterOf_11 : decode (mB M_X11_letterOf) 11 = .ok (.if_icmp .ge 13, 3) := by decide +kernel
theorem d_X11_letterOf_14 : decode (mB M_X11_letterOf) 14 = .ok (.ldc_w 417, 3) := by decide +kernel
theorem d_X11_letterOf_17 : decode (mB M_X11_letterOf) 17 = .ok (.iload_n 0, 1) := by decide +kernel
theorem d_X11_letterOf_18 : decode (mB M_X11_letterOf) 18 = .ok (.invokevirtual 444, 3) := by decide +kernel
theorem d_X11_letterOf_21 : decode (mB M_X11_letterOf) 21 = .ok (.goto 5, 3) := by decide +kernel
theorem d_X11_letterOf_24 : decode (mB M_X11_letterOf) 24 = .ok (.bipush 32, 2) := by decide +kernel
theorem d_X11_letterOf_26 : decode (mB M_X11_letterOf) 26 = .ok (.ireturn, 1) := by decide +kernel
theorem c_letterOf {E : mEnv} (hE : E.1.stackTraces = false) (c : Int32) (w : mW) : Rt E M_X11_letterOf 0 [.int c] w (some (.int (ltrF c))) w := by
  refine Rt.of hE rfl pn_X11 (Nat.le_of_ble_eq_true rfl) ?_
  refine g_eq (S' := (0, [some (.int c)], [], w)) rfl ?_
  refine g_iload_n d_X11_letterOf_0 rfl ?_
  refine g_if_lt (tgt := 24) d_X11_letterOf_1 (by decide) (fun c_1 => ?_) (fun c_1 => ?_)
  · refine g_bipush (v := 32) d_X11_letterOf_24 (by decide) ?_
    exact g_retC d_X11_letterOf_26 rfl (by first | decide | (unfold sCh; rw [sc_c2]; exact sc_nar _)) (by simp only [ltrF, eq_true c_1, ↓reduceIte, Bool.false_eq_true]) (rfl)
  · refine g_iload_n d_X11_letterOf_4 rfl ?_
    refine g_ldcSW (j := 2) d_X11_letterOf_5 (List.mem_of_getElem? (i := 2) rfl) (List.mem_of_getElem? (i := 21) rfl) ?_
    refine g_callVs (As := []) (r := 1002) d_X11_letterOf_8 o_J0_length_8abf5 l_X11_442 ⟨Nat.le_of_ble_eq_true rfl, Nat.le_of_ble_eq_true rfl⟩ (c_length hE _ (List.mem_of_getElem? (i := 2) rfl) _) (List.mem_of_getElem? (i := 2) rfl) rfl rfl rfl rfl rfl ?_ (Nat.zero_add _)
    refine g_eq (S' := (11, [some (.int c)], [.int (nI 8 >>> ((0 : Int32) &&& 31)), .int c], w)) rfl ?_
    refine g_icmp_ge (tgt := 24) d_X11_letterOf_11 (by decide) (fun c_11 => ?_) (fun c_11 => ?_)
    · refine g_bipush (v := 32) d_X11_letterOf_24 (by decide) ?_
      exact g_retC d_X11_letterOf_26 rfl (by first | decide | (unfold sCh; rw [sc_c2]; exact sc_nar _)) (by simp only [ltrF, eq_false c_1, eq_true c_11, ↓reduceIte, Bool.false_eq_true]) (rfl)
    · refine g_ldcSW (j := 2) d_X11_letterOf_14 (List.mem_of_getElem? (i := 2) rfl) (List.mem_of_getElem? (i := 21) rfl) ?_
      refine g_iload_n d_X11_letterOf_17 rfl ?_
      refine g_eq (S' := (18, [some (.int c)], [.int (nI c.toNatClampNeg), .ref 1002], w)) (by rw [← nI_cl c_1]) ?_
      refine g_callVs (As := [.int (nI c.toNatClampNeg)]) (r := 1002) d_X11_letterOf_18 o_J0_charAt_5068e l_X11_444 ⟨Nat.le_of_ble_eq_true rfl, Nat.le_of_ble_eq_true rfl⟩ (c_charAt hE _ (List.mem_of_getElem? (i := 2) rfl) _ _ (ltr_lt c_1 c_11) (by decide)) (List.mem_of_getElem? (i := 2) rfl) rfl rfl rfl rfl rfl ?_ (Nat.zero_add _)
      refine g_eq (S' := (21, [some (.int c)], [.int (sCh LET c.toNatClampNeg)], w)) rfl ?_
      refine g_goto (tgt := 26) d_X11_letterOf_21 (by decide) ?_
      exact g_retC d_X11_letterOf_26 rfl (by first | decide | (unfold sCh; rw [sc_c2]; exact sc_nar _)) (by simp only [ltrF, eq_false c_1, eq_false c_11, ↓reduceIte, Bool.false_eq_true]) (rfl)
