/-! the model, further -/
def f_goes (t : xT) (a0 : Int32) : Option (Int32 × xT) :=
  Option.bind (f_beside t ((ra t 1) (Int32.toNatClampNeg 3)) a0) fun r_8 =>
  Option.bind (f_isBox t r_8) fun r_14 =>
  Option.bind (if r_14 = 0 then (some (0 : Int32))
    else (some (1 : Int32))) fun (r_17 : Int32) =>
  Option.bind (if r_17 = 1 then (if inB (74 + r_8) 602 = true then (Option.bind (some (wa t 1 (upd (ra t 1) (Int32.toNatClampNeg (74 + r_8)) 0))) fun t_40 =>
      Option.bind (f_beside t_40 r_8 a0) fun r_50 =>
      if inB (74 + r_50) 602 = true then (Option.bind (some (wa t_40 1 (upd (ra t_40 1) (Int32.toNatClampNeg (74 + r_50)) 1))) fun t_55 =>
      some t_55) else none) else none)
    else (some t)) fun (r_28 : xT) =>
  Option.bind (some (wa r_28 1 (upd (ra r_28 1) (Int32.toNatClampNeg 3) r_8))) fun t_62 =>
  Option.bind (if 400 ≤ ((ra t_62 1) (Int32.toNatClampNeg 4)) then (some t_62)
    else (if inB (202 + ((ra t_62 1) (Int32.toNatClampNeg 4))) 602 = true then (Option.bind (some (wa t_62 1 (upd (ra t_62 1) (Int32.toNatClampNeg (202 + ((ra t_62 1) (Int32.toNatClampNeg 4)))) (a0 + (4 * r_17))))) fun t_94 =>
      some t_94) else none)) fun (r_72 : xT) =>
  Option.bind (some (wa r_72 1 (upd (ra r_72 1) (Int32.toNatClampNeg 4) (((ra r_72 1) (Int32.toNatClampNeg 4)) + 1)))) fun t_104 =>
  some (r_17, t_104)
theorem d_X12_goes_0 : decode (mB M_X12_goes) 0 = .ok (.aload_n 0, 1) := by decide +kernel
theorem d_X12_goes_1 : decode (mB M_X12_goes) 1 = .ok (.aload_n 0, 1) := by decide +kernel
theorem d_X12_goes_2 : decode (mB M_X12_goes) 2 = .ok (.getfield 7, 3) := by decide +kernel
theorem d_X12_goes_5 : decode (mB M_X12_goes) 5 = .ok (.iconst 3, 1) := by decide +kernel
theorem d_X12_goes_6 : decode (mB M_X12_goes) 6 = .ok (.iaload, 1) := by decide +kernel
theorem d_X12_goes_7 : decode (mB M_X12_goes) 7 = .ok (.iload_n 1, 1) := by decide +kernel
theorem d_X12_goes_8 : decode (mB M_X12_goes) 8 = .ok (.invokevirtual 136, 3) := by decide +kernel
theorem d_X12_goes_11 : decode (mB M_X12_goes) 11 = .ok (.istore_n 2, 1) := by decide +kernel
theorem d_X12_goes_12 : decode (mB M_X12_goes) 12 = .ok (.aload_n 0, 1) := by decide +kernel
theorem d_X12_goes_13 : decode (mB M_X12_goes) 13 = .ok (.iload_n 2, 1) := by decide +kernel
theorem d_X12_goes_14 : decode (mB M_X12_goes) 14 = .ok (.invokevirtual 124, 3) := by decide +kernel
theorem d_X12_goes_17 : decode (mB M_X12_goes) 17 = .ok (.ifCond .eq 7, 3) := by decide +kernel
theorem d_X12_goes_20 : decode (mB M_X12_goes) 20 = .ok (.iconst 1, 1) := by decide +kernel
theorem d_X12_goes_21 : decode (mB M_X12_goes) 21 = .ok (.goto 4, 3) := by decide +kernel
theorem d_X12_goes_24 : decode (mB M_X12_goes) 24 = .ok (.iconst 0, 1) := by decide +kernel
theorem d_X12_goes_25 : decode (mB M_X12_goes) 25 = .ok (.istore_n 3, 1) := by decide +kernel
theorem d_X12_goes_26 : decode (mB M_X12_goes) 26 = .ok (.iload_n 3, 1) := by decide +kernel
theorem d_X12_goes_27 : decode (mB M_X12_goes) 27 = .ok (.iconst 1, 1) := by decide +kernel
theorem d_X12_goes_28 : decode (mB M_X12_goes) 28 = .ok (.if_icmp .ne 28, 3) := by decide +kernel
theorem d_X12_goes_31 : decode (mB M_X12_goes) 31 = .ok (.aload_n 0, 1) := by decide +kernel
theorem d_X12_goes_32 : decode (mB M_X12_goes) 32 = .ok (.getfield 7, 3) := by decide +kernel
theorem d_X12_goes_35 : decode (mB M_X12_goes) 35 = .ok (.bipush 74, 2) := by decide +kernel
theorem d_X12_goes_37 : decode (mB M_X12_goes) 37 = .ok (.iload_n 2, 1) := by decide +kernel
theorem d_X12_goes_38 : decode (mB M_X12_goes) 38 = .ok (.iadd, 1) := by decide +kernel
theorem d_X12_goes_39 : decode (mB M_X12_goes) 39 = .ok (.iconst 0, 1) := by decide +kernel
theorem d_X12_goes_40 : decode (mB M_X12_goes) 40 = .ok (.iastore, 1) := by decide +kernel
theorem d_X12_goes_41 : decode (mB M_X12_goes) 41 = .ok (.aload_n 0, 1) := by decide +kernel
theorem d_X12_goes_42 : decode (mB M_X12_goes) 42 = .ok (.getfield 7, 3) := by decide +kernel
theorem d_X12_goes_45 : decode (mB M_X12_goes) 45 = .ok (.bipush 74, 2) := by decide +kernel
theorem d_X12_goes_47 : decode (mB M_X12_goes) 47 = .ok (.aload_n 0, 1) := by decide +kernel
theorem d_X12_goes_48 : decode (mB M_X12_goes) 48 = .ok (.iload_n 2, 1) := by decide +kernel
theorem d_X12_goes_49 : decode (mB M_X12_goes) 49 = .ok (.iload_n 1, 1) := by decide +kernel
theorem d_X12_goes_50 : decode (mB M_X12_goes) 50 = .ok (.invokevirtual 136, 3) := by decide +kernel
theorem d_X12_goes_53 : decode (mB M_X12_goes) 53 = .ok (.iadd, 1) := by decide +kernel
theorem d_X12_goes_54 : decode (mB M_X12_goes) 54 = .ok (.iconst 1, 1) := by decide +kernel
theorem d_X12_goes_55 : decode (mB M_X12_goes) 55 = .ok (.iastore, 1) := by decide +kernel
theorem d_X12_goes_56 : decode (mB M_X12_goes) 56 = .ok (.aload_n 0, 1) := by decide +kernel
theorem d_X12_goes_57 : decode (mB M_X12_goes) 57 = .ok (.getfield 7, 3) := by decide +kernel
theorem d_X12_goes_60 : decode (mB M_X12_goes) 60 = .ok (.iconst 3, 1) := by decide +kernel
theorem d_X12_goes_61 : decode (mB M_X12_goes) 61 = .ok (.iload_n 2, 1) := by decide +kernel
theorem d_X12_goes_62 : decode (mB M_X12_goes) 62 = .ok (.iastore, 1) := by decide +kernel
theorem d_X12_goes_63 : decode (mB M_X12_goes) 63 = .ok (.aload_n 0, 1) := by decide +kernel
theorem d_X12_goes_64 : decode (mB M_X12_goes) 64 = .ok (.getfield 7, 3) := by decide +kernel
theorem d_X12_goes_67 : decode (mB M_X12_goes) 67 = .ok (.iconst 4, 1) := by decide +kernel
theorem d_X12_goes_68 : decode (mB M_X12_goes) 68 = .ok (.iaload, 1) := by decide +kernel
theorem d_X12_goes_69 : decode (mB M_X12_goes) 69 = .ok (.sipush 400, 3) := by decide +kernel
theorem d_X12_goes_72 : decode (mB M_X12_goes) 72 = .ok (.if_icmp .ge 23, 3) := by decide +kernel
theorem d_X12_goes_75 : decode (mB M_X12_goes) 75 = .ok (.aload_n 0, 1) := by decide +kernel
theorem d_X12_goes_76 : decode (mB M_X12_goes) 76 = .ok (.getfield 7, 3) := by decide +kernel
theorem d_X12_goes_79 : decode (mB M_X12_goes) 79 = .ok (.sipush 202, 3) := by decide +kernel
theorem d_X12_goes_82 : decode (mB M_X12_goes) 82 = .ok (.aload_n 0, 1) := by decide +kernel
theorem d_X12_goes_83 : decode (mB M_X12_goes) 83 = .ok (.getfield 7, 3) := by decide +kernel
theorem d_X12_goes_86 : decode (mB M_X12_goes) 86 = .ok (.iconst 4, 1) := by decide +kernel
theorem d_X12_goes_87 : decode (mB M_X12_goes) 87 = .ok (.iaload, 1) := by decide +kernel
theorem d_X12_goes_88 : decode (mB M_X12_goes) 88 = .ok (.iadd, 1) := by decide +kernel
theorem d_X12_goes_89 : decode (mB M_X12_goes) 89 = .ok (.iload_n 1, 1) := by decide +kernel
theorem d_X12_goes_90 : decode (mB M_X12_goes) 90 = .ok (.iconst 4, 1) := by decide +kernel
theorem d_X12_goes_91 : decode (mB M_X12_goes) 91 = .ok (.iload_n 3, 1) := by decide +kernel
theorem d_X12_goes_92 : decode (mB M_X12_goes) 92 = .ok (.imul, 1) := by decide +kernel
theorem d_X12_goes_93 : decode (mB M_X12_goes) 93 = .ok (.iadd, 1) := by decide +kernel
theorem d_X12_goes_94 : decode (mB M_X12_goes) 94 = .ok (.iastore, 1) := by decide +kernel
theorem d_X12_goes_95 : decode (mB M_X12_goes) 95 = .ok (.aload_n 0, 1) := by decide +kernel
theorem d_X12_goes_96 : decode (mB M_X12_goes) 96 = .ok (.getfield 7, 3) := by decide +kernel
theorem d_X12_goes_99 : decode (mB M_X12_goes) 99 = .ok (.iconst 4, 1) := by decide +kernel
theorem d_X12_goes_100 : decode (mB M_X12_goes) 100 = .ok (.dup2, 1) := by decide +kernel
theorem d_X12_goes_101 : decode (mB M_X12_goes) 101 = .ok (.iaload, 1) := by decide +kernel
theorem d_X12_goes_102 : decode (mB M_X12_goes) 102 = .ok (.iconst 1, 1) := by decide +kernel
theorem d_X12_goes_103 : decode (mB M_X12_goes) 103 = .ok (.iadd, 1) := by decide +kernel
theorem d_X12_goes_104 : decode (mB M_X12_goes) 104 = .ok (.iastore, 1) := by decide +kernel
theorem d_X12_goes_105 : decode (mB M_X12_goes) 105 = .ok (.iload_n 3, 1) := by decide +kernel
theorem d_X12_goes_106 : decode (mB M_X12_goes) 106 = .ok (.ireturn, 1) := by decide +kernel
theorem c_m_goes {E : mEnv} (hE : E.1.stackTraces = false) (C : List mE) (t : xT) (a0 : Int32) (r : Int32 × xT) (h : f_goes t a0 = some r) : Rt E M_X12_goes 0 [.ref 0, .int a0] (mw t, C) (some (.int r.1)) (mw r.2, C) := by
  unfold f_goes at h
  refine Rt.of hE rfl pn_X12 (Nat.le_of_ble_eq_true rfl) ?_
  refine g_eq (S' := (0, [some (.ref 0), some (.int a0), none, none], [], (mw t, C))) rfl ?_
  refine g_aload_n d_X12_goes_0 rfl ?_
  refine g_aload_n d_X12_goes_1 rfl ?_
  refine g_getf d_X12_goes_2 f_X12_7 (gm0 t C) rfl ?_
  refine g_iconst (v := 3) d_X12_goes_5 (by decide) ?_
  refine g_iald d_X12_goes_6 (gm_1 t C) (inB_in (by decide)) ?_
  refine g_iload_n d_X12_goes_7 rfl ?_
  obtain ⟨r_8, h_8, h⟩ := obind h
  refine g_callV (As := [.int ((ra t 1) (Int32.toNatClampNeg 3)), .int a0]) d_X12_goes_8 o_X12_beside l_X12_136 ⟨Nat.le_of_ble_eq_true rfl, Nat.le_of_ble_eq_true rfl⟩ (c_m_beside hE C t ((ra t 1) (Int32.toNatClampNeg 3)) a0 _ h_8) (gm0 t C) rfl rfl rfl rfl rfl ?_ (Nat.zero_add _)
  refine g_istore_n (L' := [some (.ref 0), some (.int a0), some (.int r_8), none]) d_X12_goes_11 rfl rfl ?_
  refine g_aload_n d_X12_goes_12 rfl ?_
  refine g_iload_n d_X12_goes_13 rfl ?_
  obtain ⟨r_14, h_14, h⟩ := obind h
  refine g_callV (As := [.int r_8]) d_X12_goes_14 o_X12_isBox l_X12_124 ⟨Nat.le_of_ble_eq_true rfl, Nat.le_of_ble_eq_true rfl⟩ (c_m_isBox hE C t r_8 _ h_14) (gm0 t C) rfl rfl rfl rfl rfl ?_ (Nat.zero_add _)
  obtain ⟨r_17, h_17, hh_17⟩ := obind h
  refine Go.trans0 (S1 := (25, [some (.ref 0), some (.int a0), some (.int r_8), none], [.int r_17], (mw t, C))) ?_ ?_
  · replace h := h_17
    clear hh_17
    refine g_if_eq (tgt := 24) d_X12_goes_17 (by decide) (fun c_17 => ?_) (fun c_17 => ?_)
    · replace h := opos c_17 h
      refine g_iconst (v := 0) d_X12_goes_24 (by decide) ?_
      obtain rfl := osome h
      exact g_end rfl
    · replace h := oneg c_17 h
      refine g_iconst (v := 1) d_X12_goes_20 (by decide) ?_
      refine g_goto (tgt := 25) d_X12_goes_21 (by decide) ?_
      obtain rfl := osome h
      exact g_end rfl
  replace h := hh_17
  refine g_istore_n (L' := [some (.ref 0), some (.int a0), some (.int r_8), some (.int r_17)]) d_X12_goes_25 rfl rfl ?_
  refine g_iload_n d_X12_goes_26 rfl ?_
  refine g_iconst (v := 1) d_X12_goes_27 (by decide) ?_
  obtain ⟨r_28, h_28, hh_28⟩ := obind h
  refine Go.trans0 (S1 := (56, [some (.ref 0), some (.int a0), some (.int r_8), some (.int r_17)], [], (mw r_28, C))) ?_ ?_
  · replace h := h_28
    clear hh_28
    refine g_icmp_ne (tgt := 56) d_X12_goes_28 (by decide) (fun c_28 => ?_) (fun c_28 => ?_)
    · replace h := oneg c_28 h
      obtain rfl := osome h
      exact g_end rfl
    · replace h := opos c_28 h
      refine g_aload_n d_X12_goes_31 rfl ?_
      refine g_getf d_X12_goes_32 f_X12_7 (gm0 t C) rfl ?_
      refine g_bipush (v := 74) d_X12_goes_35 (by decide) ?_
      refine g_iload_n d_X12_goes_37 rfl ?_
      refine g_iadd d_X12_goes_38 ?_
      refine g_iconst (v := 0) d_X12_goes_39 (by decide) ?_
      obtain ⟨i_40, h⟩ := ochk h
      obtain ⟨t_40, e_40, h⟩ := olet h
      refine g_iast (w' := (mw t_40, C)) d_X12_goes_40 (gm_1 t C) (inB_in i_40) (by rw [e_40]; exact st_1 t C _) ?_
      refine g_aload_n d_X12_goes_41 rfl ?_
      refine g_getf d_X12_goes_42 f_X12_7 (gm0 t_40 C) rfl ?_
      refine g_bipush (v := 74) d_X12_goes_45 (by decide) ?_
      refine g_aload_n d_X12_goes_47 rfl ?_
      refine g_iload_n d_X12_goes_48 rfl ?_
      refine g_iload_n d_X12_goes_49 rfl ?_
      obtain ⟨r_50, h_50, h⟩ := obind h
      refine g_callV (As := [.int r_8, .int a0]) d_X12_goes_50 o_X12_beside l_X12_136 ⟨Nat.le_of_ble_eq_true rfl, Nat.le_of_ble_eq_true rfl⟩ (c_m_beside hE C t_40 r_8 a0 _ h_50) (gm0 t_40 C) rfl rfl rfl rfl rfl ?_ (Nat.zero_add _)
      refine g_iadd d_X12_goes_53 ?_
      refine g_iconst (v := 1) d_X12_goes_54 (by decide) ?_
      obtain ⟨i_55, h⟩ := ochk h
      obtain ⟨t_55, e_55, h⟩ := olet h
      refine g_iast (w' := (mw t_55, C)) d_X12_goes_55 (gm_1 t_40 C) (inB_in i_55) (by rw [e_55]; exact st_1 t_40 C _) ?_
      obtain rfl := osome h
      exact g_end rfl
  replace h := hh_28
  refine g_aload_n d_X12_goes_56 rfl ?_
  refine g_getf d_X12_goes_57 f_X12_7 (gm0 r_28 C) rfl ?_
  refine g_iconst (v := 3) d_X12_goes_60 (by decide) ?_
  refine g_iload_n d_X12_goes_61 rfl ?_
  obtain ⟨t_62, e_62, h⟩ := olet h
  refine g_iast (w' := (mw t_62, C)) d_X12_goes_62 (gm_1 r_28 C) (inB_in (by decide)) (by rw [e_62]; exact st_1 r_28 C _) ?_
  refine g_aload_n d_X12_goes_63 rfl ?_
  refine g_getf d_X12_goes_64 f_X12_7 (gm0 t_62 C) rfl ?_
  refine g_iconst (v := 4) d_X12_goes_67 (by decide) ?_
  refine g_iald d_X12_goes_68 (gm_1 t_62 C) (inB_in (by decide)) ?_
  refine g_sipush (v := 400) d_X12_goes_69 (by decide) ?_
  obtain ⟨r_72, h_72, hh_72⟩ := obind h
  refine Go.trans0 (S1 := (95, [some (.ref 0), none, none, some (.int r_17)], [], (mw r_72, C))) ?_ ?_
  · replace h := h_72
    clear hh_72
    refine g_icmp_ge (tgt := 95) d_X12_goes_72 (by decide) (fun c_72 => ?_) (fun c_72 => ?_)
    · replace h := opos c_72 h
      obtain rfl := osome h
      exact g_drop [1, 2] rfl (g_end rfl)
    · replace h := oneg c_72 h
      refine g_aload_n d_X12_goes_75 rfl ?_
      refine g_getf d_X12_goes_76 f_X12_7 (gm0 t_62 C) rfl ?_
      refine g_sipush (v := 202) d_X12_goes_79 (by decide) ?_
      refine g_aload_n d_X12_goes_82 rfl ?_
      refine g_getf d_X12_goes_83 f_X12_7 (gm0 t_62 C) rfl ?_
      refine g_iconst (v := 4) d_X12_goes_86 (by decide) ?_
      refine g_iald d_X12_goes_87 (gm_1 t_62 C) (inB_in (by decide)) ?_
      refine g_iadd d_X12_goes_88 ?_
      refine g_iload_n d_X12_goes_89 rfl ?_
      refine g_iconst (v := 4) d_X12_goes_90 (by decide) ?_
      refine g_iload_n d_X12_goes_91 rfl ?_
      refine g_imul d_X12_goes_92 ?_
      refine g_iadd d_X12_goes_93 ?_
      obtain ⟨i_94, h⟩ := ochk h
      obtain ⟨t_94, e_94, h⟩ := olet h
      refine g_iast (w' := (mw t_94, C)) d_X12_goes_94 (gm_1 t_62 C) (inB_in i_94) (by rw [e_94]; exact st_1 t_62 C _) ?_
      obtain rfl := osome h
      exact g_drop [1, 2] rfl (g_end rfl)
  replace h := hh_72
  refine g_aload_n d_X12_goes_95 rfl ?_
  refine g_getf d_X12_goes_96 f_X12_7 (gm0 r_72 C) rfl ?_
  refine g_iconst (v := 4) d_X12_goes_99 (by decide) ?_
  refine g_dup2_11 d_X12_goes_100 rfl rfl ?_
  refine g_iald d_X12_goes_101 (gm_1 r_72 C) (inB_in (by decide)) ?_
  refine g_iconst (v := 1) d_X12_goes_102 (by decide) ?_
  refine g_iadd d_X12_goes_103 ?_
  obtain ⟨t_104, e_104, h⟩ := olet h
  refine g_iast (w' := (mw t_104, C)) d_X12_goes_104 (gm_1 r_72 C) (inB_in (by decide)) (by rw [e_104]; exact st_1 r_72 C _) ?_
  refine g_iload_n d_X12_goes_105 rfl ?_
  obtain rfl := osome h
  exact g_retI d_X12_goes_106 rfl rfl rfl
def f_step (N : Nat) (t : xT) (a0 : Int32) : Option (Int32 × xT) :=
  Option.bind (f_in a0 0 3) fun r_4 =>
  Option.bind (if r_4 = 0 then (some (1 : Int32))
    else (Option.bind (f_hasRoom t) fun r_11 =>
      if r_11 = 0 then (some (2 : Int32))
      else (if ((ra t 1) (Int32.toNatClampNeg 4)) = 400 then (some (2 : Int32))
        else (some (0 : Int32))))) fun (r_7 : Int32) =>
  Option.bind (some (ws t 9 r_7)) fun t_38 =>
  if (rs t_38 9) ≤ 0 then (Option.bind (f_reasonForStep t_38 a0) fun r_52 =>
    if r_52.1 ≤ 0 then (Option.bind (f_remembers N r_52.2) fun r_68 =>
      Option.bind (f_commands N r_68) fun r_72 =>
      Option.bind (f_goes r_72 a0) fun r_77 =>
      some (r_77.1, r_77.2))
    else (Option.bind (f_keeps r_52.2 r_52.1 3) fun r_63 =>
      some (r_63.1, r_63.2)))
  else (some ((0 : Int32), t_38))
theorem d_X12_step_0 : decode (mB M_X12_step) 0 = .ok (.aload_n 0, 1) := by decide +kernel
theorem d_X12_step_1 : decode (mB M_X12_step) 1 = .ok (.iload_n 1, 1) := by decide +kernel
theorem d_X12_step_2 : decode (mB M_X12_step) 2 = .ok (.iconst 0, 1) := by decide +kernel
theorem d_X12_step_3 : decode (mB M_X12_step) 3 = .ok (.iconst 3, 1) := by decide +kernel
theorem d_X12_step_4 : decode (mB M_X12_step) 4 = .ok (.invokestatic 76, 3) := by decide +kernel
theorem d_X12_step_7 : decode (mB M_X12_step) 7 = .ok (.ifCond .eq 30, 3) := by decide +kernel
theorem d_X12_step_10 : decode (mB M_X12_step) 10 = .ok (.aload_n 0, 1) := by decide +kernel
theorem d_X12_step_11 : decode (mB M_X12_step) 11 = .ok (.invokevirtual 83, 3) := by decide +kernel
theorem d_X12_step_14 : decode (mB M_X12_step) 14 = .ok (.ifCond .eq 15, 3) := by decide +kernel
theorem d_X12_step_17 : decode (mB M_X12_step) 17 = .ok (.aload_n 0, 1) := by decide +kernel
theorem d_X12_step_18 : decode (mB M_X12_step) 18 = .ok (.getfield 7, 3) := by decide +kernel
theorem d_X12_step_21 : decode (mB M_X12_step) 21 = .ok (.iconst 4, 1) := by decide +kernel
theorem d_X12_step_22 : decode (mB M_X12_step) 22 = .ok (.iaload, 1) := by decide +kernel
theorem d_X12_step_23 : decode (mB M_X12_step) 23 = .ok (.sipush 400, 3) := by decide +kernel
theorem d_X12_step_26 : decode (mB M_X12_step) 26 = .ok (.if_icmp .ne 7, 3) := by decide +kernel
theorem d_X12_step_29 : decode (mB M_X12_step) 29 = .ok (.iconst 2, 1) := by decide +kernel
theorem d_X12_step_30 : decode (mB M_X12_step) 30 = .ok (.goto 8, 3) := by decide +kernel
theorem d_X12_step_33 : decode (mB M_X12_step) 33 = .ok (.iconst 0, 1) := by decide +kernel
theorem d_X12_step_34 : decode (mB M_X12_step) 34 = .ok (.goto 4, 3) := by decide +kernel
theorem d_X12_step_37 : decode (mB M_X12_step) 37 = .ok (.iconst 1, 1) := by decide +kernel
theorem d_X12_step_38 : decode (mB M_X12_step) 38 = .ok (.putfield 73, 3) := by decide +kernel
theorem d_X12_step_41 : decode (mB M_X12_step) 41 = .ok (.aload_n 0, 1) := by decide +kernel
theorem d_X12_step_42 : decode (mB M_X12_step) 42 = .ok (.getfield 73, 3) := by decide +kernel
theorem d_X12_step_45 : decode (mB M_X12_step) 45 = .ok (.ifCond .le 5, 3) := by decide +kernel
theorem d_X12_step_48 : decode (mB M_X12_step) 48 = .ok (.iconst 0, 1) := by decide +kernel
theorem d_X12_step_49 : decode (mB M_X12_step) 49 = .ok (.ireturn, 1) := by decide +kernel
theorem d_X12_step_50 : decode (mB M_X12_step) 50 = .ok (.aload_n 0, 1) := by decide +kernel
theorem d_X12_step_51 : decode (mB M_X12_step) 51 = .ok (.iload_n 1, 1) := by decide +kernel
theorem d_X12_step_52 : decode (mB M_X12_step) 52 = .ok (.invokevirtual 215, 3) := by decide +kernel
theorem d_X12_step_55 : decode (mB M_X12_step) 55 = .ok (.istore_n 2, 1) := by decide +kernel
theorem d_X12_step_56 : decode (mB M_X12_step) 56 = .ok (.iload_n 2, 1) := by decide +kernel
theorem d_X12_step_57 : decode (mB M_X12_step) 57 = .ok (.ifCond .le 10, 3) := by decide +kernel
theorem d_X12_step_60 : decode (mB M_X12_step) 60 = .ok (.aload_n 0, 1) := by decide +kernel
theorem d_X12_step_61 : decode (mB M_X12_step) 61 = .ok (.iload_n 2, 1) := by decide +kernel
theorem d_X12_step_62 : decode (mB M_X12_step) 62 = .ok (.iconst 3, 1) := by decide +kernel
theorem d_X12_step_63 : decode (mB M_X12_step) 63 = .ok (.invokevirtual 218, 3) := by decide +kernel
theorem d_X12_step_66 : decode (mB M_X12_step) 66 = .ok (.ireturn, 1) := by decide +kernel
theorem d_X12_step_67 : decode (mB M_X12_step) 67 = .ok (.aload_n 0, 1) := by decide +kernel
theorem d_X12_step_68 : decode (mB M_X12_step) 68 = .ok (.invokevirtual 221, 3) := by decide +kernel
theorem d_X12_step_71 : decode (mB M_X12_step) 71 = .ok (.aload_n 0, 1) := by decide +kernel
theorem d_X12_step_72 : decode (mB M_X12_step) 72 = .ok (.invokevirtual 224, 3) := by decide +kernel
theorem d_X12_step_75 : decode (mB M_X12_step) 75 = .ok (.aload_n 0, 1) := by decide +kernel
theorem d_X12_step_76 : decode (mB M_X12_step) 76 = .ok (.iload_n 1, 1) := by decide +kernel
theorem d_X12_step_77 : decode (mB M_X12_step) 77 = .ok (.invokevirtual 227, 3) := by decide +kernel
theorem d_X12_step_80 : decode (mB M_X12_step) 80 = .ok (.ireturn, 1) := by decide +kernel
theorem c_m_step {E : mEnv} (hE : E.1.stackTraces = false) (C : List mE) (N : Nat) (t : xT) (a0 : Int32) (r : Int32 × xT) (h : f_step N t a0 = some r) : Rt E M_X12_step 0 [.ref 0, .int a0] (mw t, C) (some (.int r.1)) (mw r.2, C) := by
  unfold f_step at h
  refine Rt.of hE rfl pn_X12 (Nat.le_of_ble_eq_true rfl) ?_
  refine g_eq (S' := (0, [some (.ref 0), some (.int a0), none], [], (mw t, C))) rfl ?_
  refine g_aload_n d_X12_step_0 rfl ?_
  refine g_iload_n d_X12_step_1 rfl ?_
  refine g_iconst (v := 0) d_X12_step_2 (by decide) ?_
  refine g_iconst (v := 3) d_X12_step_3 (by decide) ?_
  obtain ⟨r_4, h_4, h⟩ := obind h
  refine g_callS (As := [.int a0, .int 0, .int 3]) d_X12_step_4 o_X12_in l_X12_76 ⟨Nat.le_of_ble_eq_true rfl, Nat.le_of_ble_eq_true rfl⟩ (c_m_in hE C t a0 0 3 _ h_4) rfl rfl ?_ (Nat.zero_add _)
  obtain ⟨r_7, h_7, hh_7⟩ := obind h
  refine Go.trans0 (S1 := (38, [some (.ref 0), some (.int a0), none], [.int r_7, .ref 0], (mw t, C))) ?_ ?_
  · replace h := h_7
    clear hh_7
    refine g_if_eq (tgt := 37) d_X12_step_7 (by decide) (fun c_7 => ?_) (fun c_7 => ?_)
    · replace h := opos c_7 h
      refine g_iconst (v := 1) d_X12_step_37 (by decide) ?_
      obtain rfl := osome h
      exact g_end rfl
    · replace h := oneg c_7 h
      refine g_aload_n d_X12_step_10 rfl ?_
      obtain ⟨r_11, h_11, h⟩ := obind h
      refine g_callV (As := []) d_X12_step_11 o_X12_hasRoom l_X12_83 ⟨Nat.le_of_ble_eq_true rfl, Nat.le_of_ble_eq_true rfl⟩ (c_m_hasRoom hE C t _ h_11) (gm0 t C) rfl rfl rfl rfl rfl ?_ (Nat.zero_add _)
      refine g_if_eq (tgt := 29) d_X12_step_14 (by decide) (fun c_14 => ?_) (fun c_14 => ?_)
      · replace h := opos c_14 h
        refine g_iconst (v := 2) d_X12_step_29 (by decide) ?_
        refine g_goto (tgt := 38) d_X12_step_30 (by decide) ?_
        obtain rfl := osome h
        exact g_end rfl
      · replace h := oneg c_14 h
        refine g_aload_n d_X12_step_17 rfl ?_
        refine g_getf d_X12_step_18 f_X12_7 (gm0 t C) rfl ?_
        refine g_iconst (v := 4) d_X12_step_21 (by decide) ?_
        refine g_iald d_X12_step_22 (gm_1 t C) (inB_in (by decide)) ?_
        refine g_sipush (v := 400) d_X12_step_23 (by decide) ?_
        refine g_icmp_ne (tgt := 33) d_X12_step_26 (by decide) (fun c_26 => ?_) (fun c_26 => ?_)
        · replace h := oneg c_26 h
          refine g_iconst (v := 0) d_X12_step_33 (by decide) ?_
          refine g_goto (tgt := 38) d_X12_step_34 (by decide) ?_
          obtain rfl := osome h
          exact g_end rfl
        · replace h := opos c_26 h
          refine g_iconst (v := 2) d_X12_step_29 (by decide) ?_
          refine g_goto (tgt := 38) d_X12_step_30 (by decide) ?_
          obtain rfl := osome h
          exact g_end rfl
  replace h := hh_7
  obtain ⟨t_38, e_38, h⟩ := olet h
  refine g_putI (w' := (mw t_38, C)) d_X12_step_38 p_X12_73 rfl rfl (gm0 t C) (Nat.le_of_ble_eq_true rfl) (by rw [e_38]; exact sc_9 t C _) ?_
  refine g_aload_n d_X12_step_41 rfl ?_
  refine g_getf d_X12_step_42 f_X12_73 (gm0 t_38 C) rfl ?_
  refine g_if_le (tgt := 50) d_X12_step_45 (by decide) (fun c_45 => ?_) (fun c_45 => ?_)
  · replace h := opos c_45 h
    refine g_aload_n d_X12_step_50 rfl ?_
    refine g_iload_n d_X12_step_51 rfl ?_
    obtain ⟨r_52, h_52, h⟩ := obind h
    refine g_callV (As := [.int a0]) d_X12_step_52 o_X12_reasonForStep l_X12_215 ⟨Nat.le_of_ble_eq_true rfl, Nat.le_of_ble_eq_true rfl⟩ (c_m_reasonForStep hE C t_38 a0 _ h_52) (gm0 t_38 C) rfl rfl rfl rfl rfl ?_ (Nat.zero_add _)
    refine g_istore_n (L' := [some (.ref 0), some (.int a0), some (.int r_52.1)]) d_X12_step_55 rfl rfl ?_
    refine g_iload_n d_X12_step_56 rfl ?_
    refine g_if_le (tgt := 67) d_X12_step_57 (by decide) (fun c_57 => ?_) (fun c_57 => ?_)
    · replace h := opos c_57 h
      refine g_aload_n d_X12_step_67 rfl ?_
      obtain ⟨r_68, h_68, h⟩ := obind h
      refine g_callV (As := []) d_X12_step_68 o_X12_remembers l_X12_221 ⟨Nat.le_of_ble_eq_true rfl, Nat.le_of_ble_eq_true rfl⟩ (c_m_remembers hE C N r_52.2 _ h_68) (gm0 r_52.2 C) rfl rfl rfl rfl rfl ?_ (Nat.zero_add _)
      refine g_aload_n d_X12_step_71 rfl ?_
      obtain ⟨r_72, h_72, h⟩ := obind h
      refine g_callV (As := []) d_X12_step_72 o_X12_commands l_X12_224 ⟨Nat.le_of_ble_eq_true rfl, Nat.le_of_ble_eq_true rfl⟩ (c_m_commands hE C N r_68 _ h_72) (gm0 r_68 C) rfl rfl rfl rfl rfl ?_ (Nat.zero_add _)
      refine g_aload_n d_X12_step_75 rfl ?_
      refine g_iload_n d_X12_step_76 rfl ?_
      obtain ⟨r_77, h_77, h⟩ := obind h
      refine g_callV (As := [.int a0]) d_X12_step_77 o_X12_goes l_X12_227 ⟨Nat.le_of_ble_eq_true rfl, Nat.le_of_ble_eq_true rfl⟩ (c_m_goes hE C r_72 a0 _ h_77) (gm0 r_72 C) rfl rfl rfl rfl rfl ?_ (Nat.zero_add _)
      obtain rfl := osome h
      exact g_retI d_X12_step_80 rfl rfl rfl
    · replace h := oneg c_57 h
      refine g_aload_n d_X12_step_60 rfl ?_
      refine g_iload_n d_X12_step_61 rfl ?_
      refine g_iconst (v := 3) d_X12_step_62 (by decide) ?_
      obtain ⟨r_63, h_63, h⟩ := obind h
      refine g_callV (As := [.int r_52.1, .int 3]) d_X12_step_63 o_X12_keeps l_X12_218 ⟨Nat.le_of_ble_eq_true rfl, Nat.le_of_ble_eq_true rfl⟩ (c_m_keeps hE C r_52.2 r_52.1 3 _ h_63) (gm0 r_52.2 C) rfl rfl rfl rfl rfl ?_ (Nat.zero_add _)
      obtain rfl := osome h
      exact g_retI d_X12_step_66 rfl rfl rfl
  · replace h := oneg c_45 h
    refine g_iconst (v := 0) d_X12_step_48 (by decide) ?_
    obtain rfl := osome h
    exact g_retI d_X12_step_49 rfl rfl rfl
def f_pushStops (t : xT) (a0 : Int32) (a1 : Int32) : Option (Int32) :=
  Option.bind (f_in a1 0 3) fun r_3 =>
  if r_3 = 0 then (some (1 : Int32))
  else (Option.bind (f_hasRoom t) fun r_12 =>
    if r_12 = 0 then (some (2 : Int32))
    else (Option.bind (f_in a0 0 ((f_size t) - 1)) fun r_28 =>
      Option.bind (if r_28 = 0 then (some (3 : Int32))
        else (Option.bind (f_isBox t a0) fun r_36 =>
          if r_36 = 0 then (some (3 : Int32))
          else (some (0 : Int32)))) fun (r_31 : Int32) =>
      some r_31))
theorem d_X12_pushStops_0 : decode (mB M_X12_pushStops) 0 = .ok (.iload_n 2, 1) := by decide +kernel
theorem d_X12_pushStops_1 : decode (mB M_X12_pushStops) 1 = .ok (.iconst 0, 1) := by decide +kernel
theorem d_X12_pushStops_2 : decode (mB M_X12_pushStops) 2 = .ok (.iconst 3, 1) := by decide +kernel
theorem d_X12_pushStops_3 : decode (mB M_X12_pushStops) 3 = .ok (.invokestatic 76, 3) := by decide +kernel
theorem d_X12_pushStops_6 : decode (mB M_X12_pushStops) 6 = .ok (.ifCond .ne 5, 3) := by decide +kernel
theorem d_X12_pushStops_9 : decode (mB M_X12_pushStops) 9 = .ok (.iconst 1, 1) := by decide +kernel
theorem d_X12_pushStops_10 : decode (mB M_X12_pushStops) 10 = .ok (.ireturn, 1) := by decide +kernel
theorem d_X12_pushStops_11 : decode (mB M_X12_pushStops) 11 = .ok (.aload_n 0, 1) := by decide +kernel
theorem d_X12_pushStops_12 : decode (mB M_X12_pushStops) 12 = .ok (.invokevirtual 83, 3) := by decide +kernel
theorem d_X12_pushStops_15 : decode (mB M_X12_pushStops) 15 = .ok (.ifCond .ne 5, 3) := by decide +kernel
theorem d_X12_pushStops_18 : decode (mB M_X12_pushStops) 18 = .ok (.iconst 2, 1) := by decide +kernel
theorem d_X12_pushStops_19 : decode (mB M_X12_pushStops) 19 = .ok (.ireturn, 1) := by decide +kernel
theorem d_X12_pushStops_20 : decode (mB M_X12_pushStops) 20 = .ok (.iload_n 1, 1) := by decide +kernel
theorem d_X12_pushStops_21 : decode (mB M_X12_pushStops) 21 = .ok (.iconst 0, 1) := by decide +kernel
theorem d_X12_pushStops_22 : decode (mB M_X12_pushStops) 22 = .ok (.aload_n 0, 1) := by decide +kernel
theorem d_X12_pushStops_23 : decode (mB M_X12_pushStops) 23 = .ok (.invokevirtual 130, 3) := by decide +kernel
theorem d_X12_pushStops_26 : decode (mB M_X12_pushStops) 26 = .ok (.iconst 1, 1) := by decide +kernel
theorem d_X12_pushStops_27 : decode (mB M_X12_pushStops) 27 = .ok (.isub, 1) := by decide +kernel
theorem d_X12_pushStops_28 : decode (mB M_X12_pushStops) 28 = .ok (.invokestatic 76, 3) := by decide +kernel
theorem d_X12_pushStops_31 : decode (mB M_X12_pushStops) 31 = .ok (.ifCond .eq 15, 3) := by decide +kernel
theorem d_X12_pushStops_34 : decode (mB M_X12_pushStops) 34 = .ok (.aload_n 0, 1) := by decide +kernel
theorem d_X12_pushStops_35 : decode (mB M_X12_pushStops) 35 = .ok (.iload_n 1, 1) := by decide +kernel
theorem d_X12_pushStops_36 : decode (mB M_X12_pushStops) 36 = .ok (.invokevirtual 124, 3) := by decide +kernel
theorem d_X12_pushStops_39 : decode (mB M_X12_pushStops) 39 = .ok (.ifCond .eq 7, 3) := by decide +kernel
theorem d_X12_pushStops_42 : decode (mB M_X12_pushStops) 42 = .ok (.iconst 0, 1) := by decide +kernel
theorem d_X12_pushStops_43 : decode (mB M_X12_pushStops) 43 = .ok (.goto 4, 3) := by decide +kernel
theorem d_X12_pushStops_46 : decode (mB M_X12_pushStops) 46 = .ok (.iconst 3, 1) := by decide +kernel
theorem d_X12_pushStops_47 : decode (mB M_X12_pushStops) 47 = .ok (.ireturn, 1) := by decide +kernel
theorem c_m_pushStops {E : mEnv} (hE : E.1.stackTraces = false) (C : List mE) (t : xT) (a0 : Int32) (a1 : Int32) (r : Int32) (h : f_pushStops t a0 a1 = some r) : Rt E M_X12_pushStops 0 [.ref 0, .int a0, .int a1] (mw t, C) (some (.int r)) (mw t, C) := by
  unfold f_pushStops at h
  refine Rt.of hE rfl pn_X12 (Nat.le_of_ble_eq_true rfl) ?_
  refine g_eq (S' := (0, [some (.ref 0), some (.int a0), some (.int a1)], [], (mw t, C))) rfl ?_
  refine g_iload_n d_X12_pushStops_0 rfl ?_
  refine g_iconst (v := 0) d_X12_pushStops_1 (by decide) ?_
  refine g_iconst (v := 3) d_X12_pushStops_2 (by decide) ?_
  obtain ⟨r_3, h_3, h⟩ := obind h
  refine g_callS (As := [.int a1, .int 0, .int 3]) d_X12_pushStops_3 o_X12_in l_X12_76 ⟨Nat.le_of_ble_eq_true rfl, Nat.le_of_ble_eq_true rfl⟩ (c_m_in hE C t a1 0 3 _ h_3) rfl rfl ?_ (Nat.zero_add _)
  refine g_if_ne (tgt := 11) d_X12_pushStops_6 (by decide) (fun c_6 => ?_) (fun c_6 => ?_)
  · replace h := oneg c_6 h
    refine g_aload_n d_X12_pushStops_11 rfl ?_
    obtain ⟨r_12, h_12, h⟩ := obind h
    refine g_callV (As := []) d_X12_pushStops_12 o_X12_hasRoom l_X12_83 ⟨Nat.le_of_ble_eq_true rfl, Nat.le_of_ble_eq_true rfl⟩ (c_m_hasRoom hE C t _ h_12) (gm0 t C) rfl rfl rfl rfl rfl ?_ (Nat.zero_add _)
    refine g_if_ne (tgt := 20) d_X12_pushStops_15 (by decide) (fun c_15 => ?_) (fun c_15 => ?_)
    · replace h := oneg c_15 h
      refine g_iload_n d_X12_pushStops_20 rfl ?_
      refine g_iconst (v := 0) d_X12_pushStops_21 (by decide) ?_
      refine g_aload_n d_X12_pushStops_22 rfl ?_
      refine g_callV (As := []) d_X12_pushStops_23 o_X12_size l_X12_130 ⟨Nat.le_of_ble_eq_true rfl, Nat.le_of_ble_eq_true rfl⟩ (c_m_size hE C t) (gm0 t C) rfl rfl rfl rfl rfl ?_ (Nat.zero_add _)
      refine g_iconst (v := 1) d_X12_pushStops_26 (by decide) ?_
      refine g_isub d_X12_pushStops_27 ?_
      obtain ⟨r_28, h_28, h⟩ := obind h
      refine g_callS (As := [.int a0, .int 0, .int ((f_size t) - 1)]) d_X12_pushStops_28 o_X12_in l_X12_76 ⟨Nat.le_of_ble_eq_true rfl, Nat.le_of_ble_eq_true rfl⟩ (c_m_in hE C t a0 0 ((f_size t) - 1) _ h_28) rfl rfl ?_ (Nat.zero_add _)
      obtain ⟨r_31, h_31, hh_31⟩ := obind h
      refine Go.trans0 (S1 := (47, [none, none, none], [.int r_31], (mw t, C))) ?_ ?_
      · replace h := h_31
        clear hh_31
        refine g_if_eq (tgt := 46) d_X12_pushStops_31 (by decide) (fun c_31 => ?_) (fun c_31 => ?_)
        · replace h := opos c_31 h
          refine g_iconst (v := 3) d_X12_pushStops_46 (by decide) ?_
          obtain rfl := osome h
          exact g_drop [0, 1, 2] rfl (g_end rfl)
        · replace h := oneg c_31 h
          refine g_aload_n d_X12_pushStops_34 rfl ?_
          refine g_iload_n d_X12_pushStops_35 rfl ?_
          obtain ⟨r_36, h_36, h⟩ := obind h
          refine g_callV (As := [.int a0]) d_X12_pushStops_36 o_X12_isBox l_X12_124 ⟨Nat.le_of_ble_eq_true rfl, Nat.le_of_ble_eq_true rfl⟩ (c_m_isBox hE C t a0 _ h_36) (gm0 t C) rfl rfl rfl rfl rfl ?_ (Nat.zero_add _)
          refine g_if_eq (tgt := 46) d_X12_pushStops_39 (by decide) (fun c_39 => ?_) (fun c_39 => ?_)
          · replace h := opos c_39 h
            refine g_iconst (v := 3) d_X12_pushStops_46 (by decide) ?_
            obtain rfl := osome h
            exact g_drop [0, 1, 2] rfl (g_end rfl)
          · replace h := oneg c_39 h
            refine g_iconst (v := 0) d_X12_pushStops_42 (by decide) ?_
            refine g_goto (tgt := 47) d_X12_pushStops_43 (by decide) ?_
            obtain rfl := osome h
            exact g_drop [0, 1, 2] rfl (g_end rfl)
      replace h := hh_31
      obtain rfl := osome h
      exact g_retI d_X12_pushStops_47 rfl rfl rfl
    · replace h := opos c_15 h
      refine g_iconst (v := 2) d_X12_pushStops_18 (by decide) ?_
      obtain rfl := osome h
      exact g_retI d_X12_pushStops_19 rfl rfl rfl
  · replace h := opos c_6 h
    refine g_iconst (v := 1) d_X12_pushStops_9 (by decide) ?_
    obtain rfl := osome h
    exact g_retI d_X12_pushStops_10 rfl rfl rfl
def f_reasonForPush (N : Nat) (t : xT) (a0 : Int32) (a1 : Int32) : Option (Int32 × xT) :=
  Option.bind (f_opposite a1) fun r_3 =>
  Option.bind (f_beside t a0 r_3) fun r_6 =>
  Option.bind (f_walksFrom N t ((ra t 1) (Int32.toNatClampNeg 3))) fun r_17 =>
  Option.bind (some (ws r_17 26 a0)) fun t_22 =>
  Option.bind (f_isOpen t_22 r_6) fun r_27 =>
  if r_27 = 0 then (some ((4 : Int32), t_22))
  else (if inB r_6 64 = true then (if 0 ≤ ((ra t_22 7) (Int32.toNatClampNeg r_6)) then (Option.bind (f_reasonForBox t_22 a0 a1) fun r_47 =>
      some (r_47.1, r_47.2))
    else (some ((4 : Int32), t_22))) else none)
theorem d_X12_reasonForPush_0 : decode (mB M_X12_reasonForPush) 0 = .ok (.aload_n 0, 1) := by decide +kernel
theorem d_X12_reasonForPush_1 : decode (mB M_X12_reasonForPush) 1 = .ok (.iload_n 1, 1) := by decide +kernel
theorem d_X12_reasonForPush_2 : decode (mB M_X12_reasonForPush) 2 = .ok (.iload_n 2, 1) := by decide +kernel
theorem d_X12_reasonForPush_3 : decode (mB M_X12_reasonForPush) 3 = .ok (.invokestatic 140, 3) := by decide +kernel
theorem d_X12_reasonForPush_6 : decode (mB M_X12_reasonForPush) 6 = .ok (.invokevirtual 136, 3) := by decide +kernel
theorem d_X12_reasonForPush_9 : decode (mB M_X12_reasonForPush) 9 = .ok (.istore_n 3, 1) := by decide +kernel
theorem d_X12_reasonForPush_10 : decode (mB M_X12_reasonForPush) 10 = .ok (.aload_n 0, 1) := by decide +kernel
theorem d_X12_reasonForPush_11 : decode (mB M_X12_reasonForPush) 11 = .ok (.aload_n 0, 1) := by decide +kernel
theorem d_X12_reasonForPush_12 : decode (mB M_X12_reasonForPush) 12 = .ok (.getfield 7, 3) := by decide +kernel
theorem d_X12_reasonForPush_15 : decode (mB M_X12_reasonForPush) 15 = .ok (.iconst 3, 1) := by decide +kernel
theorem d_X12_reasonForPush_16 : decode (mB M_X12_reasonForPush) 16 = .ok (.iaload, 1) := by decide +kernel
theorem d_X12_reasonForPush_17 : decode (mB M_X12_reasonForPush) 17 = .ok (.invokevirtual 163, 3) := by decide +kernel
theorem d_X12_reasonForPush_20 : decode (mB M_X12_reasonForPush) 20 = .ok (.aload_n 0, 1) := by decide +kernel
theorem d_X12_reasonForPush_21 : decode (mB M_X12_reasonForPush) 21 = .ok (.iload_n 1, 1) := by decide +kernel
theorem d_X12_reasonForPush_22 : decode (mB M_X12_reasonForPush) 22 = .ok (.putfield 203, 3) := by decide +kernel
theorem d_X12_reasonForPush_25 : decode (mB M_X12_reasonForPush) 25 = .ok (.aload_n 0, 1) := by decide +kernel
theorem d_X12_reasonForPush_26 : decode (mB M_X12_reasonForPush) 26 = .ok (.iload_n 3, 1) := by decide +kernel
theorem d_X12_reasonForPush_27 : decode (mB M_X12_reasonForPush) 27 = .ok (.invokevirtual 121, 3) := by decide +kernel
theorem d_X12_reasonForPush_30 : decode (mB M_X12_reasonForPush) 30 = .ok (.ifCond .eq 12, 3) := by decide +kernel
theorem d_X12_reasonForPush_33 : decode (mB M_X12_reasonForPush) 33 = .ok (.aload_n 0, 1) := by decide +kernel
theorem d_X12_reasonForPush_34 : decode (mB M_X12_reasonForPush) 34 = .ok (.getfield 32, 3) := by decide +kernel
theorem d_X12_reasonForPush_37 : decode (mB M_X12_reasonForPush) 37 = .ok (.iload_n 3, 1) := by decide +kernel
theorem d_X12_reasonForPush_38 : decode (mB M_X12_reasonForPush) 38 = .ok (.iaload, 1) := by decide +kernel
theorem d_X12_reasonForPush_39 : decode (mB M_X12_reasonForPush) 39 = .ok (.ifCond .ge 5, 3) := by decide +kernel
theorem d_X12_reasonForPush_42 : decode (mB M_X12_reasonForPush) 42 = .ok (.iconst 4, 1) := by decide +kernel
theorem d_X12_reasonForPush_43 : decode (mB M_X12_reasonForPush) 43 = .ok (.ireturn, 1) := by decide +kernel
theorem d_X12_reasonForPush_44 : decode (mB M_X12_reasonForPush) 44 = .ok (.aload_n 0, 1) := by decide +kernel
theorem d_X12_reasonForPush_45 : decode (mB M_X12_reasonForPush) 45 = .ok (.iload_n 1, 1) := by decide +kernel
theorem d_X12_reasonForPush_46 : decode (mB M_X12_reasonForPush) 46 = .ok (.iload_n 2, 1) := by decide +kernel
theorem d_X12_reasonForPush_47 : decode (mB M_X12_reasonForPush) 47 = .ok (.invokevirtual 206, 3) := by decide +kernel
theorem d_X12_reasonForPush_50 : decode (mB M_X12_reasonForPush) 50 = .ok (.ireturn, 1) := by decide +kernel
theorem c_m_reasonForPush {E : mEnv} (hE : E.1.stackTraces = false) (C : List mE) (N : Nat) (t : xT) (a0 : Int32) (a1 : Int32) (r : Int32 × xT) (h : f_reasonForPush N t a0 a1 = some r) : Rt E M_X12_reasonForPush 0 [.ref 0, .int a0, .int a1] (mw t, C) (some (.int r.1)) (mw r.2, C) := by
  unfold f_reasonForPush at h
  refine Rt.of hE rfl pn_X12 (Nat.le_of_ble_eq_true rfl) ?_
  refine g_eq (S' := (0, [some (.ref 0), some (.int a0), some (.int a1), none], [], (mw t, C))) rfl ?_
  refine g_aload_n d_X12_reasonForPush_0 rfl ?_
  refine g_iload_n d_X12_reasonForPush_1 rfl ?_
  refine g_iload_n d_X12_reasonForPush_2 rfl ?_
  obtain ⟨r_3, h_3, h⟩ := obind h
  refine g_callS (As := [.int a1]) d_X12_reasonForPush_3 o_X12_opposite l_X12_140 ⟨Nat.le_of_ble_eq_true rfl, Nat.le_of_ble_eq_true rfl⟩ (c_m_opposite hE C t a1 _ h_3) rfl rfl ?_ (Nat.zero_add _)
  obtain ⟨r_6, h_6, h⟩ := obind h
  refine g_callV (As := [.int a0, .int r_3]) d_X12_reasonForPush_6 o_X12_beside l_X12_136 ⟨Nat.le_of_ble_eq_true rfl, Nat.le_of_ble_eq_true rfl⟩ (c_m_beside hE C t a0 r_3 _ h_6) (gm0 t C) rfl rfl rfl rfl rfl ?_ (Nat.zero_add _)
  refine g_istore_n (L' := [some (.ref 0), some (.int a0), some (.int a1), some (.int r_6)]) d_X12_reasonForPush_9 rfl rfl ?_
  refine g_aload_n d_X12_reasonForPush_10 rfl ?_
  refine g_aload_n d_X12_reasonForPush_11 rfl ?_
  refine g_getf d_X12_reasonForPush_12 f_X12_7 (gm0 t C) rfl ?_
  refine g_iconst (v := 3) d_X12_reasonForPush_15 (by decide) ?_
  refine g_iald d_X12_reasonForPush_16 (gm_1 t C) (inB_in (by decide)) ?_
  obtain ⟨r_17, h_17, h⟩ := obind h
  refine g_callV (As := [.int ((ra t 1) (Int32.toNatClampNeg 3))]) d_X12_reasonForPush_17 o_X12_walksFrom l_X12_163 ⟨Nat.le_of_ble_eq_true rfl, Nat.le_of_ble_eq_true rfl⟩ (c_m_walksFrom hE C N t ((ra t 1) (Int32.toNatClampNeg 3)) _ h_17) (gm0 t C) rfl rfl rfl rfl rfl ?_ (Nat.zero_add _)
  refine g_aload_n d_X12_reasonForPush_20 rfl ?_
  refine g_iload_n d_X12_reasonForPush_21 rfl ?_
  obtain ⟨t_22, e_22, h⟩ := olet h
  refine g_putI (w' := (mw t_22, C)) d_X12_reasonForPush_22 p_X12_203 rfl rfl (gm0 r_17 C) (Nat.le_of_ble_eq_true rfl) (by rw [e_22]; exact sc_26 r_17 C _) ?_
  refine g_aload_n d_X12_reasonForPush_25 rfl ?_
  refine g_iload_n d_X12_reasonForPush_26 rfl ?_
  obtain ⟨r_27, h_27, h⟩ := obind h
  refine g_callV (As := [.int r_6]) d_X12_reasonForPush_27 o_X12_isOpen l_X12_121 ⟨Nat.le_of_ble_eq_true rfl, Nat.le_of_ble_eq_true rfl⟩ (c_m_isOpen hE C t_22 r_6 _ h_27) (gm0 t_22 C) rfl rfl rfl rfl rfl ?_ (Nat.zero_add _)
  refine g_if_eq (tgt := 42) d_X12_reasonForPush_30 (by decide) (fun c_30 => ?_) (fun c_30 => ?_)
  · replace h := opos c_30 h
    refine g_iconst (v := 4) d_X12_reasonForPush_42 (by decide) ?_
    obtain rfl := osome h
    exact g_retI d_X12_reasonForPush_43 rfl rfl rfl
  · replace h := oneg c_30 h
    refine g_aload_n d_X12_reasonForPush_33 rfl ?_
    refine g_getf d_X12_reasonForPush_34 f_X12_32 (gm0 t_22 C) rfl ?_
    refine g_iload_n d_X12_reasonForPush_37 rfl ?_
    obtain ⟨i_38, h⟩ := ochk h
    refine g_iald d_X12_reasonForPush_38 (gm_7 t_22 C) (inB_in i_38) ?_
    refine g_if_ge (tgt := 44) d_X12_reasonForPush_39 (by decide) (fun c_39 => ?_) (fun c_39 => ?_)
    · replace h := opos c_39 h
      refine g_aload_n d_X12_reasonForPush_44 rfl ?_
      refine g_iload_n d_X12_reasonForPush_45 rfl ?_
      refine g_iload_n d_X12_reasonForPush_46 rfl ?_
      obtain ⟨r_47, h_47, h⟩ := obind h
      refine g_callV (As := [.int a0, .int a1]) d_X12_reasonForPush_47 o_X12_reasonForBox l_X12_206 ⟨Nat.le_of_ble_eq_true rfl, Nat.le_of_ble_eq_true rfl⟩ (c_m_reasonForBox hE C t_22 a0 a1 _ h_47) (gm0 t_22 C) rfl rfl rfl rfl rfl ?_ (Nat.zero_add _)
      obtain rfl := osome h
      exact g_retI d_X12_reasonForPush_50 rfl rfl rfl
    · replace h := oneg c_39 h
      refine g_iconst (v := 4) d_X12_reasonForPush_42 (by decide) ?_
      obtain rfl := osome h
      exact g_retI d_X12_reasonForPush_43 rfl rfl rfl
def f_isNearer (t : xT) (a0 : Int32) : Option (Int32) :=
  Option.bind (f_beside t ((ra t 1) (Int32.toNatClampNeg 3)) a0) fun r_8 =>
  Option.bind (if r_8 < 0 then (some (0 : Int32))
    else (if inB r_8 64 = true then (if ((ra t 7) (Int32.toNatClampNeg r_8)) < 0 then (some (0 : Int32))
      else (if inB r_8 64 = true then (if inB ((ra t 1) (Int32.toNatClampNeg 3)) 64 = true then (if ((ra t 7) (Int32.toNatClampNeg r_8)) = (((ra t 7) (Int32.toNatClampNeg ((ra t 1) (Int32.toNatClampNeg 3)))) - 1) then (some (1 : Int32))
        else (some (0 : Int32))) else none) else none)) else none)) fun (r_13 : Int32) =>
  if r_13 &&& 1 = r_13 then (some r_13) else none
theorem d_X12_isNearer_0 : decode (mB M_X12_isNearer) 0 = .ok (.aload_n 0, 1) := by decide +kernel
theorem d_X12_isNearer_1 : decode (mB M_X12_isNearer) 1 = .ok (.aload_n 0, 1) := by decide +kernel
theorem d_X12_isNearer_2 : decode (mB M_X12_isNearer) 2 = .ok (.getfield 7, 3) := by decide +kernel
theorem d_X12_isNearer_5 : decode (mB M_X12_isNearer) 5 = .ok (.iconst 3, 1) := by decide +kernel
theorem d_X12_isNearer_6 : decode (mB M_X12_isNearer) 6 = .ok (.iaload, 1) := by decide +kernel
theorem d_X12_isNearer_7 : decode (mB M_X12_isNearer) 7 = .ok (.iload_n 1, 1) := by decide +kernel
theorem d_X12_isNearer_8 : decode (mB M_X12_isNearer) 8 = .ok (.invokevirtual 136, 3) := by decide +kernel
theorem d_X12_isNearer_11 : decode (mB M_X12_isNearer) 11 = .ok (.istore_n 2, 1) := by decide +kernel
theorem d_X12_isNearer_12 : decode (mB M_X12_isNearer) 12 = .ok (.iload_n 2, 1) := by decide +kernel
theorem d_X12_isNearer_13 : decode (mB M_X12_isNearer) 13 = .ok (.ifCond .lt 38, 3) := by decide +kernel
theorem d_X12_isNearer_16 : decode (mB M_X12_isNearer) 16 = .ok (.aload_n 0, 1) := by decide +kernel
theorem d_X12_isNearer_17 : decode (mB M_X12_isNearer) 17 = .ok (.getfield 32, 3) := by decide +kernel
theorem d_X12_isNearer_20 : decode (mB M_X12_isNearer) 20 = .ok (.iload_n 2, 1) := by decide +kernel
theorem d_X12_isNearer_21 : decode (mB M_X12_isNearer) 21 = .ok (.iaload, 1) := by decide +kernel
theorem d_X12_isNearer_22 : decode (mB M_X12_isNearer) 22 = .ok (.ifCond .lt 29, 3) := by decide +kernel
theorem d_X12_isNearer_25 : decode (mB M_X12_isNearer) 25 = .ok (.aload_n 0, 1) := by decide +kernel
theorem d_X12_isNearer_26 : decode (mB M_X12_isNearer) 26 = .ok (.getfield 32, 3) := by decide +kernel
theorem d_X12_isNearer_29 : decode (mB M_X12_isNearer) 29 = .ok (.iload_n 2, 1) := by decide +kernel
theorem d_X12_isNearer_30 : decode (mB M_X12_isNearer) 30 = .ok (.iaload, 1) := by decide +kernel
theorem d_X12_isNearer_31 : decode (mB M_X12_isNearer) 31 = .ok (.aload_n 0, 1) := by decide +kernel
theorem d_X12_isNearer_32 : decode (mB M_X12_isNearer) 32 = .ok (.getfield 32, 3) := by decide +kernel
theorem d_X12_isNearer_35 : decode (mB M_X12_isNearer) 35 = .ok (.aload_n 0, 1) := by decide +kernel
theorem d_X12_isNearer_36 : decode (mB M_X12_isNearer) 36 = .ok (.getfield 7, 3) := by decide +kernel
theorem d_X12_isNearer_39 : decode (mB M_X12_isNearer) 39 = .ok (.iconst 3, 1) := by decide +kernel
theorem d_X12_isNearer_40 : decode (mB M_X12_isNearer) 40 = .ok (.iaload, 1) := by decide +kernel
theorem d_X12_isNearer_41 : decode (mB M_X12_isNearer) 41 = .ok (.iaload, 1) := by decide +kernel
theorem d_X12_isNearer_42 : decode (mB M_X12_isNearer) 42 = .ok (.iconst 1, 1) := by decide +kernel
theorem d_X12_isNearer_43 : decode (mB M_X12_isNearer) 43 = .ok (.isub, 1) := by decide +kernel
theorem d_X12_isNearer_44 : decode (mB M_X12_isNearer) 44 = .ok (.if_icmp .ne 7, 3) := by decide +kernel
theorem d_X12_isNearer_47 : decode (mB M_X12_isNearer) 47 = .ok (.iconst 1, 1) := by decide +kernel
theorem d_X12_isNearer_48 : decode (mB M_X12_isNearer) 48 = .ok (.goto 4, 3) := by decide +kernel
theorem d_X12_isNearer_51 : decode (mB M_X12_isNearer) 51 = .ok (.iconst 0, 1) := by decide +kernel
theorem d_X12_isNearer_52 : decode (mB M_X12_isNearer) 52 = .ok (.ireturn, 1) := by decide +kernel
theorem c_m_isNearer {E : mEnv} (hE : E.1.stackTraces = false) (C : List mE) (t : xT) (a0 : Int32) (r : Int32) (h : f_isNearer t a0 = some r) : Rt E M_X12_isNearer 0 [.ref 0, .int a0] (mw t, C) (some (.int r)) (mw t, C) := by
  unfold f_isNearer at h
  refine Rt.of hE rfl pn_X12 (Nat.le_of_ble_eq_true rfl) ?_
  refine g_eq (S' := (0, [some (.ref 0), some (.int a0), none], [], (mw t, C))) rfl ?_
  refine g_aload_n d_X12_isNearer_0 rfl ?_
  refine g_aload_n d_X12_isNearer_1 rfl ?_
  refine g_getf d_X12_isNearer_2 f_X12_7 (gm0 t C) rfl ?_
  refine g_iconst (v := 3) d_X12_isNearer_5 (by decide) ?_
  refine g_iald d_X12_isNearer_6 (gm_1 t C) (inB_in (by decide)) ?_
  refine g_iload_n d_X12_isNearer_7 rfl ?_
  obtain ⟨r_8, h_8, h⟩ := obind h
  refine g_callV (As := [.int ((ra t 1) (Int32.toNatClampNeg 3)), .int a0]) d_X12_isNearer_8 o_X12_beside l_X12_136 ⟨Nat.le_of_ble_eq_true rfl, Nat.le_of_ble_eq_true rfl⟩ (c_m_beside hE C t ((ra t 1) (Int32.toNatClampNeg 3)) a0 _ h_8) (gm0 t C) rfl rfl rfl rfl rfl ?_ (Nat.zero_add _)
  refine g_istore_n (L' := [some (.ref 0), some (.int a0), some (.int r_8)]) d_X12_isNearer_11 rfl rfl ?_
  refine g_iload_n d_X12_isNearer_12 rfl ?_
  obtain ⟨r_13, h_13, hh_13⟩ := obind h
  refine Go.trans0 (S1 := (52, [none, none, none], [.int r_13], (mw t, C))) ?_ ?_
  · replace h := h_13
    clear hh_13
    refine g_if_lt (tgt := 51) d_X12_isNearer_13 (by decide) (fun c_13 => ?_) (fun c_13 => ?_)
    · replace h := opos c_13 h
      refine g_iconst (v := 0) d_X12_isNearer_51 (by decide) ?_
      obtain rfl := osome h
      exact g_drop [0, 1, 2] rfl (g_end rfl)
    · replace h := oneg c_13 h
      refine g_aload_n d_X12_isNearer_16 rfl ?_
      refine g_getf d_X12_isNearer_17 f_X12_32 (gm0 t C) rfl ?_
      refine g_iload_n d_X12_isNearer_20 rfl ?_
      obtain ⟨i_21, h⟩ := ochk h
      refine g_iald d_X12_isNearer_21 (gm_7 t C) (inB_in i_21) ?_
      refine g_if_lt (tgt := 51) d_X12_isNearer_22 (by decide) (fun c_22 => ?_) (fun c_22 => ?_)
      · replace h := opos c_22 h
        refine g_iconst (v := 0) d_X12_isNearer_51 (by decide) ?_
        obtain rfl := osome h
        exact g_drop [0, 1, 2] rfl (g_end rfl)
      · replace h := oneg c_22 h
        refine g_aload_n d_X12_isNearer_25 rfl ?_
        refine g_getf d_X12_isNearer_26 f_X12_32 (gm0 t C) rfl ?_
        refine g_iload_n d_X12_isNearer_29 rfl ?_
        obtain ⟨i_30, h⟩ := ochk h
        refine g_iald d_X12_isNearer_30 (gm_7 t C) (inB_in i_30) ?_
        refine g_aload_n d_X12_isNearer_31 rfl ?_
        refine g_getf d_X12_isNearer_32 f_X12_32 (gm0 t C) rfl ?_
        refine g_aload_n d_X12_isNearer_35 rfl ?_
        refine g_getf d_X12_isNearer_36 f_X12_7 (gm0 t C) rfl ?_
        refine g_iconst (v := 3) d_X12_isNearer_39 (by decide) ?_
        refine g_iald d_X12_isNearer_40 (gm_1 t C) (inB_in (by decide)) ?_
        obtain ⟨i_41, h⟩ := ochk h
        refine g_iald d_X12_isNearer_41 (gm_7 t C) (inB_in i_41) ?_
        refine g_iconst (v := 1) d_X12_isNearer_42 (by decide) ?_
        refine g_isub d_X12_isNearer_43 ?_
        refine g_icmp_ne (tgt := 51) d_X12_isNearer_44 (by decide) (fun c_44 => ?_) (fun c_44 => ?_)
        · replace h := oneg c_44 h
          refine g_iconst (v := 0) d_X12_isNearer_51 (by decide) ?_
          obtain rfl := osome h
          exact g_drop [0, 1, 2] rfl (g_end rfl)
        · replace h := opos c_44 h
          refine g_iconst (v := 1) d_X12_isNearer_47 (by decide) ?_
          refine g_goto (tgt := 52) d_X12_isNearer_48 (by decide) ?_
          obtain rfl := osome h
          exact g_drop [0, 1, 2] rfl (g_end rfl)
  replace h := hh_13
  obtain ⟨i_52, h⟩ := ochk h
  obtain rfl := osome h
  exact g_retZ d_X12_isNearer_52 rfl i_52 rfl rfl
def f_walksAndPushes_L (N : Nat) : Nat → Nat → Int32 → Int32 → xT → Option (xT)
  | 0, _, _, _, _ => none
  | n + 1, p, v2, v3, t =>
    if p = 13 then (if inB ((ra t 1) (Int32.toNatClampNeg 3)) 64 = true then (if ((ra t 7) (Int32.toNatClampNeg ((ra t 1) (Int32.toNatClampNeg 3)))) ≤ 0 then (Option.bind (f_goes t v2) fun r_54 =>
        some r_54.2)
      else (f_walksAndPushes_L N n 29 v2 0 t)) else none)
    else if p = 29 then (Option.bind (f_isNearer t v3) fun r_31 =>
      if r_31 = 0 then (f_walksAndPushes_L N n 29 v2 (v3 + 1) t)
      else (Option.bind (f_goes t v3) fun r_45 =>
        f_walksAndPushes_L N n 13 v2 0 r_45.2))
    else none
theorem u_walksAndPushes_13 (N n : Nat) (v2 : Int32) (t : xT) : f_walksAndPushes_L N (n + 1) 13 v2 0 t = (if inB ((ra t 1) (Int32.toNatClampNeg 3)) 64 = true then (if ((ra t 7) (Int32.toNatClampNeg ((ra t 1) (Int32.toNatClampNeg 3)))) ≤ 0 then (Option.bind (f_goes t v2) fun r_54 =>
      some r_54.2)
    else (f_walksAndPushes_L N n 29 v2 0 t)) else none) := rfl
theorem u_walksAndPushes_29 (N n : Nat) (v2 : Int32) (v3 : Int32) (t : xT) : f_walksAndPushes_L N (n + 1) 29 v2 v3 t = (Option.bind (f_isNearer t v3) fun r_31 =>
    if r_31 = 0 then (f_walksAndPushes_L N n 29 v2 (v3 + 1) t)
    else (Option.bind (f_goes t v3) fun r_45 =>
      f_walksAndPushes_L N n 13 v2 0 r_45.2)) := rfl
def f_walksAndPushes (N : Nat) (t : xT) (a0 : Int32) (a1 : Int32) : Option (xT) :=
  Option.bind (f_opposite a1) fun r_4 =>
  Option.bind (f_beside t a0 r_4) fun r_7 =>
  Option.bind (f_walksFrom N t r_7) fun r_10 =>
  f_walksAndPushes_L N N 13 a1 0 r_10
theorem d_X12_walksAndPushes_0 : decode (mB M_X12_walksAndPushes) 0 = .ok (.aload_n 0, 1) := by decide +kernel
theorem d_X12_walksAndPushes_1 : decode (mB M_X12_walksAndPushes) 1 = .ok (.aload_n 0, 1) := by decide +kernel
theorem d_X12_walksAndPushes_2 : decode (mB M_X12_walksAndPushes) 2 = .ok (.iload_n 1, 1) := by decide +kernel
theorem d_X12_walksAndPushes_3 : decode (mB M_X12_walksAndPushes) 3 = .ok (.iload_n 2, 1) := by decide +kernel
theorem d_X12_walksAndPushes_4 : decode (mB M_X12_walksAndPushes) 4 = .ok (.invokestatic 140, 3) := by decide +kernel
theorem d_X12_walksAndPushes_7 : decode (mB M_X12_walksAndPushes) 7 = .ok (.invokevirtual 136, 3) := by decide +kernel
theorem d_X12_walksAndPushes_10 : decode (mB M_X12_walksAndPushes) 10 = .ok (.invokevirtual 163, 3) := by decide +kernel
theorem d_X12_walksAndPushes_13 : decode (mB M_X12_walksAndPushes) 13 = .ok (.aload_n 0, 1) := by decide +kernel
theorem d_X12_walksAndPushes_14 : decode (mB M_X12_walksAndPushes) 14 = .ok (.getfield 32, 3) := by decide +kernel
theorem d_X12_walksAndPushes_17 : decode (mB M_X12_walksAndPushes) 17 = .ok (.aload_n 0, 1) := by decide +kernel
theorem d_X12_walksAndPushes_18 : decode (mB M_X12_walksAndPushes) 18 = .ok (.getfield 7, 3) := by decide +kernel
theorem d_X12_walksAndPushes_21 : decode (mB M_X12_walksAndPushes) 21 = .ok (.iconst 3, 1) := by decide +kernel
theorem d_X12_walksAndPushes_22 : decode (mB M_X12_walksAndPushes) 22 = .ok (.iaload, 1) := by decide +kernel
theorem d_X12_walksAndPushes_23 : decode (mB M_X12_walksAndPushes) 23 = .ok (.iaload, 1) := by decide +kernel
theorem d_X12_walksAndPushes_24 : decode (mB M_X12_walksAndPushes) 24 = .ok (.ifCond .le 28, 3) := by decide +kernel
theorem d_X12_walksAndPushes_27 : decode (mB M_X12_walksAndPushes) 27 = .ok (.iconst 0, 1) := by decide +kernel
theorem d_X12_walksAndPushes_28 : decode (mB M_X12_walksAndPushes) 28 = .ok (.istore_n 3, 1) := by decide +kernel
theorem d_X12_walksAndPushes_29 : decode (mB M_X12_walksAndPushes) 29 = .ok (.aload_n 0, 1) := by decide +kernel
theorem d_X12_walksAndPushes_30 : decode (mB M_X12_walksAndPushes) 30 = .ok (.iload_n 3, 1) := by decide +kernel
theorem d_X12_walksAndPushes_31 : decode (mB M_X12_walksAndPushes) 31 = .ok (.invokevirtual 230, 3) := by decide +kernel
theorem d_X12_walksAndPushes_34 : decode (mB M_X12_walksAndPushes) 34 = .ok (.ifCond .ne 9, 3) := by decide +kernel
theorem d_X12_walksAndPushes_37 : decode (mB M_X12_walksAndPushes) 37 = .ok (.iinc 3 1, 3) := by decide +kernel
theorem d_X12_walksAndPushes_40 : decode (mB M_X12_walksAndPushes) 40 = .ok (.goto (-11), 3) := by decide +kernel
theorem d_X12_walksAndPushes_43 : decode (mB M_X12_walksAndPushes) 43 = .ok (.aload_n 0, 1) := by decide +kernel
theorem d_X12_walksAndPushes_44 : decode (mB M_X12_walksAndPushes) 44 = .ok (.iload_n 3, 1) := by decide +kernel
theorem d_X12_walksAndPushes_45 : decode (mB M_X12_walksAndPushes) 45 = .ok (.invokevirtual 227, 3) := by decide +kernel
theorem d_X12_walksAndPushes_48 : decode (mB M_X12_walksAndPushes) 48 = .ok (.pop, 1) := by decide +kernel
theorem d_X12_walksAndPushes_49 : decode (mB M_X12_walksAndPushes) 49 = .ok (.goto (-36), 3) := by decide +kernel
theorem d_X12_walksAndPushes_52 : decode (mB M_X12_walksAndPushes) 52 = .ok (.aload_n 0, 1) := by decide +kernel
theorem d_X12_walksAndPushes_53 : decode (mB M_X12_walksAndPushes) 53 = .ok (.iload_n 2, 1) := by decide +kernel
theorem d_X12_walksAndPushes_54 : decode (mB M_X12_walksAndPushes) 54 = .ok (.invokevirtual 227, 3) := by decide +kernel
theorem d_X12_walksAndPushes_57 : decode (mB M_X12_walksAndPushes) 57 = .ok (.pop, 1) := by decide +kernel
theorem d_X12_walksAndPushes_58 : decode (mB M_X12_walksAndPushes) 58 = .ok (.return_, 1) := by decide +kernel
theorem l_m_walksAndPushes {E : mEnv} (hE : E.1.stackTraces = false) (C : List mE) (N : Nat) : ∀ n : Nat, (∀ (v2 : Int32) (t : xT) (r : xT), f_walksAndPushes_L N n 13 v2 0 t = some r → Go E M_X12_walksAndPushes 0 (13, [some (.ref 0), none, some (.int v2), none], [], (mw t, C)) (.inr (.inl (none, (mw r, C))))) ∧ (∀ (v2 : Int32) (v3 : Int32) (t : xT) (r : xT), f_walksAndPushes_L N n 29 v2 v3 t = some r → Go E M_X12_walksAndPushes 0 (29, [some (.ref 0), none, some (.int v2), some (.int v3)], [], (mw t, C)) (.inr (.inl (none, (mw r, C))))) := by
  intro n
  induction n with
  | zero => exact ⟨(fun v2 t r h => by cases h), (fun v2 v3 t r h => by cases h)⟩
  | succ n ih =>
    refine ⟨?_, ?_⟩
    · intro v2 t r h
      rw [u_walksAndPushes_13] at h
      refine g_aload_n d_X12_walksAndPushes_13 rfl ?_
      refine g_getf d_X12_walksAndPushes_14 f_X12_32 (gm0 t C) rfl ?_
      refine g_aload_n d_X12_walksAndPushes_17 rfl ?_
      refine g_getf d_X12_walksAndPushes_18 f_X12_7 (gm0 t C) rfl ?_
      refine g_iconst (v := 3) d_X12_walksAndPushes_21 (by decide) ?_
      refine g_iald d_X12_walksAndPushes_22 (gm_1 t C) (inB_in (by decide)) ?_
      obtain ⟨i_23, h⟩ := ochk h
      refine g_iald d_X12_walksAndPushes_23 (gm_7 t C) (inB_in i_23) ?_
      refine g_if_le (tgt := 52) d_X12_walksAndPushes_24 (by decide) (fun c_24 => ?_) (fun c_24 => ?_)
      · replace h := opos c_24 h
        refine g_aload_n d_X12_walksAndPushes_52 rfl ?_
        refine g_iload_n d_X12_walksAndPushes_53 rfl ?_
        obtain ⟨r_54, h_54, h⟩ := obind h
        refine g_callV (As := [.int v2]) d_X12_walksAndPushes_54 o_X12_goes l_X12_227 ⟨Nat.le_of_ble_eq_true rfl, Nat.le_of_ble_eq_true rfl⟩ (c_m_goes hE C t v2 _ h_54) (gm0 t C) rfl rfl rfl rfl rfl ?_ (Nat.zero_add _)
        refine g_pop d_X12_walksAndPushes_57 rfl ?_
        obtain rfl := osome h
        exact g_retV d_X12_walksAndPushes_58 rfl rfl
      · replace h := oneg c_24 h
        refine g_iconst (v := 0) d_X12_walksAndPushes_27 (by decide) ?_
        refine g_istore_n (L' := [some (.ref 0), none, some (.int v2), some (.int 0)]) d_X12_walksAndPushes_28 rfl rfl ?_
        exact (ih).2 v2 0 t _ h
    · intro v2 v3 t r h
      rw [u_walksAndPushes_29] at h
      refine g_aload_n d_X12_walksAndPushes_29 rfl ?_
      refine g_iload_n d_X12_walksAndPushes_30 rfl ?_
      obtain ⟨r_31, h_31, h⟩ := obind h
      refine g_callV (As := [.int v3]) d_X12_walksAndPushes_31 o_X12_isNearer l_X12_230 ⟨Nat.le_of_ble_eq_true rfl, Nat.le_of_ble_eq_true rfl⟩ (c_m_isNearer hE C t v3 _ h_31) (gm0 t C) rfl rfl rfl rfl rfl ?_ (Nat.zero_add _)
      refine g_if_ne (tgt := 43) d_X12_walksAndPushes_34 (by decide) (fun c_34 => ?_) (fun c_34 => ?_)
      · replace h := oneg c_34 h
        refine g_aload_n d_X12_walksAndPushes_43 rfl ?_
        refine g_iload_n d_X12_walksAndPushes_44 rfl ?_
        obtain ⟨r_45, h_45, h⟩ := obind h
        refine g_callV (As := [.int v3]) d_X12_walksAndPushes_45 o_X12_goes l_X12_227 ⟨Nat.le_of_ble_eq_true rfl, Nat.le_of_ble_eq_true rfl⟩ (c_m_goes hE C t v3 _ h_45) (gm0 t C) rfl rfl rfl rfl rfl ?_ (Nat.zero_add _)
        refine g_pop d_X12_walksAndPushes_48 rfl ?_
        refine g_goto (tgt := 13) d_X12_walksAndPushes_49 (by decide) ?_
        refine g_drop [3] (L1 := [some (.ref 0), none, some (.int v2), none]) rfl ?_
        exact (ih).1 v2 r_45.2 _ h
      · replace h := opos c_34 h
        refine g_iinc (v := (v3 + 1)) (L' := [some (.ref 0), none, some (.int v2), some (.int (v3 + 1))]) d_X12_walksAndPushes_37 rfl rfl rfl ?_
        refine g_goto (tgt := 29) d_X12_walksAndPushes_40 (by decide) ?_
        exact (ih).2 v2 (v3 + 1) t _ h
theorem c_m_walksAndPushes {E : mEnv} (hE : E.1.stackTraces = false) (C : List mE) (N : Nat) (t : xT) (a0 : Int32) (a1 : Int32) (r : xT) (h : f_walksAndPushes N t a0 a1 = some r) : Rt E M_X12_walksAndPushes 0 [.ref 0, .int a0, .int a1] (mw t, C) none (mw r, C) := by
  unfold f_walksAndPushes at h
  refine Rt.of hE rfl pn_X12 (Nat.le_of_ble_eq_true rfl) ?_
  refine g_eq (S' := (0, [some (.ref 0), some (.int a0), some (.int a1), none], [], (mw t, C))) rfl ?_
  refine g_aload_n d_X12_walksAndPushes_0 rfl ?_
  refine g_aload_n d_X12_walksAndPushes_1 rfl ?_
  refine g_iload_n d_X12_walksAndPushes_2 rfl ?_
  refine g_iload_n d_X12_walksAndPushes_3 rfl ?_
  obtain ⟨r_4, h_4, h⟩ := obind h
  refine g_callS (As := [.int a1]) d_X12_walksAndPushes_4 o_X12_opposite l_X12_140 ⟨Nat.le_of_ble_eq_true rfl, Nat.le_of_ble_eq_true rfl⟩ (c_m_opposite hE C t a1 _ h_4) rfl rfl ?_ (Nat.zero_add _)
  obtain ⟨r_7, h_7, h⟩ := obind h
  refine g_callV (As := [.int a0, .int r_4]) d_X12_walksAndPushes_7 o_X12_beside l_X12_136 ⟨Nat.le_of_ble_eq_true rfl, Nat.le_of_ble_eq_true rfl⟩ (c_m_beside hE C t a0 r_4 _ h_7) (gm0 t C) rfl rfl rfl rfl rfl ?_ (Nat.zero_add _)
  obtain ⟨r_10, h_10, h⟩ := obind h
  refine g_callV (As := [.int r_7]) d_X12_walksAndPushes_10 o_X12_walksFrom l_X12_163 ⟨Nat.le_of_ble_eq_true rfl, Nat.le_of_ble_eq_true rfl⟩ (c_m_walksFrom hE C N t r_7 _ h_10) (gm0 t C) rfl rfl rfl rfl rfl ?_ (Nat.zero_add _)
  refine g_drop [1] (L1 := [some (.ref 0), none, some (.int a1), none]) rfl ?_
  exact (l_m_walksAndPushes hE C N N).1 a1 r_10 _ h
def f_goesBack_L (N : Nat) : Nat → Int32 → xT → Option (xT)
  | 0, _, _ => none
  | n + 1, v1, t =>
    if 602 ≤ v1 then (some t)
    else (if inB v1 602 = true then (if inB v1 602 = true then (Option.bind (some (wa t 1 (upd (ra t 1) (Int32.toNatClampNeg v1) ((ra t 3) (Int32.toNatClampNeg v1))))) fun t_20 =>
      f_goesBack_L N n (v1 + 1) t_20) else none) else none)
theorem u_goesBack_2 (N n : Nat) (v1 : Int32) (t : xT) : f_goesBack_L N (n + 1) v1 t = (if 602 ≤ v1 then (some t)
    else (if inB v1 602 = true then (if inB v1 602 = true then (Option.bind (some (wa t 1 (upd (ra t 1) (Int32.toNatClampNeg v1) ((ra t 3) (Int32.toNatClampNeg v1))))) fun t_20 =>
      f_goesBack_L N n (v1 + 1) t_20) else none) else none)) := rfl
def f_goesBack (N : Nat) (t : xT)  : Option (xT) :=
  f_goesBack_L N N 0 t
theorem d_X12_goesBack_0 : decode (mB M_X12_goesBack) 0 = .ok (.iconst 0, 1) := by decide +kernel
theorem d_X12_goesBack_1 : decode (mB M_X12_goesBack) 1 = .ok (.istore_n 1, 1) := by decide +kernel
theorem d_X12_goesBack_2 : decode (mB M_X12_goesBack) 2 = .ok (.iload_n 1, 1) := by decide +kernel
theorem d_X12_goesBack_3 : decode (mB M_X12_goesBack) 3 = .ok (.sipush 602, 3) := by decide +kernel
theorem d_X12_goesBack_6 : decode (mB M_X12_goesBack) 6 = .ok (.if_icmp .ge 21, 3) := by decide +kernel
theorem d_X12_goesBack_9 : decode (mB M_X12_goesBack) 9 = .ok (.aload_n 0, 1) := by decide +kernel
theorem d_X12_goesBack_10 : decode (mB M_X12_goesBack) 10 = .ok (.getfield 7, 3) := by decide +kernel
theorem d_X12_goesBack_13 : decode (mB M_X12_goesBack) 13 = .ok (.iload_n 1, 1) := by decide +kernel
theorem d_X12_goesBack_14 : decode (mB M_X12_goesBack) 14 = .ok (.aload_n 0, 1) := by decide +kernel
theorem d_X12_goesBack_15 : decode (mB M_X12_goesBack) 15 = .ok (.getfield 16, 3) := by decide +kernel
theorem d_X12_goesBack_18 : decode (mB M_X12_goesBack) 18 = .ok (.iload_n 1, 1) := by decide +kernel
theorem d_X12_goesBack_19 : decode (mB M_X12_goesBack) 19 = .ok (.iaload, 1) := by decide +kernel
theorem d_X12_goesBack_20 : decode (mB M_X12_goesBack) 20 = .ok (.iastore, 1) := by decide +kernel
theorem d_X12_goesBack_21 : decode (mB M_X12_goesBack) 21 = .ok (.iinc 1 1, 3) := by decide +kernel
theorem d_X12_goesBack_24 : decode (mB M_X12_goesBack) 24 = .ok (.goto (-22), 3) := by decide +kernel
theorem d_X12_goesBack_27 : decode (mB M_X12_goesBack) 27 = .ok (.return_, 1) := by decide +kernel
theorem l_m_goesBack {E : mEnv} (hE : E.1.stackTraces = false) (C : List mE) (N : Nat) : ∀ n : Nat, (∀ (v1 : Int32) (t : xT) (r : xT), f_goesBack_L N n v1 t = some r → Go E M_X12_goesBack 0 (2, [some (.ref 0), some (.int v1)], [], (mw t, C)) (.inr (.inl (none, (mw r, C))))) := by
  intro n
  induction n with
  | zero => exact fun v1 t r h => by cases h
  | succ n ih =>
    intro v1 t r h
    rw [u_goesBack_2] at h
    refine g_iload_n d_X12_goesBack_2 rfl ?_
    refine g_sipush (v := 602) d_X12_goesBack_3 (by decide) ?_
    refine g_icmp_ge (tgt := 27) d_X12_goesBack_6 (by decide) (fun c_6 => ?_) (fun c_6 => ?_)
    · replace h := opos c_6 h
      obtain rfl := osome h
      exact g_retV d_X12_goesBack_27 rfl rfl
    · replace h := oneg c_6 h
      refine g_aload_n d_X12_goesBack_9 rfl ?_
      refine g_getf d_X12_goesBack_10 f_X12_7 (gm0 t C) rfl ?_
      refine g_iload_n d_X12_goesBack_13 rfl ?_
      refine g_aload_n d_X12_goesBack_14 rfl ?_
      refine g_getf d_X12_goesBack_15 f_X12_16 (gm0 t C) rfl ?_
      refine g_iload_n d_X12_goesBack_18 rfl ?_
      obtain ⟨i_19, h⟩ := ochk h
      refine g_iald d_X12_goesBack_19 (gm_3 t C) (inB_in i_19) ?_
      obtain ⟨i_20, h⟩ := ochk h
      obtain ⟨t_20, e_20, h⟩ := olet h
      refine g_iast (w' := (mw t_20, C)) d_X12_goesBack_20 (gm_1 t C) (inB_in i_20) (by rw [e_20]; exact st_1 t C _) ?_
      refine g_iinc (v := (v1 + 1)) (L' := [some (.ref 0), some (.int (v1 + 1))]) d_X12_goesBack_21 rfl rfl rfl ?_
      refine g_goto (tgt := 2) d_X12_goesBack_24 (by decide) ?_
      exact (ih) (v1 + 1) t_20 _ h
theorem c_m_goesBack {E : mEnv} (hE : E.1.stackTraces = false) (C : List mE) (N : Nat) (t : xT)  (r : xT) (h : f_goesBack N t = some r) : Rt E M_X12_goesBack 0 [.ref 0] (mw t, C) none (mw r, C) := by
  unfold f_goesBack at h
  refine Rt.of hE rfl pn_X12 (Nat.le_of_ble_eq_true rfl) ?_
  refine g_eq (S' := (0, [some (.ref 0), none], [], (mw t, C))) rfl ?_
  refine g_iconst (v := 0) d_X12_goesBack_0 (by decide) ?_
  refine g_istore_n (L' := [some (.ref 0), some (.int 0)]) d_X12_goesBack_1 rfl rfl ?_
  exact (l_m_goesBack hE C N N) 0 t _ h
def f_pushing_L (N : Nat) : Nat → Int32 → Int32 → Int32 → Int32 → Int32 → xT → Option (Int32 × xT)
  | 0, _, _, _, _, _, _ => none
  | n + 1, v2, v3, v5, v6, v7, t =>
    if v3 = 0 then (if ((ra t 1) (Int32.toNatClampNeg 4)) ≤ 400 then (Option.bind (f_commands N t) fun r_139 =>
        Option.bind (if v3 = 0 then (some (((ra r_139 1) (Int32.toNatClampNeg 4)) - v5))
          else (some v6)) fun (r_143 : Int32) =>
        some (r_143, r_139))
      else (Option.bind (f_goesBack N t) fun r_129 =>
        Option.bind (f_fails r_129 5) fun r_134 =>
        some (r_134.1, r_134.2)))
    else (Option.bind (f_isTunnel t v7 (v2 - v2 / 2 * 2)) fun r_79 =>
      if r_79 = 0 then (if ((ra t 1) (Int32.toNatClampNeg 4)) ≤ 400 then (Option.bind (f_commands N t) fun r_139 =>
          Option.bind (if v3 = 0 then (some (((ra r_139 1) (Int32.toNatClampNeg 4)) - v5))
            else (some v6)) fun (r_143 : Int32) =>
          some (r_143, r_139))
        else (Option.bind (f_goesBack N t) fun r_129 =>
          Option.bind (f_fails r_129 5) fun r_134 =>
          some (r_134.1, r_134.2)))
      else (Option.bind (f_reasonForBox t v7 v2) fun r_89 =>
        if r_89.1 = 0 then (Option.bind (f_goes r_89.2 v2) fun r_97 =>
          Option.bind (f_beside r_97.2 v7 v2) fun r_105 =>
          f_pushing_L N n v2 v3 v5 (v6 + 1) r_105 r_97.2)
        else (if ((ra r_89.2 1) (Int32.toNatClampNeg 4)) ≤ 400 then (Option.bind (f_commands N r_89.2) fun r_139 =>
            Option.bind (if v3 = 0 then (some (((ra r_139 1) (Int32.toNatClampNeg 4)) - v5))
              else (some v6)) fun (r_143 : Int32) =>
            some (r_143, r_139))
          else (Option.bind (f_goesBack N r_89.2) fun r_129 =>
            Option.bind (f_fails r_129 5) fun r_134 =>
            some (r_134.1, r_134.2)))))
theorem u_pushing_69 (N n : Nat) (v2 : Int32) (v3 : Int32) (v5 : Int32) (v6 : Int32) (v7 : Int32) (t : xT) : f_pushing_L N (n + 1) v2 v3 v5 v6 v7 t = (if v3 = 0 then (if ((ra t 1) (Int32.toNatClampNeg 4)) ≤ 400 then (Option.bind (f_commands N t) fun r_139 =>
        Option.bind (if v3 = 0 then (some (((ra r_139 1) (Int32.toNatClampNeg 4)) - v5))
          else (some v6)) fun (r_143 : Int32) =>
        some (r_143, r_139))
      else (Option.bind (f_goesBack N t) fun r_129 =>
        Option.bind (f_fails r_129 5) fun r_134 =>
        some (r_134.1, r_134.2)))
    else (Option.bind (f_isTunnel t v7 (v2 - v2 / 2 * 2)) fun r_79 =>
      if r_79 = 0 then (if ((ra t 1) (Int32.toNatClampNeg 4)) ≤ 400 then (Option.bind (f_commands N t) fun r_139 =>
          Option.bind (if v3 = 0 then (some (((ra r_139 1) (Int32.toNatClampNeg 4)) - v5))
            else (some v6)) fun (r_143 : Int32) =>
          some (r_143, r_139))
        else (Option.bind (f_goesBack N t) fun r_129 =>
          Option.bind (f_fails r_129 5) fun r_134 =>
          some (r_134.1, r_134.2)))
      else (Option.bind (f_reasonForBox t v7 v2) fun r_89 =>
        if r_89.1 = 0 then (Option.bind (f_goes r_89.2 v2) fun r_97 =>
          Option.bind (f_beside r_97.2 v7 v2) fun r_105 =>
          f_pushing_L N n v2 v3 v5 (v6 + 1) r_105 r_97.2)
        else (if ((ra r_89.2 1) (Int32.toNatClampNeg 4)) ≤ 400 then (Option.bind (f_commands N r_89.2) fun r_139 =>
            Option.bind (if v3 = 0 then (some (((ra r_139 1) (Int32.toNatClampNeg 4)) - v5))
              else (some v6)) fun (r_143 : Int32) =>
            some (r_143, r_139))
          else (Option.bind (f_goesBack N r_89.2) fun r_129 =>
            Option.bind (f_fails r_129 5) fun r_134 =>
            some (r_134.1, r_134.2)))))) := rfl
def f_pushing (N : Nat) (t : xT) (a0 : Int32) (a1 : Int32) (a2 : Int32) : Option (Int32 × xT) :=
  Option.bind (f_pushStops t a0 a1) fun r_4 =>
  Option.bind (some (ws t 9 r_4)) fun t_7 =>
  if (rs t_7 9) ≤ 0 then (Option.bind (f_reasonForPush N t_7 a0 a1) fun r_22 =>
    if r_22.1 ≤ 0 then (Option.bind (f_remembers N r_22.2) fun r_41 =>
      Option.bind (f_walksAndPushes N r_41 a0 a1) fun r_55 =>
      Option.bind (f_beside r_55 a0 a1) fun r_64 =>
      f_pushing_L N N a1 a2 ((ra r_41 1) (Int32.toNatClampNeg 4)) 1 r_64 r_55)
    else (Option.bind (f_keeps r_22.2 r_22.1 4) fun r_36 =>
      some (r_36.1, r_36.2)))
  else (some ((0 : Int32), t_7))
theorem d_X12_pushing_0 : decode (mB M_X12_pushing) 0 = .ok (.aload_n 0, 1) := by decide +kernel
theorem d_X12_pushing_1 : decode (mB M_X12_pushing) 1 = .ok (.aload_n 0, 1) := by decide +kernel
theorem d_X12_pushing_2 : decode (mB M_X12_pushing) 2 = .ok (.iload_n 1, 1) := by decide +kernel
theorem d_X12_pushing_3 : decode (mB M_X12_pushing) 3 = .ok (.iload_n 2, 1) := by decide +kernel
theorem d_X12_pushing_4 : decode (mB M_X12_pushing) 4 = .ok (.invokevirtual 233, 3) := by decide +kernel
theorem d_X12_pushing_7 : decode (mB M_X12_pushing) 7 = .ok (.putfield 73, 3) := by decide +kernel
theorem d_X12_pushing_10 : decode (mB M_X12_pushing) 10 = .ok (.aload_n 0, 1) := by decide +kernel
theorem d_X12_pushing_11 : decode (mB M_X12_pushing) 11 = .ok (.getfield 73, 3) := by decide +kernel
theorem d_X12_pushing_14 : decode (mB M_X12_pushing) 14 = .ok (.ifCond .le 5, 3) := by decide +kernel
theorem d_X12_pushing_17 : decode (mB M_X12_pushing) 17 = .ok (.iconst 0, 1) := by decide +kernel
theorem d_X12_pushing_18 : decode (mB M_X12_pushing) 18 = .ok (.ireturn, 1) := by decide +kernel
theorem d_X12_pushing_19 : decode (mB M_X12_pushing) 19 = .ok (.aload_n 0, 1) := by decide +kernel
theorem d_X12_pushing_20 : decode (mB M_X12_pushing) 20 = .ok (.iload_n 1, 1) := by decide +kernel
theorem d_X12_pushing_21 : decode (mB M_X12_pushing) 21 = .ok (.iload_n 2, 1) := by decide +kernel
theorem d_X12_pushing_22 : decode (mB M_X12_pushing) 22 = .ok (.invokevirtual 236, 3) := by decide +kernel
theorem d_X12_pushing_25 : decode (mB M_X12_pushing) 25 = .ok (.istore 4, 2) := by decide +kernel
theorem d_X12_pushing_27 : decode (mB M_X12_pushing) 27 = .ok (.iload 4, 2) := by decide +kernel
theorem d_X12_pushing_29 : decode (mB M_X12_pushing) 29 = .ok (.ifCond .le 11, 3) := by decide +kernel
theorem d_X12_pushing_32 : decode (mB M_X12_pushing) 32 = .ok (.aload_n 0, 1) := by decide +kernel
theorem d_X12_pushing_33 : decode (mB M_X12_pushing) 33 = .ok (.iload 4, 2) := by decide +kernel
theorem d_X12_pushing_35 : decode (mB M_X12_pushing) 35 = .ok (.iconst 4, 1) := by decide +kernel
theorem d_X12_pushing_36 : decode (mB M_X12_pushing) 36 = .ok (.invokevirtual 218, 3) := by decide +kernel
theorem d_X12_pushing_39 : decode (mB M_X12_pushing) 39 = .ok (.ireturn, 1) := by decide +kernel
theorem d_X12_pushing_40 : decode (mB M_X12_pushing) 40 = .ok (.aload_n 0, 1) := by decide +kernel
theorem d_X12_pushing_41 : decode (mB M_X12_pushing) 41 = .ok (.invokevirtual 221, 3) := by decide +kernel
theorem d_X12_pushing_44 : decode (mB M_X12_pushing) 44 = .ok (.aload_n 0, 1) := by decide +kernel
theorem d_X12_pushing_45 : decode (mB M_X12_pushing) 45 = .ok (.getfield 7, 3) := by decide +kernel
theorem d_X12_pushing_48 : decode (mB M_X12_pushing) 48 = .ok (.iconst 4, 1) := by decide +kernel
theorem d_X12_pushing_49 : decode (mB M_X12_pushing) 49 = .ok (.iaload, 1) := by decide +kernel
theorem d_X12_pushing_50 : decode (mB M_X12_pushing) 50 = .ok (.istore 5, 2) := by decide +kernel
theorem d_X12_pushing_52 : decode (mB M_X12_pushing) 52 = .ok (.aload_n 0, 1) := by decide +kernel
theorem d_X12_pushing_53 : decode (mB M_X12_pushing) 53 = .ok (.iload_n 1, 1) := by decide +kernel
theorem d_X12_pushing_54 : decode (mB M_X12_pushing) 54 = .ok (.iload_n 2, 1) := by decide +kernel
theorem d_X12_pushing_55 : decode (mB M_X12_pushing) 55 = .ok (.invokevirtual 239, 3) := by decide +kernel
theorem d_X12_pushing_58 : decode (mB M_X12_pushing) 58 = .ok (.iconst 1, 1) := by decide +kernel
theorem d_X12_pushing_59 : decode (mB M_X12_pushing) 59 = .ok (.istore 6, 2) := by decide +kernel
theorem d_X12_pushing_61 : decode (mB M_X12_pushing) 61 = .ok (.aload_n 0, 1) := by decide +kernel
theorem d_X12_pushing_62 : decode (mB M_X12_pushing) 62 = .ok (.iload_n 1, 1) := by decide +kernel
theorem d_X12_pushing_63 : decode (mB M_X12_pushing) 63 = .ok (.iload_n 2, 1) := by decide +kernel
theorem d_X12_pushing_64 : decode (mB M_X12_pushing) 64 = .ok (.invokevirtual 136, 3) := by decide +kernel
theorem d_X12_pushing_67 : decode (mB M_X12_pushing) 67 = .ok (.istore 7, 2) := by decide +kernel
theorem d_X12_pushing_69 : decode (mB M_X12_pushing) 69 = .ok (.iload_n 3, 1) := by decide +kernel
theorem d_X12_pushing_70 : decode (mB M_X12_pushing) 70 = .ok (.ifCond .eq 46, 3) := by decide +kernel
theorem d_X12_pushing_73 : decode (mB M_X12_pushing) 73 = .ok (.aload_n 0, 1) := by decide +kernel
theorem d_X12_pushing_74 : decode (mB M_X12_pushing) 74 = .ok (.iload 7, 2) := by decide +kernel
theorem d_X12_pushing_76 : decode (mB M_X12_pushing) 76 = .ok (.iload_n 2, 1) := by decide +kernel
theorem d_X12_pushing_77 : decode (mB M_X12_pushing) 77 = .ok (.iconst 2, 1) := by decide +kernel
theorem d_X12_pushing_78 : decode (mB M_X12_pushing) 78 = .ok (.irem, 1) := by decide +kernel
theorem d_X12_pushing_79 : decode (mB M_X12_pushing) 79 = .ok (.invokevirtual 157, 3) := by decide +kernel
theorem d_X12_pushing_82 : decode (mB M_X12_pushing) 82 = .ok (.ifCond .eq 34, 3) := by decide +kernel
theorem d_X12_pushing_85 : decode (mB M_X12_pushing) 85 = .ok (.aload_n 0, 1) := by decide +kernel
theorem d_X12_pushing_86 : decode (mB M_X12_pushing) 86 = .ok (.iload 7, 2) := by decide +kernel
theorem d_X12_pushing_88 : decode (mB M_X12_pushing) 88 = .ok (.iload_n 2, 1) := by decide +kernel
theorem d_X12_pushing_89 : decode (mB M_X12_pushing) 89 = .ok (.invokevirtual 206, 3) := by decide +kernel
theorem d_X12_pushing_92 : decode (mB M_X12_pushing) 92 = .ok (.ifCond .ne 24, 3) := by decide +kernel
theorem d_X12_pushing_95 : decode (mB M_X12_pushing) 95 = .ok (.aload_n 0, 1) := by decide +kernel
theorem d_X12_pushing_96 : decode (mB M_X12_pushing) 96 = .ok (.iload_n 2, 1) := by decide +kernel
theorem d_X12_pushing_97 : decode (mB M_X12_pushing) 97 = .ok (.invokevirtual 227, 3) := by decide +kernel
theorem d_X12_pushing_100 : decode (mB M_X12_pushing) 100 = .ok (.pop, 1) := by decide +kernel
theorem d_X12_pushing_101 : decode (mB M_X12_pushing) 101 = .ok (.aload_n 0, 1) := by decide +kernel
theorem d_X12_pushing_102 : decode (mB M_X12_pushing) 102 = .ok (.iload 7, 2) := by decide +kernel
theorem d_X12_pushing_104 : decode (mB M_X12_pushing) 104 = .ok (.iload_n 2, 1) := by decide +kernel
theorem d_X12_pushing_105 : decode (mB M_X12_pushing) 105 = .ok (.invokevirtual 136, 3) := by decide +kernel
theorem d_X12_pushing_108 : decode (mB M_X12_pushing) 108 = .ok (.istore 7, 2) := by decide +kernel
theorem d_X12_pushing_110 : decode (mB M_X12_pushing) 110 = .ok (.iinc 6 1, 3) := by decide +kernel
theorem d_X12_pushing_113 : decode (mB M_X12_pushing) 113 = .ok (.goto (-44), 3) := by decide +kernel
theorem d_X12_pushing_116 : decode (mB M_X12_pushing) 116 = .ok (.aload_n 0, 1) := by decide +kernel
theorem d_X12_pushing_117 : decode (mB M_X12_pushing) 117 = .ok (.getfield 7, 3) := by decide +kernel
theorem d_X12_pushing_120 : decode (mB M_X12_pushing) 120 = .ok (.iconst 4, 1) := by decide +kernel
theorem d_X12_pushing_121 : decode (mB M_X12_pushing) 121 = .ok (.iaload, 1) := by decide +kernel
theorem d_X12_pushing_122 : decode (mB M_X12_pushing) 122 = .ok (.sipush 400, 3) := by decide +kernel
theorem d_X12_pushing_125 : decode (mB M_X12_pushing) 125 = .ok (.if_icmp .le 13, 3) := by decide +kernel
theorem d_X12_pushing_128 : decode (mB M_X12_pushing) 128 = .ok (.aload_n 0, 1) := by decide +kernel
theorem d_X12_pushing_129 : decode (mB M_X12_pushing) 129 = .ok (.invokevirtual 243, 3) := by decide +kernel
theorem d_X12_pushing_132 : decode (mB M_X12_pushing) 132 = .ok (.aload_n 0, 1) := by decide +kernel
theorem d_X12_pushing_133 : decode (mB M_X12_pushing) 133 = .ok (.iconst 5, 1) := by decide +kernel
theorem d_X12_pushing_134 : decode (mB M_X12_pushing) 134 = .ok (.invokevirtual 114, 3) := by decide +kernel
theorem d_X12_pushing_137 : decode (mB M_X12_pushing) 137 = .ok (.ireturn, 1) := by decide +kernel
theorem d_X12_pushing_138 : decode (mB M_X12_pushing) 138 = .ok (.aload_n 0, 1) := by decide +kernel
theorem d_X12_pushing_139 : decode (mB M_X12_pushing) 139 = .ok (.invokevirtual 224, 3) := by decide +kernel
theorem d_X12_pushing_142 : decode (mB M_X12_pushing) 142 = .ok (.iload_n 3, 1) := by decide +kernel
theorem d_X12_pushing_143 : decode (mB M_X12_pushing) 143 = .ok (.ifCond .eq 8, 3) := by decide +kernel
theorem d_X12_pushing_146 : decode (mB M_X12_pushing) 146 = .ok (.iload 6, 2) := by decide +kernel
theorem d_X12_pushing_148 : decode (mB M_X12_pushing) 148 = .ok (.goto 12, 3) := by decide +kernel
theorem d_X12_pushing_151 : decode (mB M_X12_pushing) 151 = .ok (.aload_n 0, 1) := by decide +kernel
theorem d_X12_pushing_152 : decode (mB M_X12_pushing) 152 = .ok (.getfield 7, 3) := by decide +kernel
theorem d_X12_pushing_155 : decode (mB M_X12_pushing) 155 = .ok (.iconst 4, 1) := by decide +kernel
theorem d_X12_pushing_156 : decode (mB M_X12_pushing) 156 = .ok (.iaload, 1) := by decide +kernel
theorem d_X12_pushing_157 : decode (mB M_X12_pushing) 157 = .ok (.iload 5, 2) := by decide +kernel
theorem d_X12_pushing_159 : decode (mB M_X12_pushing) 159 = .ok (.isub, 1) := by decide +kernel
theorem d_X12_pushing_160 : decode (mB M_X12_pushing) 160 = .ok (.ireturn, 1) := by decide +kernel
theorem l_m_pushing {E : mEnv} (hE : E.1.stackTraces = false) (C : List mE) (N : Nat) : ∀ n : Nat, (∀ (v2 : Int32) (v3 : Int32) (v5 : Int32) (v6 : Int32) (v7 : Int32) (t : xT) (r : Int32 × xT), f_pushing_L N n v2 v3 v5 v6 v7 t = some r → Go E M_X12_pushing 0 (69, [some (.ref 0), none, some (.int v2), some (.int v3), none, some (.int v5), some (.int v6), some (.int v7)], [], (mw t, C)) (.inr (.inl (some (.int r.1), (mw r.2, C))))) := by
  intro n
  induction n with
  | zero => exact fun v2 v3 v5 v6 v7 t r h => by cases h
  | succ n ih =>
    intro v2 v3 v5 v6 v7 t r h
    rw [u_pushing_69] at h
    refine g_iload_n d_X12_pushing_69 rfl ?_
    refine g_if_eq (tgt := 116) d_X12_pushing_70 (by decide) (fun c_70 => ?_) (fun c_70 => ?_)
    · replace h := opos c_70 h
      refine g_aload_n d_X12_pushing_116 rfl ?_
      refine g_getf d_X12_pushing_117 f_X12_7 (gm0 t C) rfl ?_
      refine g_iconst (v := 4) d_X12_pushing_120 (by decide) ?_
      refine g_iald d_X12_pushing_121 (gm_1 t C) (inB_in (by decide)) ?_
      refine g_sipush (v := 400) d_X12_pushing_122 (by decide) ?_
      refine g_icmp_le (tgt := 138) d_X12_pushing_125 (by decide) (fun c_125 => ?_) (fun c_125 => ?_)
      · replace h := opos c_125 h
        refine g_aload_n d_X12_pushing_138 rfl ?_
        obtain ⟨r_139, h_139, h⟩ := obind h
        refine g_callV (As := []) d_X12_pushing_139 o_X12_commands l_X12_224 ⟨Nat.le_of_ble_eq_true rfl, Nat.le_of_ble_eq_true rfl⟩ (c_m_commands hE C N t _ h_139) (gm0 t C) rfl rfl rfl rfl rfl ?_ (Nat.zero_add _)
        refine g_iload_n d_X12_pushing_142 rfl ?_
        obtain ⟨r_143, h_143, hh_143⟩ := obind h
        refine Go.trans0 (S1 := (160, [none, none, none, none, none, none, none, none], [.int r_143], (mw r_139, C))) ?_ ?_
        · replace h := h_143
          clear hh_143
          refine g_if_eq (tgt := 151) d_X12_pushing_143 (by decide) (fun c_143 => ?_) (fun c_143 => ?_)
          · replace h := opos c_143 h
            refine g_aload_n d_X12_pushing_151 rfl ?_
            refine g_getf d_X12_pushing_152 f_X12_7 (gm0 r_139 C) rfl ?_
            refine g_iconst (v := 4) d_X12_pushing_155 (by decide) ?_
            refine g_iald d_X12_pushing_156 (gm_1 r_139 C) (inB_in (by decide)) ?_
            refine g_iload d_X12_pushing_157 rfl ?_
            refine g_isub d_X12_pushing_159 ?_
            obtain rfl := osome h
            exact g_drop [0, 2, 3, 5, 6, 7] rfl (g_end rfl)
          · replace h := oneg c_143 h
            refine g_iload d_X12_pushing_146 rfl ?_
            refine g_goto (tgt := 160) d_X12_pushing_148 (by decide) ?_
            obtain rfl := osome h
            exact g_drop [0, 2, 3, 5, 6, 7] rfl (g_end rfl)
        replace h := hh_143
        obtain rfl := osome h
        exact g_retI d_X12_pushing_160 rfl rfl rfl
      · replace h := oneg c_125 h
        refine g_aload_n d_X12_pushing_128 rfl ?_
        obtain ⟨r_129, h_129, h⟩ := obind h
        refine g_callV (As := []) d_X12_pushing_129 o_X12_goesBack l_X12_243 ⟨Nat.le_of_ble_eq_true rfl, Nat.le_of_ble_eq_true rfl⟩ (c_m_goesBack hE C N t _ h_129) (gm0 t C) rfl rfl rfl rfl rfl ?_ (Nat.zero_add _)
        refine g_aload_n d_X12_pushing_132 rfl ?_
        refine g_iconst (v := 5) d_X12_pushing_133 (by decide) ?_
        obtain ⟨r_134, h_134, h⟩ := obind h
        refine g_callV (As := [.int 5]) d_X12_pushing_134 o_X12_fails l_X12_114 ⟨Nat.le_of_ble_eq_true rfl, Nat.le_of_ble_eq_true rfl⟩ (c_m_fails hE C r_129 5 _ h_134) (gm0 r_129 C) rfl rfl rfl rfl rfl ?_ (Nat.zero_add _)
        obtain rfl := osome h
        exact g_retI d_X12_pushing_137 rfl rfl rfl
    · replace h := oneg c_70 h
      refine g_aload_n d_X12_pushing_73 rfl ?_
      refine g_iload d_X12_pushing_74 rfl ?_
      refine g_iload_n d_X12_pushing_76 rfl ?_
      refine g_iconst (v := 2) d_X12_pushing_77 (by decide) ?_
      refine g_irem d_X12_pushing_78 (by decide) ?_
      obtain ⟨r_79, h_79, h⟩ := obind h
      refine g_callV (As := [.int v7, .int (v2 - v2 / 2 * 2)]) d_X12_pushing_79 o_X12_isTunnel l_X12_157 ⟨Nat.le_of_ble_eq_true rfl, Nat.le_of_ble_eq_true rfl⟩ (c_m_isTunnel hE C t v7 (v2 - v2 / 2 * 2) _ h_79) (gm0 t C) rfl rfl rfl rfl rfl ?_ (Nat.zero_add _)
      refine g_if_eq (tgt := 116) d_X12_pushing_82 (by decide) (fun c_82 => ?_) (fun c_82 => ?_)
      · replace h := opos c_82 h
        refine g_aload_n d_X12_pushing_116 rfl ?_
        refine g_getf d_X12_pushing_117 f_X12_7 (gm0 t C) rfl ?_
        refine g_iconst (v := 4) d_X12_pushing_120 (by decide) ?_
        refine g_iald d_X12_pushing_121 (gm_1 t C) (inB_in (by decide)) ?_
        refine g_sipush (v := 400) d_X12_pushing_122 (by decide) ?_
        refine g_icmp_le (tgt := 138) d_X12_pushing_125 (by decide) (fun c_125 => ?_) (fun c_125 => ?_)
        · replace h := opos c_125 h
          refine g_aload_n d_X12_pushing_138 rfl ?_
          obtain ⟨r_139, h_139, h⟩ := obind h
          refine g_callV (As := []) d_X12_pushing_139 o_X12_commands l_X12_224 ⟨Nat.le_of_ble_eq_true rfl, Nat.le_of_ble_eq_true rfl⟩ (c_m_commands hE C N t _ h_139) (gm0 t C) rfl rfl rfl rfl rfl ?_ (Nat.zero_add _)
          refine g_iload_n d_X12_pushing_142 rfl ?_
          obtain ⟨r_143, h_143, hh_143⟩ := obind h
          refine Go.trans0 (S1 := (160, [none, none, none, none, none, none, none, none], [.int r_143], (mw r_139, C))) ?_ ?_
          · replace h := h_143
            clear hh_143
            refine g_if_eq (tgt := 151) d_X12_pushing_143 (by decide) (fun c_143 => ?_) (fun c_143 => ?_)
            · replace h := opos c_143 h
              refine g_aload_n d_X12_pushing_151 rfl ?_
              refine g_getf d_X12_pushing_152 f_X12_7 (gm0 r_139 C) rfl ?_
              refine g_iconst (v := 4) d_X12_pushing_155 (by decide) ?_
              refine g_iald d_X12_pushing_156 (gm_1 r_139 C) (inB_in (by decide)) ?_
              refine g_iload d_X12_pushing_157 rfl ?_
              refine g_isub d_X12_pushing_159 ?_
              obtain rfl := osome h
              exact g_drop [0, 2, 3, 5, 6, 7] rfl (g_end rfl)
            · replace h := oneg c_143 h
              refine g_iload d_X12_pushing_146 rfl ?_
              refine g_goto (tgt := 160) d_X12_pushing_148 (by decide) ?_
              obtain rfl := osome h
              exact g_drop [0, 2, 3, 5, 6, 7] rfl (g_end rfl)
          replace h := hh_143
          obtain rfl := osome h
          exact g_retI d_X12_pushing_160 rfl rfl rfl
        · replace h := oneg c_125 h
          refine g_aload_n d_X12_pushing_128 rfl ?_
          obtain ⟨r_129, h_129, h⟩ := obind h
          refine g_callV (As := []) d_X12_pushing_129 o_X12_goesBack l_X12_243 ⟨Nat.le_of_ble_eq_true rfl, Nat.le_of_ble_eq_true rfl⟩ (c_m_goesBack hE C N t _ h_129) (gm0 t C) rfl rfl rfl rfl rfl ?_ (Nat.zero_add _)
          refine g_aload_n d_X12_pushing_132 rfl ?_
          refine g_iconst (v := 5) d_X12_pushing_133 (by decide) ?_
          obtain ⟨r_134, h_134, h⟩ := obind h
          refine g_callV (As := [.int 5]) d_X12_pushing_134 o_X12_fails l_X12_114 ⟨Nat.le_of_ble_eq_true rfl, Nat.le_of_ble_eq_true rfl⟩ (c_m_fails hE C r_129 5 _ h_134) (gm0 r_129 C) rfl rfl rfl rfl rfl ?_ (Nat.zero_add _)
          obtain rfl := osome h
          exact g_retI d_X12_pushing_137 rfl rfl rfl
      · replace h := oneg c_82 h
        refine g_aload_n d_X12_pushing_85 rfl ?_
        refine g_iload d_X12_pushing_86 rfl ?_
        refine g_iload_n d_X12_pushing_88 rfl ?_
        obtain ⟨r_89, h_89, h⟩ := obind h
        refine g_callV (As := [.int v7, .int v2]) d_X12_pushing_89 o_X12_reasonForBox l_X12_206 ⟨Nat.le_of_ble_eq_true rfl, Nat.le_of_ble_eq_true rfl⟩ (c_m_reasonForBox hE C t v7 v2 _ h_89) (gm0 t C) rfl rfl rfl rfl rfl ?_ (Nat.zero_add _)
        refine g_if_ne (tgt := 116) d_X12_pushing_92 (by decide) (fun c_92 => ?_) (fun c_92 => ?_)
        · replace h := oneg c_92 h
          refine g_aload_n d_X12_pushing_116 rfl ?_
          refine g_getf d_X12_pushing_117 f_X12_7 (gm0 r_89.2 C) rfl ?_
          refine g_iconst (v := 4) d_X12_pushing_120 (by decide) ?_
          refine g_iald d_X12_pushing_121 (gm_1 r_89.2 C) (inB_in (by decide)) ?_
          refine g_sipush (v := 400) d_X12_pushing_122 (by decide) ?_
          refine g_icmp_le (tgt := 138) d_X12_pushing_125 (by decide) (fun c_125 => ?_) (fun c_125 => ?_)
          · replace h := opos c_125 h
            refine g_aload_n d_X12_pushing_138 rfl ?_
            obtain ⟨r_139, h_139, h⟩ := obind h
            refine g_callV (As := []) d_X12_pushing_139 o_X12_commands l_X12_224 ⟨Nat.le_of_ble_eq_true rfl, Nat.le_of_ble_eq_true rfl⟩ (c_m_commands hE C N r_89.2 _ h_139) (gm0 r_89.2 C) rfl rfl rfl rfl rfl ?_ (Nat.zero_add _)
            refine g_iload_n d_X12_pushing_142 rfl ?_
            obtain ⟨r_143, h_143, hh_143⟩ := obind h
            refine Go.trans0 (S1 := (160, [none, none, none, none, none, none, none, none], [.int r_143], (mw r_139, C))) ?_ ?_
            · replace h := h_143
              clear hh_143
              refine g_if_eq (tgt := 151) d_X12_pushing_143 (by decide) (fun c_143 => ?_) (fun c_143 => ?_)
              · replace h := opos c_143 h
                refine g_aload_n d_X12_pushing_151 rfl ?_
                refine g_getf d_X12_pushing_152 f_X12_7 (gm0 r_139 C) rfl ?_
                refine g_iconst (v := 4) d_X12_pushing_155 (by decide) ?_
                refine g_iald d_X12_pushing_156 (gm_1 r_139 C) (inB_in (by decide)) ?_
                refine g_iload d_X12_pushing_157 rfl ?_
                refine g_isub d_X12_pushing_159 ?_
                obtain rfl := osome h
                exact g_drop [0, 2, 3, 5, 6, 7] rfl (g_end rfl)
              · replace h := oneg c_143 h
                refine g_iload d_X12_pushing_146 rfl ?_
                refine g_goto (tgt := 160) d_X12_pushing_148 (by decide) ?_
                obtain rfl := osome h
                exact g_drop [0, 2, 3, 5, 6, 7] rfl (g_end rfl)
            replace h := hh_143
            obtain rfl := osome h
            exact g_retI d_X12_pushing_160 rfl rfl rfl
          · replace h := oneg c_125 h
            refine g_aload_n d_X12_pushing_128 rfl ?_
            obtain ⟨r_129, h_129, h⟩ := obind h
            refine g_callV (As := []) d_X12_pushing_129 o_X12_goesBack l_X12_243 ⟨Nat.le_of_ble_eq_true rfl, Nat.le_of_ble_eq_true rfl⟩ (c_m_goesBack hE C N r_89.2 _ h_129) (gm0 r_89.2 C) rfl rfl rfl rfl rfl ?_ (Nat.zero_add _)
            refine g_aload_n d_X12_pushing_132 rfl ?_
            refine g_iconst (v := 5) d_X12_pushing_133 (by decide) ?_
            obtain ⟨r_134, h_134, h⟩ := obind h
            refine g_callV (As := [.int 5]) d_X12_pushing_134 o_X12_fails l_X12_114 ⟨Nat.le_of_ble_eq_true rfl, Nat.le_of_ble_eq_true rfl⟩ (c_m_fails hE C r_129 5 _ h_134) (gm0 r_129 C) rfl rfl rfl rfl rfl ?_ (Nat.zero_add _)
            obtain rfl := osome h
            exact g_retI d_X12_pushing_137 rfl rfl rfl
        · replace h := opos c_92 h
          refine g_aload_n d_X12_pushing_95 rfl ?_
          refine g_iload_n d_X12_pushing_96 rfl ?_
          obtain ⟨r_97, h_97, h⟩ := obind h
          refine g_callV (As := [.int v2]) d_X12_pushing_97 o_X12_goes l_X12_227 ⟨Nat.le_of_ble_eq_true rfl, Nat.le_of_ble_eq_true rfl⟩ (c_m_goes hE C r_89.2 v2 _ h_97) (gm0 r_89.2 C) rfl rfl rfl rfl rfl ?_ (Nat.zero_add _)
          refine g_pop d_X12_pushing_100 rfl ?_
          refine g_aload_n d_X12_pushing_101 rfl ?_
          refine g_iload d_X12_pushing_102 rfl ?_
          refine g_iload_n d_X12_pushing_104 rfl ?_
          obtain ⟨r_105, h_105, h⟩ := obind h
          refine g_callV (As := [.int v7, .int v2]) d_X12_pushing_105 o_X12_beside l_X12_136 ⟨Nat.le_of_ble_eq_true rfl, Nat.le_of_ble_eq_true rfl⟩ (c_m_beside hE C r_97.2 v7 v2 _ h_105) (gm0 r_97.2 C) rfl rfl rfl rfl rfl ?_ (Nat.zero_add _)
          refine g_istore (L' := [some (.ref 0), none, some (.int v2), some (.int v3), none, some (.int v5), some (.int v6), some (.int r_105)]) d_X12_pushing_108 rfl rfl ?_
          refine g_iinc (v := (v6 + 1)) (L' := [some (.ref 0), none, some (.int v2), some (.int v3), none, some (.int v5), some (.int (v6 + 1)), some (.int r_105)]) d_X12_pushing_110 rfl rfl rfl ?_
          refine g_goto (tgt := 69) d_X12_pushing_113 (by decide) ?_
          exact (ih) v2 v3 v5 (v6 + 1) r_105 r_97.2 _ h
theorem c_m_pushing {E : mEnv} (hE : E.1.stackTraces = false) (C : List mE) (N : Nat) (t : xT) (a0 : Int32) (a1 : Int32) (a2 : Int32) (r : Int32 × xT) (h : f_pushing N t a0 a1 a2 = some r) : Rt E M_X12_pushing 0 [.ref 0, .int a0, .int a1, .int a2] (mw t, C) (some (.int r.1)) (mw r.2, C) := by
  unfold f_pushing at h
  refine Rt.of hE rfl pn_X12 (Nat.le_of_ble_eq_true rfl) ?_
  refine g_eq (S' := (0, [some (.ref 0), some (.int a0), some (.int a1), some (.int a2), none, none, none, none], [], (mw t, C))) rfl ?_
  refine g_aload_n d_X12_pushing_0 rfl ?_
  refine g_aload_n d_X12_pushing_1 rfl ?_
  refine g_iload_n d_X12_pushing_2 rfl ?_
  refine g_iload_n d_X12_pushing_3 rfl ?_
  obtain ⟨r_4, h_4, h⟩ := obind h
  refine g_callV (As := [.int a0, .int a1]) d_X12_pushing_4 o_X12_pushStops l_X12_233 ⟨Nat.le_of_ble_eq_true rfl, Nat.le_of_ble_eq_true rfl⟩ (c_m_pushStops hE C t a0 a1 _ h_4) (gm0 t C) rfl rfl rfl rfl rfl ?_ (Nat.zero_add _)
  obtain ⟨t_7, e_7, h⟩ := olet h
  refine g_putI (w' := (mw t_7, C)) d_X12_pushing_7 p_X12_73 rfl rfl (gm0 t C) (Nat.le_of_ble_eq_true rfl) (by rw [e_7]; exact sc_9 t C _) ?_
  refine g_aload_n d_X12_pushing_10 rfl ?_
  refine g_getf d_X12_pushing_11 f_X12_73 (gm0 t_7 C) rfl ?_
  refine g_if_le (tgt := 19) d_X12_pushing_14 (by decide) (fun c_14 => ?_) (fun c_14 => ?_)
  · replace h := opos c_14 h
    refine g_aload_n d_X12_pushing_19 rfl ?_
    refine g_iload_n d_X12_pushing_20 rfl ?_
    refine g_iload_n d_X12_pushing_21 rfl ?_
    obtain ⟨r_22, h_22, h⟩ := obind h
    refine g_callV (As := [.int a0, .int a1]) d_X12_pushing_22 o_X12_reasonForPush l_X12_236 ⟨Nat.le_of_ble_eq_true rfl, Nat.le_of_ble_eq_true rfl⟩ (c_m_reasonForPush hE C N t_7 a0 a1 _ h_22) (gm0 t_7 C) rfl rfl rfl rfl rfl ?_ (Nat.zero_add _)
    refine g_istore (L' := [some (.ref 0), some (.int a0), some (.int a1), some (.int a2), some (.int r_22.1), none, none, none]) d_X12_pushing_25 rfl rfl ?_
    refine g_iload d_X12_pushing_27 rfl ?_
    refine g_if_le (tgt := 40) d_X12_pushing_29 (by decide) (fun c_29 => ?_) (fun c_29 => ?_)
    · replace h := opos c_29 h
      refine g_aload_n d_X12_pushing_40 rfl ?_
      obtain ⟨r_41, h_41, h⟩ := obind h
      refine g_callV (As := []) d_X12_pushing_41 o_X12_remembers l_X12_221 ⟨Nat.le_of_ble_eq_true rfl, Nat.le_of_ble_eq_true rfl⟩ (c_m_remembers hE C N r_22.2 _ h_41) (gm0 r_22.2 C) rfl rfl rfl rfl rfl ?_ (Nat.zero_add _)
      refine g_aload_n d_X12_pushing_44 rfl ?_
      refine g_getf d_X12_pushing_45 f_X12_7 (gm0 r_41 C) rfl ?_
      refine g_iconst (v := 4) d_X12_pushing_48 (by decide) ?_
      refine g_iald d_X12_pushing_49 (gm_1 r_41 C) (inB_in (by decide)) ?_
      refine g_istore (L' := [some (.ref 0), some (.int a0), some (.int a1), some (.int a2), some (.int r_22.1), some (.int ((ra r_41 1) (Int32.toNatClampNeg 4))), none, none]) d_X12_pushing_50 rfl rfl ?_
      refine g_aload_n d_X12_pushing_52 rfl ?_
      refine g_iload_n d_X12_pushing_53 rfl ?_
      refine g_iload_n d_X12_pushing_54 rfl ?_
      obtain ⟨r_55, h_55, h⟩ := obind h
      refine g_callV (As := [.int a0, .int a1]) d_X12_pushing_55 o_X12_walksAndPushes l_X12_239 ⟨Nat.le_of_ble_eq_true rfl, Nat.le_of_ble_eq_true rfl⟩ (c_m_walksAndPushes hE C N r_41 a0 a1 _ h_55) (gm0 r_41 C) rfl rfl rfl rfl rfl ?_ (Nat.zero_add _)
      refine g_iconst (v := 1) d_X12_pushing_58 (by decide) ?_
      refine g_istore (L' := [some (.ref 0), some (.int a0), some (.int a1), some (.int a2), some (.int r_22.1), some (.int ((ra r_41 1) (Int32.toNatClampNeg 4))), some (.int 1), none]) d_X12_pushing_59 rfl rfl ?_
      refine g_aload_n d_X12_pushing_61 rfl ?_
      refine g_iload_n d_X12_pushing_62 rfl ?_
      refine g_iload_n d_X12_pushing_63 rfl ?_
      obtain ⟨r_64, h_64, h⟩ := obind h
      refine g_callV (As := [.int a0, .int a1]) d_X12_pushing_64 o_X12_beside l_X12_136 ⟨Nat.le_of_ble_eq_true rfl, Nat.le_of_ble_eq_true rfl⟩ (c_m_beside hE C r_55 a0 a1 _ h_64) (gm0 r_55 C) rfl rfl rfl rfl rfl ?_ (Nat.zero_add _)
      refine g_istore (L' := [some (.ref 0), some (.int a0), some (.int a1), some (.int a2), some (.int r_22.1), some (.int ((ra r_41 1) (Int32.toNatClampNeg 4))), some (.int 1), some (.int r_64)]) d_X12_pushing_67 rfl rfl ?_
      refine g_drop [1, 4] (L1 := [some (.ref 0), none, some (.int a1), some (.int a2), none, some (.int ((ra r_41 1) (Int32.toNatClampNeg 4))), some (.int 1), some (.int r_64)]) rfl ?_
      exact (l_m_pushing hE C N N) a1 a2 ((ra r_41 1) (Int32.toNatClampNeg 4)) 1 r_64 r_55 _ h
    · replace h := oneg c_29 h
      refine g_aload_n d_X12_pushing_32 rfl ?_
      refine g_iload d_X12_pushing_33 rfl ?_
      refine g_iconst (v := 4) d_X12_pushing_35 (by decide) ?_
      obtain ⟨r_36, h_36, h⟩ := obind h
      refine g_callV (As := [.int r_22.1, .int 4]) d_X12_pushing_36 o_X12_keeps l_X12_218 ⟨Nat.le_of_ble_eq_true rfl, Nat.le_of_ble_eq_true rfl⟩ (c_m_keeps hE C r_22.2 r_22.1 4 _ h_36) (gm0 r_22.2 C) rfl rfl rfl rfl rfl ?_ (Nat.zero_add _)
      obtain rfl := osome h
      exact g_retI d_X12_pushing_39 rfl rfl rfl
  · replace h := oneg c_14 h
    refine g_iconst (v := 0) d_X12_pushing_17 (by decide) ?_
    obtain rfl := osome h
    exact g_retI d_X12_pushing_18 rfl rfl rfl
def f_push (N : Nat) (t : xT) (a0 : Int32) (a1 : Int32) : Option (Int32 × xT) :=
  Option.bind (f_pushing N t a0 a1 0) fun r_4 =>
  some (r_4.1, r_4.2)
theorem d_X12_push_0 : decode (mB M_X12_push) 0 = .ok (.aload_n 0, 1) := by decide +kernel
theorem d_X12_push_1 : decode (mB M_X12_push) 1 = .ok (.iload_n 1, 1) := by decide +kernel
theorem d_X12_push_2 : decode (mB M_X12_push) 2 = .ok (.iload_n 2, 1) := by decide +kernel
theorem d_X12_push_3 : decode (mB M_X12_push) 3 = .ok (.iconst 0, 1) := by decide +kernel
theorem d_X12_push_4 : decode (mB M_X12_push) 4 = .ok (.invokevirtual 246, 3) := by decide +kernel
theorem d_X12_push_7 : decode (mB M_X12_push) 7 = .ok (.ireturn, 1) := by decide +kernel
theorem c_m_push {E : mEnv} (hE : E.1.stackTraces = false) (C : List mE) (N : Nat) (t : xT) (a0 : Int32) (a1 : Int32) (r : Int32 × xT) (h : f_push N t a0 a1 = some r) : Rt E M_X12_push 0 [.ref 0, .int a0, .int a1] (mw t, C) (some (.int r.1)) (mw r.2, C) := by
  unfold f_push at h
  refine Rt.of hE rfl pn_X12 (Nat.le_of_ble_eq_true rfl) ?_
  refine g_eq (S' := (0, [some (.ref 0), some (.int a0), some (.int a1)], [], (mw t, C))) rfl ?_
  refine g_aload_n d_X12_push_0 rfl ?_
  refine g_iload_n d_X12_push_1 rfl ?_
  refine g_iload_n d_X12_push_2 rfl ?_
  refine g_iconst (v := 0) d_X12_push_3 (by decide) ?_
  obtain ⟨r_4, h_4, h⟩ := obind h
  refine g_callV (As := [.int a0, .int a1, .int 0]) d_X12_push_4 o_X12_pushing l_X12_246 ⟨Nat.le_of_ble_eq_true rfl, Nat.le_of_ble_eq_true rfl⟩ (c_m_pushing hE C N t a0 a1 0 _ h_4) (gm0 t C) rfl rfl rfl rfl rfl ?_ (Nat.zero_add _)
  obtain rfl := osome h
  exact g_retI d_X12_push_7 rfl rfl rfl
def f_longPush (N : Nat) (t : xT) (a0 : Int32) (a1 : Int32) : Option (Int32 × xT) :=
  Option.bind (f_pushing N t a0 a1 1) fun r_4 =>
  some (r_4.1, r_4.2)
theorem d_X12_longPush_0 : decode (mB M_X12_longPush) 0 = .ok (.aload_n 0, 1) := by decide +kernel
theorem d_X12_longPush_1 : decode (mB M_X12_longPush) 1 = .ok (.iload_n 1, 1) := by decide +kernel
theorem d_X12_longPush_2 : decode (mB M_X12_longPush) 2 = .ok (.iload_n 2, 1) := by decide +kernel
theorem d_X12_longPush_3 : decode (mB M_X12_longPush) 3 = .ok (.iconst 1, 1) := by decide +kernel
theorem d_X12_longPush_4 : decode (mB M_X12_longPush) 4 = .ok (.invokevirtual 246, 3) := by decide +kernel
theorem d_X12_longPush_7 : decode (mB M_X12_longPush) 7 = .ok (.ireturn, 1) := by decide +kernel
theorem c_m_longPush {E : mEnv} (hE : E.1.stackTraces = false) (C : List mE) (N : Nat) (t : xT) (a0 : Int32) (a1 : Int32) (r : Int32 × xT) (h : f_longPush N t a0 a1 = some r) : Rt E M_X12_longPush 0 [.ref 0, .int a0, .int a1] (mw t, C) (some (.int r.1)) (mw r.2, C) := by
  unfold f_longPush at h
  refine Rt.of hE rfl pn_X12 (Nat.le_of_ble_eq_true rfl) ?_
  refine g_eq (S' := (0, [some (.ref 0), some (.int a0), some (.int a1)], [], (mw t, C))) rfl ?_
  refine g_aload_n d_X12_longPush_0 rfl ?_
  refine g_iload_n d_X12_longPush_1 rfl ?_
  refine g_iload_n d_X12_longPush_2 rfl ?_
  refine g_iconst (v := 1) d_X12_longPush_3 (by decide) ?_
  obtain ⟨r_4, h_4, h⟩ := obind h
  refine g_callV (As := [.int a0, .int a1, .int 1]) d_X12_longPush_4 o_X12_pushing l_X12_246 ⟨Nat.le_of_ble_eq_true rfl, Nat.le_of_ble_eq_true rfl⟩ (c_m_pushing hE C N t a0 a1 1 _ h_4) (gm0 t C) rfl rfl rfl rfl rfl ?_ (Nat.zero_add _)
  obtain rfl := osome h
  exact g_retI d_X12_longPush_7 rfl rfl rfl
def f_refuses (N : Nat) (t : xT) (a0 : Int32) (a1 : Int32) : Option (Int32 × xT) :=
  Option.bind (f_pushStops t a0 a1) fun r_4 =>
  Option.bind (some (ws t 9 r_4)) fun t_7 =>
  Option.bind (if (rs t_7 9) ≤ 0 then (Option.bind (f_reasonForPush N t_7 a0 a1) fun r_24 =>
      some (r_24.1, r_24.2))
    else (some ((0 : Int32), t_7))) fun (r_14 : Int32 × xT) =>
  some (r_14.1, r_14.2)
theorem d_X12_refuses_0 : decode (mB M_X12_refuses) 0 = .ok (.aload_n 0, 1) := by decide +kernel
theorem d_X12_refuses_1 : decode (mB M_X12_refuses) 1 = .ok (.aload_n 0, 1) := by decide +kernel
theorem d_X12_refuses_2 : decode (mB M_X12_refuses) 2 = .ok (.iload_n 1, 1) := by decide +kernel
theorem d_X12_refuses_3 : decode (mB M_X12_refuses) 3 = .ok (.iload_n 2, 1) := by decide +kernel
theorem d_X12_refuses_4 : decode (mB M_X12_refuses) 4 = .ok (.invokevirtual 233, 3) := by decide +kernel
theorem d_X12_refuses_7 : decode (mB M_X12_refuses) 7 = .ok (.putfield 73, 3) := by decide +kernel
theorem d_X12_refuses_10 : decode (mB M_X12_refuses) 10 = .ok (.aload_n 0, 1) := by decide +kernel
theorem d_X12_refuses_11 : decode (mB M_X12_refuses) 11 = .ok (.getfield 73, 3) := by decide +kernel
theorem d_X12_refuses_14 : decode (mB M_X12_refuses) 14 = .ok (.ifCond .le 7, 3) := by decide +kernel
theorem d_X12_refuses_17 : decode (mB M_X12_refuses) 17 = .ok (.iconst 0, 1) := by decide +kernel
theorem d_X12_refuses_18 : decode (mB M_X12_refuses) 18 = .ok (.goto 9, 3) := by decide +kernel
theorem d_X12_refuses_21 : decode (mB M_X12_refuses) 21 = .ok (.aload_n 0, 1) := by decide +kernel
theorem d_X12_refuses_22 : decode (mB M_X12_refuses) 22 = .ok (.iload_n 1, 1) := by decide +kernel
theorem d_X12_refuses_23 : decode (mB M_X12_refuses) 23 = .ok (.iload_n 2, 1) := by decide +kernel
theorem d_X12_refuses_24 : decode (mB M_X12_refuses) 24 = .ok (.invokevirtual 236, 3) := by decide +kernel
theorem d_X12_refuses_27 : decode (mB M_X12_refuses) 27 = .ok (.ireturn, 1) := by decide +kernel
theorem c_m_refuses {E : mEnv} (hE : E.1.stackTraces = false) (C : List mE) (N : Nat) (t : xT) (a0 : Int32) (a1 : Int32) (r : Int32 × xT) (h : f_refuses N t a0 a1 = some r) : Rt E M_X12_refuses 0 [.ref 0, .int a0, .int a1] (mw t, C) (some (.int r.1)) (mw r.2, C) := by
  unfold f_refuses at h
  refine Rt.of hE rfl pn_X12 (Nat.le_of_ble_eq_true rfl) ?_
  refine g_eq (S' := (0, [some (.ref 0), some (.int a0), some (.int a1)], [], (mw t, C))) rfl ?_
  refine g_aload_n d_X12_refuses_0 rfl ?_
  refine g_aload_n d_X12_refuses_1 rfl ?_
  refine g_iload_n d_X12_refuses_2 rfl ?_
  refine g_iload_n d_X12_refuses_3 rfl ?_
  obtain ⟨r_4, h_4, h⟩ := obind h
  refine g_callV (As := [.int a0, .int a1]) d_X12_refuses_4 o_X12_pushStops l_X12_233 ⟨Nat.le_of_ble_eq_true rfl, Nat.le_of_ble_eq_true rfl⟩ (c_m_pushStops hE C t a0 a1 _ h_4) (gm0 t C) rfl rfl rfl rfl rfl ?_ (Nat.zero_add _)
  obtain ⟨t_7, e_7, h⟩ := olet h
  refine g_putI (w' := (mw t_7, C)) d_X12_refuses_7 p_X12_73 rfl rfl (gm0 t C) (Nat.le_of_ble_eq_true rfl) (by rw [e_7]; exact sc_9 t C _) ?_
  refine g_aload_n d_X12_refuses_10 rfl ?_
  refine g_getf d_X12_refuses_11 f_X12_73 (gm0 t_7 C) rfl ?_
  obtain ⟨r_14, h_14, hh_14⟩ := obind h
  refine Go.trans0 (S1 := (27, [none, none, none], [.int r_14.1], (mw r_14.2, C))) ?_ ?_
  · replace h := h_14
    clear hh_14
    refine g_if_le (tgt := 21) d_X12_refuses_14 (by decide) (fun c_14 => ?_) (fun c_14 => ?_)
    · replace h := opos c_14 h
      refine g_aload_n d_X12_refuses_21 rfl ?_
      refine g_iload_n d_X12_refuses_22 rfl ?_
      refine g_iload_n d_X12_refuses_23 rfl ?_
      obtain ⟨r_24, h_24, h⟩ := obind h
      refine g_callV (As := [.int a0, .int a1]) d_X12_refuses_24 o_X12_reasonForPush l_X12_236 ⟨Nat.le_of_ble_eq_true rfl, Nat.le_of_ble_eq_true rfl⟩ (c_m_reasonForPush hE C N t_7 a0 a1 _ h_24) (gm0 t_7 C) rfl rfl rfl rfl rfl ?_ (Nat.zero_add _)
      obtain rfl := osome h
      exact g_drop [0, 1, 2] rfl (g_end rfl)
    · replace h := oneg c_14 h
      refine g_iconst (v := 0) d_X12_refuses_17 (by decide) ?_
      refine g_goto (tgt := 27) d_X12_refuses_18 (by decide) ?_
      obtain rfl := osome h
      exact g_drop [0, 1, 2] rfl (g_end rfl)
  replace h := hh_14
  obtain rfl := osome h
  exact g_retI d_X12_refuses_27 rfl rfl rfl
def f_directionOf (a0 : Int32) : Int32 := if a0 = 68 then ((2 : Int32)) else (if a0 = 76 then ((3 : Int32)) else (if a0 = 82 then ((1 : Int32)) else (if a0 = 85 then ((0 : Int32)) else (if a0 = 100 then ((2 : Int32)) else (if a0 = 108 then ((3 : Int32)) else (if a0 = 114 then ((1 : Int32)) else (if a0 = 117 then ((0 : Int32)) else (((-1) : Int32)))))))))
theorem d_X12_directionOf_0 : decode (mB M_X12_directionOf) 0 = .ok (.iload_n 0, 1) := by decide +kernel
theorem d_X12_directionOf_1 : decode (mB M_X12_directionOf) 1 = .ok (.lookupswitch 83 #[(68, 79), (76, 81), (82, 77), (85, 75), (100, 79), (108, 81), (114, 77), (117, 75)], 75) := by decide +kernel
theorem d_X12_directionOf_76 : decode (mB M_X12_directionOf) 76 = .ok (.iconst 0, 1) := by decide +kernel
theorem d_X12_directionOf_77 : decode (mB M_X12_directionOf) 77 = .ok (.ireturn, 1) := by decide +kernel
theorem d_X12_directionOf_78 : decode (mB M_X12_directionOf) 78 = .ok (.iconst 1, 1) := by decide +kernel
theorem d_X12_directionOf_79 : decode (mB M_X12_directionOf) 79 = .ok (.ireturn, 1) := by decide +kernel
theorem d_X12_directionOf_80 : decode (mB M_X12_directionOf) 80 = .ok (.iconst 2, 1) := by decide +kernel
theorem d_X12_directionOf_81 : decode (mB M_X12_directionOf) 81 = .ok (.ireturn, 1) := by decide +kernel
theorem d_X12_directionOf_82 : decode (mB M_X12_directionOf) 82 = .ok (.iconst 3, 1) := by decide +kernel
theorem d_X12_directionOf_83 : decode (mB M_X12_directionOf) 83 = .ok (.ireturn, 1) := by decide +kernel
theorem d_X12_directionOf_84 : decode (mB M_X12_directionOf) 84 = .ok (.iconst (-1), 1) := by decide +kernel
theorem d_X12_directionOf_85 : decode (mB M_X12_directionOf) 85 = .ok (.ireturn, 1) := by decide +kernel
theorem c_m_directionOf {E : mEnv} (hE : E.1.stackTraces = false) (C : List mE) (t : xT) (a0 : Int32) : Rt E M_X12_directionOf 0 [.int a0] (mw t, C) (some (.int (f_directionOf a0))) (mw t, C) := by
  generalize h : f_directionOf a0 = r
  unfold f_directionOf at h
  refine Rt.of hE rfl pn_X12 (Nat.le_of_ble_eq_true rfl) ?_
  refine g_eq (S' := (0, [some (.int a0)], [], (mw t, C))) rfl ?_
  refine g_iload_n d_X12_directionOf_0 rfl ?_
  by_cases t_1_0 : a0 = 68
  · replace h := opos t_1_0 h
    refine g_lookup (off := 79) (tgt := 80) d_X12_directionOf_1 (by decide) (by rw [t_1_0]; decide) (by decide) ?_
    refine g_iconst (v := 2) d_X12_directionOf_80 (by decide) ?_
    rw [← h]
    exact g_retI d_X12_directionOf_81 rfl rfl rfl
  replace h := oneg t_1_0 h
  by_cases t_1_1 : a0 = 76
  · replace h := opos t_1_1 h
    refine g_lookup (off := 81) (tgt := 82) d_X12_directionOf_1 (by decide) (by rw [t_1_1]; decide) (by decide) ?_
    refine g_iconst (v := 3) d_X12_directionOf_82 (by decide) ?_
    rw [← h]
    exact g_retI d_X12_directionOf_83 rfl rfl rfl
  replace h := oneg t_1_1 h
  by_cases t_1_2 : a0 = 82
  · replace h := opos t_1_2 h
    refine g_lookup (off := 77) (tgt := 78) d_X12_directionOf_1 (by decide) (by rw [t_1_2]; decide) (by decide) ?_
    refine g_iconst (v := 1) d_X12_directionOf_78 (by decide) ?_
    rw [← h]
    exact g_retI d_X12_directionOf_79 rfl rfl rfl
  replace h := oneg t_1_2 h
  by_cases t_1_3 : a0 = 85
  · replace h := opos t_1_3 h
    refine g_lookup (off := 75) (tgt := 76) d_X12_directionOf_1 (by decide) (by rw [t_1_3]; decide) (by decide) ?_
    refine g_iconst (v := 0) d_X12_directionOf_76 (by decide) ?_
    rw [← h]
    exact g_retI d_X12_directionOf_77 rfl rfl rfl
  replace h := oneg t_1_3 h
  by_cases t_1_4 : a0 = 100
  · replace h := opos t_1_4 h
    refine g_lookup (off := 79) (tgt := 80) d_X12_directionOf_1 (by decide) (by rw [t_1_4]; decide) (by decide) ?_
    refine g_iconst (v := 2) d_X12_directionOf_80 (by decide) ?_
    rw [← h]
    exact g_retI d_X12_directionOf_81 rfl rfl rfl
  replace h := oneg t_1_4 h
  by_cases t_1_5 : a0 = 108
  · replace h := opos t_1_5 h
    refine g_lookup (off := 81) (tgt := 82) d_X12_directionOf_1 (by decide) (by rw [t_1_5]; decide) (by decide) ?_
    refine g_iconst (v := 3) d_X12_directionOf_82 (by decide) ?_
    rw [← h]
    exact g_retI d_X12_directionOf_83 rfl rfl rfl
  replace h := oneg t_1_5 h
  by_cases t_1_6 : a0 = 114
  · replace h := opos t_1_6 h
    refine g_lookup (off := 77) (tgt := 78) d_X12_directionOf_1 (by decide) (by rw [t_1_6]; decide) (by decide) ?_
    refine g_iconst (v := 1) d_X12_directionOf_78 (by decide) ?_
    rw [← h]
    exact g_retI d_X12_directionOf_79 rfl rfl rfl
  replace h := oneg t_1_6 h
  by_cases t_1_7 : a0 = 117
  · replace h := opos t_1_7 h
    refine g_lookup (off := 75) (tgt := 76) d_X12_directionOf_1 (by decide) (by rw [t_1_7]; decide) (by decide) ?_
    refine g_iconst (v := 0) d_X12_directionOf_76 (by decide) ?_
    rw [← h]
    exact g_retI d_X12_directionOf_77 rfl rfl rfl
  replace h := oneg t_1_7 h
  refine g_lookup (off := 83) (tgt := 84) d_X12_directionOf_1 (by decide) (by show Op.lookupswitch.offset [(68, 79), (76, 81), (82, 77), (85, 75), (100, 79), (108, 81), (114, 77), (117, 75)] _ _ = _; rw [lv_osw t_1_0 (by decide), lv_osw t_1_1 (by decide), lv_osw t_1_2 (by decide), lv_osw t_1_3 (by decide), lv_osw t_1_4 (by decide), lv_osw t_1_5 (by decide), lv_osw t_1_6 (by decide), lv_osw t_1_7 (by decide)]; rfl) (by decide) ?_
  refine g_iconst (v := (-1)) d_X12_directionOf_84 (by decide) ?_
  rw [← h]
  exact g_retI d_X12_directionOf_85 rfl rfl rfl
def f_stepsFault_L (N : Nat) : Nat → Int32 → xT → Option (Int32)
  | 0, _, _ => none
  | n + 1, v1, t =>
    Option.bind (if (rs t 11) ≤ v1 then (some v1)
      else (if inB v1 80 = true then (Option.bind (f_in ((ra t 5) (Int32.toNatClampNeg v1)) 49 57) fun r_20 =>
        if r_20 = 0 then (some v1)
        else (Option.bind (if (rs t 11) ≤ (v1 + 1) then (some (0 : Int32))
            else (if inB (v1 + 1) 80 = true then (Option.bind (f_in ((ra t 5) (Int32.toNatClampNeg (v1 + 1))) 48 57) fun r_48 =>
              if r_48 = 0 then (some (0 : Int32))
              else (some (1 : Int32))) else none)) fun (r_35 : Int32) =>
          some ((v1 + 1) + r_35))) else none)) fun (r_7 : Int32) =>
    if r_7 = (rs t 11) then (some r_7)
    else (if inB r_7 80 = true then (if 0 ≤ (f_directionOf ((ra t 5) (Int32.toNatClampNeg r_7))) then (if (r_7 + 1) < (rs t 11) then (f_stepsFault_L N n (r_7 + 1) t)
        else (some ((-1) : Int32)))
      else (some r_7)) else none)
theorem u_stepsFault_2 (N n : Nat) (v1 : Int32) (t : xT) : f_stepsFault_L N (n + 1) v1 t = (Option.bind (if (rs t 11) ≤ v1 then (some v1)
      else (if inB v1 80 = true then (Option.bind (f_in ((ra t 5) (Int32.toNatClampNeg v1)) 49 57) fun r_20 =>
        if r_20 = 0 then (some v1)
        else (Option.bind (if (rs t 11) ≤ (v1 + 1) then (some (0 : Int32))
            else (if inB (v1 + 1) 80 = true then (Option.bind (f_in ((ra t 5) (Int32.toNatClampNeg (v1 + 1))) 48 57) fun r_48 =>
              if r_48 = 0 then (some (0 : Int32))
              else (some (1 : Int32))) else none)) fun (r_35 : Int32) =>
          some ((v1 + 1) + r_35))) else none)) fun (r_7 : Int32) =>
    if r_7 = (rs t 11) then (some r_7)
    else (if inB r_7 80 = true then (if 0 ≤ (f_directionOf ((ra t 5) (Int32.toNatClampNeg r_7))) then (if (r_7 + 1) < (rs t 11) then (f_stepsFault_L N n (r_7 + 1) t)
        else (some ((-1) : Int32)))
      else (some r_7)) else none)) := rfl
def f_stepsFault (N : Nat) (t : xT)  : Option (Int32) :=
  f_stepsFault_L N N 0 t
theorem d_X12_stepsFault_0 : decode (mB M_X12_stepsFault) 0 = .ok (.iconst 0, 1) := by decide +kernel
theorem d_X12_stepsFault_1 : decode (mB M_X12_stepsFault) 1 = .ok (.istore_n 1, 1) := by decide +kernel
theorem d_X12_stepsFault_2 : decode (mB M_X12_stepsFault) 2 = .ok (.iload_n 1, 1) := by decide +kernel
theorem d_X12_stepsFault_3 : decode (mB M_X12_stepsFault) 3 = .ok (.aload_n 0, 1) := by decide +kernel
theorem d_X12_stepsFault_4 : decode (mB M_X12_stepsFault) 4 = .ok (.getfield 91, 3) := by decide +kernel
theorem d_X12_stepsFault_7 : decode (mB M_X12_stepsFault) 7 = .ok (.if_icmp .ge 54, 3) := by decide +kernel
theorem d_X12_stepsFault_10 : decode (mB M_X12_stepsFault) 10 = .ok (.aload_n 0, 1) := by decide +kernel
theorem d_X12_stepsFault_11 : decode (mB M_X12_stepsFault) 11 = .ok (.getfield 26, 3) := by decide +kernel
theorem d_X12_stepsFault_14 : decode (mB M_X12_stepsFault) 14 = .ok (.iload_n 1, 1) := by decide +kernel
theorem d_X12_stepsFault_15 : decode (mB M_X12_stepsFault) 15 = .ok (.iaload, 1) := by decide +kernel
theorem d_X12_stepsFault_16 : decode (mB M_X12_stepsFault) 16 = .ok (.bipush 49, 2) := by decide +kernel
theorem d_X12_stepsFault_18 : decode (mB M_X12_stepsFault) 18 = .ok (.bipush 57, 2) := by decide +kernel
theorem d_X12_stepsFault_20 : decode (mB M_X12_stepsFault) 20 = .ok (.invokestatic 76, 3) := by decide +kernel
theorem d_X12_stepsFault_23 : decode (mB M_X12_stepsFault) 23 = .ok (.ifCond .eq 38, 3) := by decide +kernel
theorem d_X12_stepsFault_26 : decode (mB M_X12_stepsFault) 26 = .ok (.iinc 1 1, 3) := by decide +kernel
theorem d_X12_stepsFault_29 : decode (mB M_X12_stepsFault) 29 = .ok (.iload_n 1, 1) := by decide +kernel
theorem d_X12_stepsFault_30 : decode (mB M_X12_stepsFault) 30 = .ok (.iload_n 1, 1) := by decide +kernel
theorem d_X12_stepsFault_31 : decode (mB M_X12_stepsFault) 31 = .ok (.aload_n 0, 1) := by decide +kernel
theorem d_X12_stepsFault_32 : decode (mB M_X12_stepsFault) 32 = .ok (.getfield 91, 3) := by decide +kernel
theorem d_X12_stepsFault_35 : decode (mB M_X12_stepsFault) 35 = .ok (.if_icmp .ge 23, 3) := by decide +kernel
theorem d_X12_stepsFault_38 : decode (mB M_X12_stepsFault) 38 = .ok (.aload_n 0, 1) := by decide +kernel
theorem d_X12_stepsFault_39 : decode (mB M_X12_stepsFault) 39 = .ok (.getfield 26, 3) := by decide +kernel
theorem d_X12_stepsFault_42 : decode (mB M_X12_stepsFault) 42 = .ok (.iload_n 1, 1) := by decide +kernel
theorem d_X12_stepsFault_43 : decode (mB M_X12_stepsFault) 43 = .ok (.iaload, 1) := by decide +kernel
theorem d_X12_stepsFault_44 : decode (mB M_X12_stepsFault) 44 = .ok (.bipush 48, 2) := by decide +kernel
theorem d_X12_stepsFault_46 : decode (mB M_X12_stepsFault) 46 = .ok (.bipush 57, 2) := by decide +kernel
theorem d_X12_stepsFault_48 : decode (mB M_X12_stepsFault) 48 = .ok (.invokestatic 76, 3) := by decide +kernel
theorem d_X12_stepsFault_51 : decode (mB M_X12_stepsFault) 51 = .ok (.ifCond .eq 7, 3) := by decide +kernel
theorem d_X12_stepsFault_54 : decode (mB M_X12_stepsFault) 54 = .ok (.iconst 1, 1) := by decide +kernel
theorem d_X12_stepsFault_55 : decode (mB M_X12_stepsFault) 55 = .ok (.goto 4, 3) := by decide +kernel
theorem d_X12_stepsFault_58 : decode (mB M_X12_stepsFault) 58 = .ok (.iconst 0, 1) := by decide +kernel
theorem d_X12_stepsFault_59 : decode (mB M_X12_stepsFault) 59 = .ok (.iadd, 1) := by decide +kernel
theorem d_X12_stepsFault_60 : decode (mB M_X12_stepsFault) 60 = .ok (.istore_n 1, 1) := by decide +kernel
theorem d_X12_stepsFault_61 : decode (mB M_X12_stepsFault) 61 = .ok (.iload_n 1, 1) := by decide +kernel
theorem d_X12_stepsFault_62 : decode (mB M_X12_stepsFault) 62 = .ok (.aload_n 0, 1) := by decide +kernel
theorem d_X12_stepsFault_63 : decode (mB M_X12_stepsFault) 63 = .ok (.getfield 91, 3) := by decide +kernel
theorem d_X12_stepsFault_66 : decode (mB M_X12_stepsFault) 66 = .ok (.if_icmp .eq 15, 3) := by decide +kernel
theorem d_X12_stepsFault_69 : decode (mB M_X12_stepsFault) 69 = .ok (.aload_n 0, 1) := by decide +kernel
theorem d_X12_stepsFault_70 : decode (mB M_X12_stepsFault) 70 = .ok (.getfield 26, 3) := by decide +kernel
theorem d_X12_stepsFault_73 : decode (mB M_X12_stepsFault) 73 = .ok (.iload_n 1, 1) := by decide +kernel
theorem d_X12_stepsFault_74 : decode (mB M_X12_stepsFault) 74 = .ok (.iaload, 1) := by decide +kernel
theorem d_X12_stepsFault_75 : decode (mB M_X12_stepsFault) 75 = .ok (.invokestatic 250, 3) := by decide +kernel
theorem d_X12_stepsFault_78 : decode (mB M_X12_stepsFault) 78 = .ok (.ifCond .ge 5, 3) := by decide +kernel
theorem d_X12_stepsFault_81 : decode (mB M_X12_stepsFault) 81 = .ok (.iload_n 1, 1) := by decide +kernel
theorem d_X12_stepsFault_82 : decode (mB M_X12_stepsFault) 82 = .ok (.ireturn, 1) := by decide +kernel
theorem d_X12_stepsFault_83 : decode (mB M_X12_stepsFault) 83 = .ok (.iinc 1 1, 3) := by decide +kernel
theorem d_X12_stepsFault_86 : decode (mB M_X12_stepsFault) 86 = .ok (.iload_n 1, 1) := by decide +kernel
theorem d_X12_stepsFault_87 : decode (mB M_X12_stepsFault) 87 = .ok (.aload_n 0, 1) := by decide +kernel
theorem d_X12_stepsFault_88 : decode (mB M_X12_stepsFault) 88 = .ok (.getfield 91, 3) := by decide +kernel
theorem d_X12_stepsFault_91 : decode (mB M_X12_stepsFault) 91 = .ok (.if_icmp .lt (-89), 3) := by decide +kernel
theorem d_X12_stepsFault_94 : decode (mB M_X12_stepsFault) 94 = .ok (.iconst (-1), 1) := by decide +kernel
theorem d_X12_stepsFault_95 : decode (mB M_X12_stepsFault) 95 = .ok (.ireturn, 1) := by decide +kernel
theorem l_m_stepsFault {E : mEnv} (hE : E.1.stackTraces = false) (C : List mE) (N : Nat) : ∀ n : Nat, (∀ (v1 : Int32) (t : xT) (r : Int32), f_stepsFault_L N n v1 t = some r → Go E M_X12_stepsFault 0 (2, [some (.ref 0), some (.int v1)], [], (mw t, C)) (.inr (.inl (some (.int r), (mw t, C))))) := by
  intro n
  induction n with
  | zero => exact fun v1 t r h => by cases h
  | succ n ih =>
    intro v1 t r h
    rw [u_stepsFault_2] at h
    refine g_iload_n d_X12_stepsFault_2 rfl ?_
    refine g_aload_n d_X12_stepsFault_3 rfl ?_
    refine g_getf d_X12_stepsFault_4 f_X12_91 (gm0 t C) rfl ?_
    obtain ⟨r_7, h_7, hh_7⟩ := obind h
    refine Go.trans0 (S1 := (61, [some (.ref 0), some (.int r_7)], [], (mw t, C))) ?_ ?_
    · replace h := h_7
      clear hh_7
      refine g_icmp_ge (tgt := 61) d_X12_stepsFault_7 (by decide) (fun c_7 => ?_) (fun c_7 => ?_)
      · replace h := opos c_7 h
        obtain rfl := osome h
        exact g_end rfl
      · replace h := oneg c_7 h
        refine g_aload_n d_X12_stepsFault_10 rfl ?_
        refine g_getf d_X12_stepsFault_11 f_X12_26 (gm0 t C) rfl ?_
        refine g_iload_n d_X12_stepsFault_14 rfl ?_
        obtain ⟨i_15, h⟩ := ochk h
        refine g_iald d_X12_stepsFault_15 (gm_5 t C) (inB_in i_15) ?_
        refine g_bipush (v := 49) d_X12_stepsFault_16 (by decide) ?_
        refine g_bipush (v := 57) d_X12_stepsFault_18 (by decide) ?_
        obtain ⟨r_20, h_20, h⟩ := obind h
        refine g_callS (As := [.int ((ra t 5) (Int32.toNatClampNeg v1)), .int 49, .int 57]) d_X12_stepsFault_20 o_X12_in l_X12_76 ⟨Nat.le_of_ble_eq_true rfl, Nat.le_of_ble_eq_true rfl⟩ (c_m_in hE C t ((ra t 5) (Int32.toNatClampNeg v1)) 49 57 _ h_20) rfl rfl ?_ (Nat.zero_add _)
        refine g_if_eq (tgt := 61) d_X12_stepsFault_23 (by decide) (fun c_23 => ?_) (fun c_23 => ?_)
        · replace h := opos c_23 h
          obtain rfl := osome h
          exact g_end rfl
        · replace h := oneg c_23 h
          refine g_iinc (v := (v1 + 1)) (L' := [some (.ref 0), some (.int (v1 + 1))]) d_X12_stepsFault_26 rfl rfl rfl ?_
          refine g_iload_n d_X12_stepsFault_29 rfl ?_
          refine g_iload_n d_X12_stepsFault_30 rfl ?_
          refine g_aload_n d_X12_stepsFault_31 rfl ?_
          refine g_getf d_X12_stepsFault_32 f_X12_91 (gm0 t C) rfl ?_
          obtain ⟨r_35, h_35, hh_35⟩ := obind h
          refine Go.trans0 (S1 := (59, [some (.ref 0), none], [.int r_35, .int (v1 + 1)], (mw t, C))) ?_ ?_
          · replace h := h_35
            clear hh_35
            refine g_icmp_ge (tgt := 58) d_X12_stepsFault_35 (by decide) (fun c_35 => ?_) (fun c_35 => ?_)
            · replace h := opos c_35 h
              refine g_iconst (v := 0) d_X12_stepsFault_58 (by decide) ?_
              obtain rfl := osome h
              exact g_drop [1] rfl (g_end rfl)
            · replace h := oneg c_35 h
              refine g_aload_n d_X12_stepsFault_38 rfl ?_
              refine g_getf d_X12_stepsFault_39 f_X12_26 (gm0 t C) rfl ?_
              refine g_iload_n d_X12_stepsFault_42 rfl ?_
              obtain ⟨i_43, h⟩ := ochk h
              refine g_iald d_X12_stepsFault_43 (gm_5 t C) (inB_in i_43) ?_
              refine g_bipush (v := 48) d_X12_stepsFault_44 (by decide) ?_
              refine g_bipush (v := 57) d_X12_stepsFault_46 (by decide) ?_
              obtain ⟨r_48, h_48, h⟩ := obind h
              refine g_callS (As := [.int ((ra t 5) (Int32.toNatClampNeg (v1 + 1))), .int 48, .int 57]) d_X12_stepsFault_48 o_X12_in l_X12_76 ⟨Nat.le_of_ble_eq_true rfl, Nat.le_of_ble_eq_true rfl⟩ (c_m_in hE C t ((ra t 5) (Int32.toNatClampNeg (v1 + 1))) 48 57 _ h_48) rfl rfl ?_ (Nat.zero_add _)
              refine g_if_eq (tgt := 58) d_X12_stepsFault_51 (by decide) (fun c_51 => ?_) (fun c_51 => ?_)
              · replace h := opos c_51 h
                refine g_iconst (v := 0) d_X12_stepsFault_58 (by decide) ?_
                obtain rfl := osome h
                exact g_drop [1] rfl (g_end rfl)
              · replace h := oneg c_51 h
                refine g_iconst (v := 1) d_X12_stepsFault_54 (by decide) ?_
                refine g_goto (tgt := 59) d_X12_stepsFault_55 (by decide) ?_
                obtain rfl := osome h
                exact g_drop [1] rfl (g_end rfl)
          replace h := hh_35
          refine g_iadd d_X12_stepsFault_59 ?_
          refine g_istore_n (L' := [some (.ref 0), some (.int ((v1 + 1) + r_35))]) d_X12_stepsFault_60 rfl rfl ?_
          obtain rfl := osome h
          exact g_end rfl
    replace h := hh_7
    refine g_iload_n d_X12_stepsFault_61 rfl ?_
    refine g_aload_n d_X12_stepsFault_62 rfl ?_
    refine g_getf d_X12_stepsFault_63 f_X12_91 (gm0 t C) rfl ?_
    refine g_icmp_eq (tgt := 81) d_X12_stepsFault_66 (by decide) (fun c_66 => ?_) (fun c_66 => ?_)
    · replace h := opos c_66 h
      refine g_iload_n d_X12_stepsFault_81 rfl ?_
      obtain rfl := osome h
      exact g_retI d_X12_stepsFault_82 rfl rfl rfl
    · replace h := oneg c_66 h
      refine g_aload_n d_X12_stepsFault_69 rfl ?_
      refine g_getf d_X12_stepsFault_70 f_X12_26 (gm0 t C) rfl ?_
      refine g_iload_n d_X12_stepsFault_73 rfl ?_
      obtain ⟨i_74, h⟩ := ochk h
      refine g_iald d_X12_stepsFault_74 (gm_5 t C) (inB_in i_74) ?_
      refine g_callS (As := [.int ((ra t 5) (Int32.toNatClampNeg r_7))]) d_X12_stepsFault_75 o_X12_directionOf l_X12_250 ⟨Nat.le_of_ble_eq_true rfl, Nat.le_of_ble_eq_true rfl⟩ (c_m_directionOf hE C t ((ra t 5) (Int32.toNatClampNeg r_7))) rfl rfl ?_ (Nat.zero_add _)
      refine g_if_ge (tgt := 83) d_X12_stepsFault_78 (by decide) (fun c_78 => ?_) (fun c_78 => ?_)
      · replace h := opos c_78 h
        refine g_iinc (v := (r_7 + 1)) (L' := [some (.ref 0), some (.int (r_7 + 1))]) d_X12_stepsFault_83 rfl rfl rfl ?_
        refine g_iload_n d_X12_stepsFault_86 rfl ?_
        refine g_aload_n d_X12_stepsFault_87 rfl ?_
        refine g_getf d_X12_stepsFault_88 f_X12_91 (gm0 t C) rfl ?_
        refine g_icmp_lt (tgt := 2) d_X12_stepsFault_91 (by decide) (fun c_91 => ?_) (fun c_91 => ?_)
        · replace h := opos c_91 h
          exact (ih) (r_7 + 1) t _ h
        · replace h := oneg c_91 h
          refine g_iconst (v := (-1)) d_X12_stepsFault_94 (by decide) ?_
          obtain rfl := osome h
          exact g_retI d_X12_stepsFault_95 rfl rfl rfl
      · replace h := oneg c_78 h
        refine g_iload_n d_X12_stepsFault_81 rfl ?_
        obtain rfl := osome h
        exact g_retI d_X12_stepsFault_82 rfl rfl rfl
theorem c_m_stepsFault {E : mEnv} (hE : E.1.stackTraces = false) (C : List mE) (N : Nat) (t : xT)  (r : Int32) (h : f_stepsFault N t = some r) : Rt E M_X12_stepsFault 0 [.ref 0] (mw t, C) (some (.int r)) (mw t, C) := by
  unfold f_stepsFault at h
  refine Rt.of hE rfl pn_X12 (Nat.le_of_ble_eq_true rfl) ?_
  refine g_eq (S' := (0, [some (.ref 0), none], [], (mw t, C))) rfl ?_
  refine g_iconst (v := 0) d_X12_stepsFault_0 (by decide) ?_
  refine g_istore_n (L' := [some (.ref 0), some (.int 0)]) d_X12_stepsFault_1 rfl rfl ?_
  exact (l_m_stepsFault hE C N N) 0 t _ h
def f_reasonForLetter (t : xT) (a0 : Int32) : Option (Int32 × xT) :=
  Option.bind (f_reasonForStep t (f_directionOf a0)) fun r_7 =>
  if r_7.1 ≤ 0 then (Option.bind (some (ws r_7.2 26 ((ra r_7.2 1) (Int32.toNatClampNeg 3)))) fun t_24 =>
    Option.bind (f_beside t_24 ((ra t_24 1) (Int32.toNatClampNeg 3)) (f_directionOf a0)) fun r_36 =>
    Option.bind (f_isBox t_24 r_36) fun r_39 =>
    Option.bind (if a0 < 97 then (if r_39 = 0 then (some (6 : Int32))
        else (some (0 : Int32)))
      else (if r_39 = 0 then (some (0 : Int32))
        else (some (5 : Int32)))) fun (r_47 : Int32) =>
    some (r_47, t_24))
  else (some (r_7.1, r_7.2))
theorem d_X12_reasonForLetter_0 : decode (mB M_X12_reasonForLetter) 0 = .ok (.iload_n 1, 1) := by decide +kernel
theorem d_X12_reasonForLetter_1 : decode (mB M_X12_reasonForLetter) 1 = .ok (.invokestatic 250, 3) := by decide +kernel
theorem d_X12_reasonForLetter_4 : decode (mB M_X12_reasonForLetter) 4 = .ok (.istore_n 2, 1) := by decide +kernel
theorem d_X12_reasonForLetter_5 : decode (mB M_X12_reasonForLetter) 5 = .ok (.aload_n 0, 1) := by decide +kernel
theorem d_X12_reasonForLetter_6 : decode (mB M_X12_reasonForLetter) 6 = .ok (.iload_n 2, 1) := by decide +kernel
theorem d_X12_reasonForLetter_7 : decode (mB M_X12_reasonForLetter) 7 = .ok (.invokevirtual 215, 3) := by decide +kernel
theorem d_X12_reasonForLetter_10 : decode (mB M_X12_reasonForLetter) 10 = .ok (.istore_n 3, 1) := by decide +kernel
theorem d_X12_reasonForLetter_11 : decode (mB M_X12_reasonForLetter) 11 = .ok (.iload_n 3, 1) := by decide +kernel
theorem d_X12_reasonForLetter_12 : decode (mB M_X12_reasonForLetter) 12 = .ok (.ifCond .le 5, 3) := by decide +kernel
theorem d_X12_reasonForLetter_15 : decode (mB M_X12_reasonForLetter) 15 = .ok (.iload_n 3, 1) := by decide +kernel
theorem d_X12_reasonForLetter_16 : decode (mB M_X12_reasonForLetter) 16 = .ok (.ireturn, 1) := by decide +kernel
theorem d_X12_reasonForLetter_17 : decode (mB M_X12_reasonForLetter) 17 = .ok (.aload_n 0, 1) := by decide +kernel
theorem d_X12_reasonForLetter_18 : decode (mB M_X12_reasonForLetter) 18 = .ok (.aload_n 0, 1) := by decide +kernel
theorem d_X12_reasonForLetter_19 : decode (mB M_X12_reasonForLetter) 19 = .ok (.getfield 7, 3) := by decide +kernel
theorem d_X12_reasonForLetter_22 : decode (mB M_X12_reasonForLetter) 22 = .ok (.iconst 3, 1) := by decide +kernel
theorem d_X12_reasonForLetter_23 : decode (mB M_X12_reasonForLetter) 23 = .ok (.iaload, 1) := by decide +kernel
theorem d_X12_reasonForLetter_24 : decode (mB M_X12_reasonForLetter) 24 = .ok (.putfield 203, 3) := by decide +kernel
theorem d_X12_reasonForLetter_27 : decode (mB M_X12_reasonForLetter) 27 = .ok (.aload_n 0, 1) := by decide +kernel
theorem d_X12_reasonForLetter_28 : decode (mB M_X12_reasonForLetter) 28 = .ok (.aload_n 0, 1) := by decide +kernel
theorem d_X12_reasonForLetter_29 : decode (mB M_X12_reasonForLetter) 29 = .ok (.aload_n 0, 1) := by decide +kernel
theorem d_X12_reasonForLetter_30 : decode (mB M_X12_reasonForLetter) 30 = .ok (.getfield 7, 3) := by decide +kernel
theorem d_X12_reasonForLetter_33 : decode (mB M_X12_reasonForLetter) 33 = .ok (.iconst 3, 1) := by decide +kernel
theorem d_X12_reasonForLetter_34 : decode (mB M_X12_reasonForLetter) 34 = .ok (.iaload, 1) := by decide +kernel
theorem d_X12_reasonForLetter_35 : decode (mB M_X12_reasonForLetter) 35 = .ok (.iload_n 2, 1) := by decide +kernel
theorem d_X12_reasonForLetter_36 : decode (mB M_X12_reasonForLetter) 36 = .ok (.invokevirtual 136, 3) := by decide +kernel
theorem d_X12_reasonForLetter_39 : decode (mB M_X12_reasonForLetter) 39 = .ok (.invokevirtual 124, 3) := by decide +kernel
theorem d_X12_reasonForLetter_42 : decode (mB M_X12_reasonForLetter) 42 = .ok (.istore 4, 2) := by decide +kernel
theorem d_X12_reasonForLetter_44 : decode (mB M_X12_reasonForLetter) 44 = .ok (.iload_n 1, 1) := by decide +kernel
theorem d_X12_reasonForLetter_45 : decode (mB M_X12_reasonForLetter) 45 = .ok (.bipush 97, 2) := by decide +kernel
theorem d_X12_reasonForLetter_47 : decode (mB M_X12_reasonForLetter) 47 = .ok (.if_icmp .lt 16, 3) := by decide +kernel
theorem d_X12_reasonForLetter_50 : decode (mB M_X12_reasonForLetter) 50 = .ok (.iload 4, 2) := by decide +kernel
theorem d_X12_reasonForLetter_52 : decode (mB M_X12_reasonForLetter) 52 = .ok (.ifCond .eq 7, 3) := by decide +kernel
theorem d_X12_reasonForLetter_55 : decode (mB M_X12_reasonForLetter) 55 = .ok (.iconst 5, 1) := by decide +kernel
theorem d_X12_reasonForLetter_56 : decode (mB M_X12_reasonForLetter) 56 = .ok (.goto 18, 3) := by decide +kernel
theorem d_X12_reasonForLetter_59 : decode (mB M_X12_reasonForLetter) 59 = .ok (.iconst 0, 1) := by decide +kernel
theorem d_X12_reasonForLetter_60 : decode (mB M_X12_reasonForLetter) 60 = .ok (.goto 14, 3) := by decide +kernel
theorem d_X12_reasonForLetter_63 : decode (mB M_X12_reasonForLetter) 63 = .ok (.iload 4, 2) := by decide +kernel
theorem d_X12_reasonForLetter_65 : decode (mB M_X12_reasonForLetter) 65 = .ok (.ifCond .eq 7, 3) := by decide +kernel
theorem d_X12_reasonForLetter_68 : decode (mB M_X12_reasonForLetter) 68 = .ok (.iconst 0, 1) := by decide +kernel
theorem d_X12_reasonForLetter_69 : decode (mB M_X12_reasonForLetter) 69 = .ok (.goto 5, 3) := by decide +kernel
theorem d_X12_reasonForLetter_72 : decode (mB M_X12_reasonForLetter) 72 = .ok (.bipush 6, 2) := by decide +kernel
theorem d_X12_reasonForLetter_74 : decode (mB M_X12_reasonForLetter) 74 = .ok (.ireturn, 1) := by decide +kernel
theorem c_m_reasonForLetter {E : mEnv} (hE : E.1.stackTraces = false) (C : List mE) (t : xT) (a0 : Int32) (r : Int32 × xT) (h : f_reasonForLetter t a0 = some r) : Rt E M_X12_reasonForLetter 0 [.ref 0, .int a0] (mw t, C) (some (.int r.1)) (mw r.2, C) := by
  unfold f_reasonForLetter at h
  refine Rt.of hE rfl pn_X12 (Nat.le_of_ble_eq_true rfl) ?_
  refine g_eq (S' := (0, [some (.ref 0), some (.int a0), none, none, none], [], (mw t, C))) rfl ?_
  refine g_iload_n d_X12_reasonForLetter_0 rfl ?_
  refine g_callS (As := [.int a0]) d_X12_reasonForLetter_1 o_X12_directionOf l_X12_250 ⟨Nat.le_of_ble_eq_true rfl, Nat.le_of_ble_eq_true rfl⟩ (c_m_directionOf hE C t a0) rfl rfl ?_ (Nat.zero_add _)
  refine g_istore_n (L' := [some (.ref 0), some (.int a0), some (.int (f_directionOf a0)), none, none]) d_X12_reasonForLetter_4 rfl rfl ?_
  refine g_aload_n d_X12_reasonForLetter_5 rfl ?_
  refine g_iload_n d_X12_reasonForLetter_6 rfl ?_
  obtain ⟨r_7, h_7, h⟩ := obind h
  refine g_callV (As := [.int (f_directionOf a0)]) d_X12_reasonForLetter_7 o_X12_reasonForStep l_X12_215 ⟨Nat.le_of_ble_eq_true rfl, Nat.le_of_ble_eq_true rfl⟩ (c_m_reasonForStep hE C t (f_directionOf a0) _ h_7) (gm0 t C) rfl rfl rfl rfl rfl ?_ (Nat.zero_add _)
  refine g_istore_n (L' := [some (.ref 0), some (.int a0), some (.int (f_directionOf a0)), some (.int r_7.1), none]) d_X12_reasonForLetter_10 rfl rfl ?_
  refine g_iload_n d_X12_reasonForLetter_11 rfl ?_
  refine g_if_le (tgt := 17) d_X12_reasonForLetter_12 (by decide) (fun c_12 => ?_) (fun c_12 => ?_)
  · replace h := opos c_12 h
    refine g_aload_n d_X12_reasonForLetter_17 rfl ?_
    refine g_aload_n d_X12_reasonForLetter_18 rfl ?_
    refine g_getf d_X12_reasonForLetter_19 f_X12_7 (gm0 r_7.2 C) rfl ?_
    refine g_iconst (v := 3) d_X12_reasonForLetter_22 (by decide) ?_
    refine g_iald d_X12_reasonForLetter_23 (gm_1 r_7.2 C) (inB_in (by decide)) ?_
    obtain ⟨t_24, e_24, h⟩ := olet h
    refine g_putI (w' := (mw t_24, C)) d_X12_reasonForLetter_24 p_X12_203 rfl rfl (gm0 r_7.2 C) (Nat.le_of_ble_eq_true rfl) (by rw [e_24]; exact sc_26 r_7.2 C _) ?_
    refine g_aload_n d_X12_reasonForLetter_27 rfl ?_
    refine g_aload_n d_X12_reasonForLetter_28 rfl ?_
    refine g_aload_n d_X12_reasonForLetter_29 rfl ?_
    refine g_getf d_X12_reasonForLetter_30 f_X12_7 (gm0 t_24 C) rfl ?_
    refine g_iconst (v := 3) d_X12_reasonForLetter_33 (by decide) ?_
    refine g_iald d_X12_reasonForLetter_34 (gm_1 t_24 C) (inB_in (by decide)) ?_
    refine g_iload_n d_X12_reasonForLetter_35 rfl ?_
    obtain ⟨r_36, h_36, h⟩ := obind h
    refine g_callV (As := [.int ((ra t_24 1) (Int32.toNatClampNeg 3)), .int (f_directionOf a0)]) d_X12_reasonForLetter_36 o_X12_beside l_X12_136 ⟨Nat.le_of_ble_eq_true rfl, Nat.le_of_ble_eq_true rfl⟩ (c_m_beside hE C t_24 ((ra t_24 1) (Int32.toNatClampNeg 3)) (f_directionOf a0) _ h_36) (gm0 t_24 C) rfl rfl rfl rfl rfl ?_ (Nat.zero_add _)
    obtain ⟨r_39, h_39, h⟩ := obind h
    refine g_callV (As := [.int r_36]) d_X12_reasonForLetter_39 o_X12_isBox l_X12_124 ⟨Nat.le_of_ble_eq_true rfl, Nat.le_of_ble_eq_true rfl⟩ (c_m_isBox hE C t_24 r_36 _ h_39) (gm0 t_24 C) rfl rfl rfl rfl rfl ?_ (Nat.zero_add _)
    refine g_istore (L' := [some (.ref 0), some (.int a0), some (.int (f_directionOf a0)), some (.int r_7.1), some (.int r_39)]) d_X12_reasonForLetter_42 rfl rfl ?_
    refine g_iload_n d_X12_reasonForLetter_44 rfl ?_
    refine g_bipush (v := 97) d_X12_reasonForLetter_45 (by decide) ?_
    obtain ⟨r_47, h_47, hh_47⟩ := obind h
    refine Go.trans0 (S1 := (74, [none, none, none, none, none], [.int r_47], (mw t_24, C))) ?_ ?_
    · replace h := h_47
      clear hh_47
      refine g_icmp_lt (tgt := 63) d_X12_reasonForLetter_47 (by decide) (fun c_47 => ?_) (fun c_47 => ?_)
      · replace h := opos c_47 h
        refine g_iload d_X12_reasonForLetter_63 rfl ?_
        refine g_if_eq (tgt := 72) d_X12_reasonForLetter_65 (by decide) (fun c_65 => ?_) (fun c_65 => ?_)
        · replace h := opos c_65 h
          refine g_bipush (v := 6) d_X12_reasonForLetter_72 (by decide) ?_
          obtain rfl := osome h
          exact g_drop [0, 1, 2, 3, 4] rfl (g_end rfl)
        · replace h := oneg c_65 h
          refine g_iconst (v := 0) d_X12_reasonForLetter_68 (by decide) ?_
          refine g_goto (tgt := 74) d_X12_reasonForLetter_69 (by decide) ?_
          obtain rfl := osome h
          exact g_drop [0, 1, 2, 3, 4] rfl (g_end rfl)
      · replace h := oneg c_47 h
        refine g_iload d_X12_reasonForLetter_50 rfl ?_
        refine g_if_eq (tgt := 59) d_X12_reasonForLetter_52 (by decide) (fun c_52 => ?_) (fun c_52 => ?_)
        · replace h := opos c_52 h
          refine g_iconst (v := 0) d_X12_reasonForLetter_59 (by decide) ?_
          refine g_goto (tgt := 74) d_X12_reasonForLetter_60 (by decide) ?_
          obtain rfl := osome h
          exact g_drop [0, 1, 2, 3, 4] rfl (g_end rfl)
        · replace h := oneg c_52 h
          refine g_iconst (v := 5) d_X12_reasonForLetter_55 (by decide) ?_
          refine g_goto (tgt := 74) d_X12_reasonForLetter_56 (by decide) ?_
          obtain rfl := osome h
          exact g_drop [0, 1, 2, 3, 4] rfl (g_end rfl)
    replace h := hh_47
    obtain rfl := osome h
    exact g_retI d_X12_reasonForLetter_74 rfl rfl rfl
  · replace h := oneg c_12 h
    refine g_iload_n d_X12_reasonForLetter_15 rfl ?_
    obtain rfl := osome h
    exact g_retI d_X12_reasonForLetter_16 rfl rfl rfl
def f_play_L (N : Nat) : Nat → Nat → Int32 → Int32 → Int32 → Int32 → Int32 → xT → Option (Int32 × xT)
  | 0, _, _, _, _, _, _, _ => none
  | n + 1, p, v1, v3, v4, v5, v6, t =>
    if p = 81 then (if v1 ≤ v5 then (if ((ra t 1) (Int32.toNatClampNeg 4)) ≤ 400 then (Option.bind (f_commands N t) fun r_239 =>
          some (v3, r_239))
        else (Option.bind (f_goesBack N t) fun r_229 =>
          Option.bind (f_fails r_229 3) fun r_234 =>
          some (r_234.1, r_234.2)))
      else (if inB v5 80 = true then (Option.bind (f_in ((ra t 5) (Int32.toNatClampNeg v5)) 48 57) fun r_98 =>
        if r_98 = 0 then (Option.bind (if v4 = 0 then (some (1 : Int32))
            else (some v4)) fun (r_127 : Int32) =>
          f_play_L N n 141 v1 v3 r_127 v5 0 t)
        else (if inB v5 80 = true then (f_play_L N n 81 v1 v3 (((10 * v4) + ((ra t 5) (Int32.toNatClampNeg v5))) - 48) (v5 + 1) 0 t) else none)) else none))
    else if p = 141 then (if v4 ≤ v6 then (f_play_L N n 81 v1 v3 0 (v5 + 1) 0 t)
      else (if inB v5 80 = true then (Option.bind (f_reasonForLetter t ((ra t 5) (Int32.toNatClampNeg v5))) fun r_156 =>
        if r_156.1 ≤ 0 then (if inB v5 80 = true then (Option.bind (f_goes r_156.2 (f_directionOf ((ra r_156.2 5) (Int32.toNatClampNeg v5)))) fun r_194 =>
          f_play_L N n 141 v1 (v3 + 1) v4 v5 (v6 + 1) r_194.2) else none)
        else (Option.bind (f_goesBack N r_156.2) fun r_167 =>
          Option.bind (some (ws r_167 8 v3)) fun t_172 =>
          Option.bind (f_keeps t_172 r_156.1 2) fun r_179 =>
          some (r_179.1, r_179.2))) else none))
    else none
theorem u_play_81 (N n : Nat) (v1 : Int32) (v3 : Int32) (v4 : Int32) (v5 : Int32) (t : xT) : f_play_L N (n + 1) 81 v1 v3 v4 v5 0 t = (if v1 ≤ v5 then (if ((ra t 1) (Int32.toNatClampNeg 4)) ≤ 400 then (Option.bind (f_commands N t) fun r_239 =>
        some (v3, r_239))
      else (Option.bind (f_goesBack N t) fun r_229 =>
        Option.bind (f_fails r_229 3) fun r_234 =>
        some (r_234.1, r_234.2)))
    else (if inB v5 80 = true then (Option.bind (f_in ((ra t 5) (Int32.toNatClampNeg v5)) 48 57) fun r_98 =>
      if r_98 = 0 then (Option.bind (if v4 = 0 then (some (1 : Int32))
          else (some v4)) fun (r_127 : Int32) =>
        f_play_L N n 141 v1 v3 r_127 v5 0 t)
      else (if inB v5 80 = true then (f_play_L N n 81 v1 v3 (((10 * v4) + ((ra t 5) (Int32.toNatClampNeg v5))) - 48) (v5 + 1) 0 t) else none)) else none)) := rfl
theorem u_play_141 (N n : Nat) (v1 : Int32) (v3 : Int32) (v4 : Int32) (v5 : Int32) (v6 : Int32) (t : xT) : f_play_L N (n + 1) 141 v1 v3 v4 v5 v6 t = (if v4 ≤ v6 then (f_play_L N n 81 v1 v3 0 (v5 + 1) 0 t)
    else (if inB v5 80 = true then (Option.bind (f_reasonForLetter t ((ra t 5) (Int32.toNatClampNeg v5))) fun r_156 =>
      if r_156.1 ≤ 0 then (if inB v5 80 = true then (Option.bind (f_goes r_156.2 (f_directionOf ((ra r_156.2 5) (Int32.toNatClampNeg v5)))) fun r_194 =>
        f_play_L N n 141 v1 (v3 + 1) v4 v5 (v6 + 1) r_194.2) else none)
      else (Option.bind (f_goesBack N r_156.2) fun r_167 =>
        Option.bind (some (ws r_167 8 v3)) fun t_172 =>
        Option.bind (f_keeps t_172 r_156.1 2) fun r_179 =>
        some (r_179.1, r_179.2))) else none)) := rfl
def f_play (N : Nat) (t : xT)  : Option (Int32 × xT) :=
  Option.bind (f_hasRoom t) fun r_2 =>
  Option.bind (if r_2 = 0 then (some (1 : Int32))
    else (some (0 : Int32))) fun (r_5 : Int32) =>
  Option.bind (some (ws t 9 r_5)) fun t_13 =>
  Option.bind (if (rs t_13 9) ≤ 0 then (Option.bind (f_stepsFault N t_13) fun r_33 =>
      some r_33)
    else (some ((-1) : Int32))) fun (r_25 : Int32) =>
  Option.bind (some (ws t_13 11 0)) fun t_39 =>
  if 0 < (rs t_39 9) then (Option.bind (if (rs t_39 9) ≤ 0 then (some ((-100) - r_25))
      else (some (0 : Int32))) fun (r_57 : Int32) =>
    some (r_57, t_39))
  else (if r_25 < 0 then (Option.bind (f_remembers N t_39) fun r_70 =>
      f_play_L N N 81 (rs t_13 11) 0 0 0 0 r_70)
    else (Option.bind (if (rs t_39 9) ≤ 0 then (some ((-100) - r_25))
        else (some (0 : Int32))) fun (r_57 : Int32) =>
      some (r_57, t_39)))
theorem d_X12_play_0 : decode (mB M_X12_play) 0 = .ok (.aload_n 0, 1) := by decide +kernel
theorem d_X12_play_1 : decode (mB M_X12_play) 1 = .ok (.aload_n 0, 1) := by decide +kernel
theorem d_X12_play_2 : decode (mB M_X12_play) 2 = .ok (.invokevirtual 83, 3) := by decide +kernel
theorem d_X12_play_5 : decode (mB M_X12_play) 5 = .ok (.ifCond .eq 7, 3) := by decide +kernel
theorem d_X12_play_8 : decode (mB M_X12_play) 8 = .ok (.iconst 0, 1) := by decide +kernel
theorem d_X12_play_9 : decode (mB M_X12_play) 9 = .ok (.goto 4, 3) := by decide +kernel
theorem d_X12_play_12 : decode (mB M_X12_play) 12 = .ok (.iconst 1, 1) := by decide +kernel
theorem d_X12_play_13 : decode (mB M_X12_play) 13 = .ok (.putfield 73, 3) := by decide +kernel
theorem d_X12_play_16 : decode (mB M_X12_play) 16 = .ok (.aload_n 0, 1) := by decide +kernel
theorem d_X12_play_17 : decode (mB M_X12_play) 17 = .ok (.getfield 91, 3) := by decide +kernel
theorem d_X12_play_20 : decode (mB M_X12_play) 20 = .ok (.istore_n 1, 1) := by decide +kernel
theorem d_X12_play_21 : decode (mB M_X12_play) 21 = .ok (.aload_n 0, 1) := by decide +kernel
theorem d_X12_play_22 : decode (mB M_X12_play) 22 = .ok (.getfield 73, 3) := by decide +kernel
theorem d_X12_play_25 : decode (mB M_X12_play) 25 = .ok (.ifCond .le 7, 3) := by decide +kernel
theorem d_X12_play_28 : decode (mB M_X12_play) 28 = .ok (.iconst (-1), 1) := by decide +kernel
theorem d_X12_play_29 : decode (mB M_X12_play) 29 = .ok (.goto 7, 3) := by decide +kernel
theorem d_X12_play_32 : decode (mB M_X12_play) 32 = .ok (.aload_n 0, 1) := by decide +kernel
theorem d_X12_play_33 : decode (mB M_X12_play) 33 = .ok (.invokevirtual 253, 3) := by decide +kernel
theorem d_X12_play_36 : decode (mB M_X12_play) 36 = .ok (.istore_n 2, 1) := by decide +kernel
theorem d_X12_play_37 : decode (mB M_X12_play) 37 = .ok (.aload_n 0, 1) := by decide +kernel
theorem d_X12_play_38 : decode (mB M_X12_play) 38 = .ok (.iconst 0, 1) := by decide +kernel
theorem d_X12_play_39 : decode (mB M_X12_play) 39 = .ok (.putfield 91, 3) := by decide +kernel
theorem d_X12_play_42 : decode (mB M_X12_play) 42 = .ok (.aload_n 0, 1) := by decide +kernel
theorem d_X12_play_43 : decode (mB M_X12_play) 43 = .ok (.getfield 73, 3) := by decide +kernel
theorem d_X12_play_46 : decode (mB M_X12_play) 46 = .ok (.ifCond .gt 7, 3) := by decide +kernel
theorem d_X12_play_49 : decode (mB M_X12_play) 49 = .ok (.iload_n 2, 1) := by decide +kernel
theorem d_X12_play_50 : decode (mB M_X12_play) 50 = .ok (.ifCond .lt 19, 3) := by decide +kernel
theorem d_X12_play_53 : decode (mB M_X12_play) 53 = .ok (.aload_n 0, 1) := by decide +kernel
theorem d_X12_play_54 : decode (mB M_X12_play) 54 = .ok (.getfield 73, 3) := by decide +kernel
theorem d_X12_play_57 : decode (mB M_X12_play) 57 = .ok (.ifCond .le 7, 3) := by decide +kernel
theorem d_X12_play_60 : decode (mB M_X12_play) 60 = .ok (.iconst 0, 1) := by decide +kernel
theorem d_X12_play_61 : decode (mB M_X12_play) 61 = .ok (.goto 7, 3) := by decide +kernel
theorem d_X12_play_64 : decode (mB M_X12_play) 64 = .ok (.bipush (-100), 2) := by decide +kernel
theorem d_X12_play_66 : decode (mB M_X12_play) 66 = .ok (.iload_n 2, 1) := by decide +kernel
theorem d_X12_play_67 : decode (mB M_X12_play) 67 = .ok (.isub, 1) := by decide +kernel
theorem d_X12_play_68 : decode (mB M_X12_play) 68 = .ok (.ireturn, 1) := by decide +kernel
theorem d_X12_play_69 : decode (mB M_X12_play) 69 = .ok (.aload_n 0, 1) := by decide +kernel
theorem d_X12_play_70 : decode (mB M_X12_play) 70 = .ok (.invokevirtual 221, 3) := by decide +kernel
theorem d_X12_play_73 : decode (mB M_X12_play) 73 = .ok (.iconst 0, 1) := by decide +kernel
theorem d_X12_play_74 : decode (mB M_X12_play) 74 = .ok (.istore_n 3, 1) := by decide +kernel
theorem d_X12_play_75 : decode (mB M_X12_play) 75 = .ok (.iconst 0, 1) := by decide +kernel
theorem d_X12_play_76 : decode (mB M_X12_play) 76 = .ok (.istore 4, 2) := by decide +kernel
theorem d_X12_play_78 : decode (mB M_X12_play) 78 = .ok (.iconst 0, 1) := by decide +kernel
theorem d_X12_play_79 : decode (mB M_X12_play) 79 = .ok (.istore 5, 2) := by decide +kernel
theorem d_X12_play_81 : decode (mB M_X12_play) 81 = .ok (.iload 5, 2) := by decide +kernel
theorem d_X12_play_83 : decode (mB M_X12_play) 83 = .ok (.iload_n 1, 1) := by decide +kernel
theorem d_X12_play_84 : decode (mB M_X12_play) 84 = .ok (.if_icmp .ge 132, 3) := by decide +kernel
theorem d_X12_play_87 : decode (mB M_X12_play) 87 = .ok (.aload_n 0, 1) := by decide +kernel
theorem d_X12_play_88 : decode (mB M_X12_play) 88 = .ok (.getfield 26, 3) := by decide +kernel
theorem d_X12_play_91 : decode (mB M_X12_play) 91 = .ok (.iload 5, 2) := by decide +kernel
theorem d_X12_play_93 : decode (mB M_X12_play) 93 = .ok (.iaload, 1) := by decide +kernel
theorem d_X12_play_94 : decode (mB M_X12_play) 94 = .ok (.bipush 48, 2) := by decide +kernel
theorem d_X12_play_96 : decode (mB M_X12_play) 96 = .ok (.bipush 57, 2) := by decide +kernel
theorem d_X12_play_98 : decode (mB M_X12_play) 98 = .ok (.invokestatic 76, 3) := by decide +kernel
theorem d_X12_play_101 : decode (mB M_X12_play) 101 = .ok (.ifCond .eq 24, 3) := by decide +kernel
theorem d_X12_play_104 : decode (mB M_X12_play) 104 = .ok (.bipush 10, 2) := by decide +kernel
theorem d_X12_play_106 : decode (mB M_X12_play) 106 = .ok (.iload 4, 2) := by decide +kernel
theorem d_X12_play_108 : decode (mB M_X12_play) 108 = .ok (.imul, 1) := by decide +kernel
theorem d_X12_play_109 : decode (mB M_X12_play) 109 = .ok (.aload_n 0, 1) := by decide +kernel
theorem d_X12_play_110 : decode (mB M_X12_play) 110 = .ok (.getfield 26, 3) := by decide +kernel
theorem d_X12_play_113 : decode (mB M_X12_play) 113 = .ok (.iload 5, 2) := by decide +kernel
theorem d_X12_play_115 : decode (mB M_X12_play) 115 = .ok (.iaload, 1) := by decide +kernel
theorem d_X12_play_116 : decode (mB M_X12_play) 116 = .ok (.iadd, 1) := by decide +kernel
theorem d_X12_play_117 : decode (mB M_X12_play) 117 = .ok (.bipush 48, 2) := by decide +kernel
theorem d_X12_play_119 : decode (mB M_X12_play) 119 = .ok (.isub, 1) := by decide +kernel
theorem d_X12_play_120 : decode (mB M_X12_play) 120 = .ok (.istore 4, 2) := by decide +kernel
theorem d_X12_play_122 : decode (mB M_X12_play) 122 = .ok (.goto 88, 3) := by decide +kernel
theorem d_X12_play_125 : decode (mB M_X12_play) 125 = .ok (.iload 4, 2) := by decide +kernel
theorem d_X12_play_127 : decode (mB M_X12_play) 127 = .ok (.ifCond .ne 7, 3) := by decide +kernel
theorem d_X12_play_130 : decode (mB M_X12_play) 130 = .ok (.iconst 1, 1) := by decide +kernel
theorem d_X12_play_131 : decode (mB M_X12_play) 131 = .ok (.goto 5, 3) := by decide +kernel
theorem d_X12_play_134 : decode (mB M_X12_play) 134 = .ok (.iload 4, 2) := by decide +kernel
theorem d_X12_play_136 : decode (mB M_X12_play) 136 = .ok (.istore 4, 2) := by decide +kernel
theorem d_X12_play_138 : decode (mB M_X12_play) 138 = .ok (.iconst 0, 1) := by decide +kernel
theorem d_X12_play_139 : decode (mB M_X12_play) 139 = .ok (.istore 6, 2) := by decide +kernel
theorem d_X12_play_141 : decode (mB M_X12_play) 141 = .ok (.iload 6, 2) := by decide +kernel
theorem d_X12_play_143 : decode (mB M_X12_play) 143 = .ok (.iload 4, 2) := by decide +kernel
theorem d_X12_play_145 : decode (mB M_X12_play) 145 = .ok (.if_icmp .ge 62, 3) := by decide +kernel
theorem d_X12_play_148 : decode (mB M_X12_play) 148 = .ok (.aload_n 0, 1) := by decide +kernel
theorem d_X12_play_149 : decode (mB M_X12_play) 149 = .ok (.aload_n 0, 1) := by decide +kernel
theorem d_X12_play_150 : decode (mB M_X12_play) 150 = .ok (.getfield 26, 3) := by decide +kernel
theorem d_X12_play_153 : decode (mB M_X12_play) 153 = .ok (.iload 5, 2) := by decide +kernel
theorem d_X12_play_155 : decode (mB M_X12_play) 155 = .ok (.iaload, 1) := by decide +kernel
theorem d_X12_play_156 : decode (mB M_X12_play) 156 = .ok (.invokevirtual 256, 3) := by decide +kernel
theorem d_X12_play_159 : decode (mB M_X12_play) 159 = .ok (.istore 7, 2) := by decide +kernel
theorem d_X12_play_161 : decode (mB M_X12_play) 161 = .ok (.iload 7, 2) := by decide +kernel
theorem d_X12_play_163 : decode (mB M_X12_play) 163 = .ok (.ifCond .le 20, 3) := by decide +kernel
theorem d_X12_play_166 : decode (mB M_X12_play) 166 = .ok (.aload_n 0, 1) := by decide +kernel
theorem d_X12_play_167 : decode (mB M_X12_play) 167 = .ok (.invokevirtual 243, 3) := by decide +kernel
theorem d_X12_play_170 : decode (mB M_X12_play) 170 = .ok (.aload_n 0, 1) := by decide +kernel
theorem d_X12_play_171 : decode (mB M_X12_play) 171 = .ok (.iload_n 3, 1) := by decide +kernel
theorem d_X12_play_172 : decode (mB M_X12_play) 172 = .ok (.putfield 22, 3) := by decide +kernel
theorem d_X12_play_175 : decode (mB M_X12_play) 175 = .ok (.aload_n 0, 1) := by decide +kernel
theorem d_X12_play_176 : decode (mB M_X12_play) 176 = .ok (.iload 7, 2) := by decide +kernel
theorem d_X12_play_178 : decode (mB M_X12_play) 178 = .ok (.iconst 2, 1) := by decide +kernel
theorem d_X12_play_179 : decode (mB M_X12_play) 179 = .ok (.invokevirtual 218, 3) := by decide +kernel
theorem d_X12_play_182 : decode (mB M_X12_play) 182 = .ok (.ireturn, 1) := by decide +kernel
theorem d_X12_play_183 : decode (mB M_X12_play) 183 = .ok (.aload_n 0, 1) := by decide +kernel
theorem d_X12_play_184 : decode (mB M_X12_play) 184 = .ok (.aload_n 0, 1) := by decide +kernel
theorem d_X12_play_185 : decode (mB M_X12_play) 185 = .ok (.getfield 26, 3) := by decide +kernel
theorem d_X12_play_188 : decode (mB M_X12_play) 188 = .ok (.iload 5, 2) := by decide +kernel
theorem d_X12_play_190 : decode (mB M_X12_play) 190 = .ok (.iaload, 1) := by decide +kernel
theorem d_X12_play_191 : decode (mB M_X12_play) 191 = .ok (.invokestatic 250, 3) := by decide +kernel
theorem d_X12_play_194 : decode (mB M_X12_play) 194 = .ok (.invokevirtual 227, 3) := by decide +kernel
theorem d_X12_play_197 : decode (mB M_X12_play) 197 = .ok (.pop, 1) := by decide +kernel
theorem d_X12_play_198 : decode (mB M_X12_play) 198 = .ok (.iinc 3 1, 3) := by decide +kernel
theorem d_X12_play_201 : decode (mB M_X12_play) 201 = .ok (.iinc 6 1, 3) := by decide +kernel
theorem d_X12_play_204 : decode (mB M_X12_play) 204 = .ok (.goto (-63), 3) := by decide +kernel
theorem d_X12_play_207 : decode (mB M_X12_play) 207 = .ok (.iconst 0, 1) := by decide +kernel
theorem d_X12_play_208 : decode (mB M_X12_play) 208 = .ok (.istore 4, 2) := by decide +kernel
theorem d_X12_play_210 : decode (mB M_X12_play) 210 = .ok (.iinc 5 1, 3) := by decide +kernel
theorem d_X12_play_213 : decode (mB M_X12_play) 213 = .ok (.goto (-132), 3) := by decide +kernel
theorem d_X12_play_216 : decode (mB M_X12_play) 216 = .ok (.aload_n 0, 1) := by decide +kernel
theorem d_X12_play_217 : decode (mB M_X12_play) 217 = .ok (.getfield 7, 3) := by decide +kernel
theorem d_X12_play_220 : decode (mB M_X12_play) 220 = .ok (.iconst 4, 1) := by decide +kernel
theorem d_X12_play_221 : decode (mB M_X12_play) 221 = .ok (.iaload, 1) := by decide +kernel
theorem d_X12_play_222 : decode (mB M_X12_play) 222 = .ok (.sipush 400, 3) := by decide +kernel
theorem d_X12_play_225 : decode (mB M_X12_play) 225 = .ok (.if_icmp .le 13, 3) := by decide +kernel
theorem d_X12_play_228 : decode (mB M_X12_play) 228 = .ok (.aload_n 0, 1) := by decide +kernel
theorem d_X12_play_229 : decode (mB M_X12_play) 229 = .ok (.invokevirtual 243, 3) := by decide +kernel
theorem d_X12_play_232 : decode (mB M_X12_play) 232 = .ok (.aload_n 0, 1) := by decide +kernel
theorem d_X12_play_233 : decode (mB M_X12_play) 233 = .ok (.iconst 3, 1) := by decide +kernel
theorem d_X12_play_234 : decode (mB M_X12_play) 234 = .ok (.invokevirtual 114, 3) := by decide +kernel
theorem d_X12_play_237 : decode (mB M_X12_play) 237 = .ok (.ireturn, 1) := by decide +kernel
theorem d_X12_play_238 : decode (mB M_X12_play) 238 = .ok (.aload_n 0, 1) := by decide +kernel
theorem d_X12_play_239 : decode (mB M_X12_play) 239 = .ok (.invokevirtual 224, 3) := by decide +kernel
theorem d_X12_play_242 : decode (mB M_X12_play) 242 = .ok (.iload_n 3, 1) := by decide +kernel
theorem d_X12_play_243 : decode (mB M_X12_play) 243 = .ok (.ireturn, 1) := by decide +kernel
theorem l_m_play {E : mEnv} (hE : E.1.stackTraces = false) (C : List mE) (N : Nat) : ∀ n : Nat, (∀ (v1 : Int32) (v3 : Int32) (v4 : Int32) (v5 : Int32) (t : xT) (r : Int32 × xT), f_play_L N n 81 v1 v3 v4 v5 0 t = some r → Go E M_X12_play 0 (81, [some (.ref 0), some (.int v1), none, some (.int v3), some (.int v4), some (.int v5), none, none], [], (mw t, C)) (.inr (.inl (some (.int r.1), (mw r.2, C))))) ∧ (∀ (v1 : Int32) (v3 : Int32) (v4 : Int32) (v5 : Int32) (v6 : Int32) (t : xT) (r : Int32 × xT), f_play_L N n 141 v1 v3 v4 v5 v6 t = some r → Go E M_X12_play 0 (141, [some (.ref 0), some (.int v1), none, some (.int v3), some (.int v4), some (.int v5), some (.int v6), none], [], (mw t, C)) (.inr (.inl (some (.int r.1), (mw r.2, C))))) := by
  intro n
  induction n with
  | zero => exact ⟨(fun v1 v3 v4 v5 t r h => by cases h), (fun v1 v3 v4 v5 v6 t r h => by cases h)⟩
  | succ n ih =>
    refine ⟨?_, ?_⟩
    · intro v1 v3 v4 v5 t r h
      rw [u_play_81] at h
      refine g_iload d_X12_play_81 rfl ?_
      refine g_iload_n d_X12_play_83 rfl ?_
      refine g_icmp_ge (tgt := 216) d_X12_play_84 (by decide) (fun c_84 => ?_) (fun c_84 => ?_)
      · replace h := opos c_84 h
        refine g_aload_n d_X12_play_216 rfl ?_
        refine g_getf d_X12_play_217 f_X12_7 (gm0 t C) rfl ?_
        refine g_iconst (v := 4) d_X12_play_220 (by decide) ?_
        refine g_iald d_X12_play_221 (gm_1 t C) (inB_in (by decide)) ?_
        refine g_sipush (v := 400) d_X12_play_222 (by decide) ?_
        refine g_icmp_le (tgt := 238) d_X12_play_225 (by decide) (fun c_225 => ?_) (fun c_225 => ?_)
        · replace h := opos c_225 h
          refine g_aload_n d_X12_play_238 rfl ?_
          obtain ⟨r_239, h_239, h⟩ := obind h
          refine g_callV (As := []) d_X12_play_239 o_X12_commands l_X12_224 ⟨Nat.le_of_ble_eq_true rfl, Nat.le_of_ble_eq_true rfl⟩ (c_m_commands hE C N t _ h_239) (gm0 t C) rfl rfl rfl rfl rfl ?_ (Nat.zero_add _)
          refine g_iload_n d_X12_play_242 rfl ?_
          obtain rfl := osome h
          exact g_retI d_X12_play_243 rfl rfl rfl
        · replace h := oneg c_225 h
          refine g_aload_n d_X12_play_228 rfl ?_
          obtain ⟨r_229, h_229, h⟩ := obind h
          refine g_callV (As := []) d_X12_play_229 o_X12_goesBack l_X12_243 ⟨Nat.le_of_ble_eq_true rfl, Nat.le_of_ble_eq_true rfl⟩ (c_m_goesBack hE C N t _ h_229) (gm0 t C) rfl rfl rfl rfl rfl ?_ (Nat.zero_add _)
          refine g_aload_n d_X12_play_232 rfl ?_
          refine g_iconst (v := 3) d_X12_play_233 (by decide) ?_
          obtain ⟨r_234, h_234, h⟩ := obind h
          refine g_callV (As := [.int 3]) d_X12_play_234 o_X12_fails l_X12_114 ⟨Nat.le_of_ble_eq_true rfl, Nat.le_of_ble_eq_true rfl⟩ (c_m_fails hE C r_229 3 _ h_234) (gm0 r_229 C) rfl rfl rfl rfl rfl ?_ (Nat.zero_add _)
          obtain rfl := osome h
          exact g_retI d_X12_play_237 rfl rfl rfl
      · replace h := oneg c_84 h
        refine g_aload_n d_X12_play_87 rfl ?_
        refine g_getf d_X12_play_88 f_X12_26 (gm0 t C) rfl ?_
        refine g_iload d_X12_play_91 rfl ?_
        obtain ⟨i_93, h⟩ := ochk h
        refine g_iald d_X12_play_93 (gm_5 t C) (inB_in i_93) ?_
        refine g_bipush (v := 48) d_X12_play_94 (by decide) ?_
        refine g_bipush (v := 57) d_X12_play_96 (by decide) ?_
        obtain ⟨r_98, h_98, h⟩ := obind h
        refine g_callS (As := [.int ((ra t 5) (Int32.toNatClampNeg v5)), .int 48, .int 57]) d_X12_play_98 o_X12_in l_X12_76 ⟨Nat.le_of_ble_eq_true rfl, Nat.le_of_ble_eq_true rfl⟩ (c_m_in hE C t ((ra t 5) (Int32.toNatClampNeg v5)) 48 57 _ h_98) rfl rfl ?_ (Nat.zero_add _)
        refine g_if_eq (tgt := 125) d_X12_play_101 (by decide) (fun c_101 => ?_) (fun c_101 => ?_)
        · replace h := opos c_101 h
          refine g_iload d_X12_play_125 rfl ?_
          obtain ⟨r_127, h_127, hh_127⟩ := obind h
          refine Go.trans0 (S1 := (136, [some (.ref 0), some (.int v1), none, some (.int v3), none, some (.int v5), none, none], [.int r_127], (mw t, C))) ?_ ?_
          · replace h := h_127
            clear hh_127
            refine g_if_ne (tgt := 134) d_X12_play_127 (by decide) (fun c_127 => ?_) (fun c_127 => ?_)
            · replace h := oneg c_127 h
              refine g_iload d_X12_play_134 rfl ?_
              obtain rfl := osome h
              exact g_drop [4] rfl (g_end rfl)
            · replace h := opos c_127 h
              refine g_iconst (v := 1) d_X12_play_130 (by decide) ?_
              refine g_goto (tgt := 136) d_X12_play_131 (by decide) ?_
              obtain rfl := osome h
              exact g_drop [4] rfl (g_end rfl)
          replace h := hh_127
          refine g_istore (L' := [some (.ref 0), some (.int v1), none, some (.int v3), some (.int r_127), some (.int v5), none, none]) d_X12_play_136 rfl rfl ?_
          refine g_iconst (v := 0) d_X12_play_138 (by decide) ?_
          refine g_istore (L' := [some (.ref 0), some (.int v1), none, some (.int v3), some (.int r_127), some (.int v5), some (.int 0), none]) d_X12_play_139 rfl rfl ?_
          exact (ih).2 v1 v3 r_127 v5 0 t _ h
        · replace h := oneg c_101 h
          refine g_bipush (v := 10) d_X12_play_104 (by decide) ?_
          refine g_iload d_X12_play_106 rfl ?_
          refine g_imul d_X12_play_108 ?_
          refine g_aload_n d_X12_play_109 rfl ?_
          refine g_getf d_X12_play_110 f_X12_26 (gm0 t C) rfl ?_
          refine g_iload d_X12_play_113 rfl ?_
          obtain ⟨i_115, h⟩ := ochk h
          refine g_iald d_X12_play_115 (gm_5 t C) (inB_in i_115) ?_
          refine g_iadd d_X12_play_116 ?_
          refine g_bipush (v := 48) d_X12_play_117 (by decide) ?_
          refine g_isub d_X12_play_119 ?_
          refine g_istore (L' := [some (.ref 0), some (.int v1), none, some (.int v3), some (.int (((10 * v4) + ((ra t 5) (Int32.toNatClampNeg v5))) - 48)), some (.int v5), none, none]) d_X12_play_120 rfl rfl ?_
          refine g_goto (tgt := 210) d_X12_play_122 (by decide) ?_
          refine g_iinc (v := (v5 + 1)) (L' := [some (.ref 0), some (.int v1), none, some (.int v3), some (.int (((10 * v4) + ((ra t 5) (Int32.toNatClampNeg v5))) - 48)), some (.int (v5 + 1)), none, none]) d_X12_play_210 rfl rfl rfl ?_
          refine g_goto (tgt := 81) d_X12_play_213 (by decide) ?_
          exact (ih).1 v1 v3 (((10 * v4) + ((ra t 5) (Int32.toNatClampNeg v5))) - 48) (v5 + 1) t _ h
    · intro v1 v3 v4 v5 v6 t r h
      rw [u_play_141] at h
      refine g_iload d_X12_play_141 rfl ?_
      refine g_iload d_X12_play_143 rfl ?_
      refine g_icmp_ge (tgt := 207) d_X12_play_145 (by decide) (fun c_145 => ?_) (fun c_145 => ?_)
      · replace h := opos c_145 h
        refine g_iconst (v := 0) d_X12_play_207 (by decide) ?_
        refine g_istore (L' := [some (.ref 0), some (.int v1), none, some (.int v3), some (.int 0), some (.int v5), some (.int v6), none]) d_X12_play_208 rfl rfl ?_
        refine g_iinc (v := (v5 + 1)) (L' := [some (.ref 0), some (.int v1), none, some (.int v3), some (.int 0), some (.int (v5 + 1)), some (.int v6), none]) d_X12_play_210 rfl rfl rfl ?_
        refine g_goto (tgt := 81) d_X12_play_213 (by decide) ?_
        refine g_drop [6] (L1 := [some (.ref 0), some (.int v1), none, some (.int v3), some (.int 0), some (.int (v5 + 1)), none, none]) rfl ?_
        exact (ih).1 v1 v3 0 (v5 + 1) t _ h
      · replace h := oneg c_145 h
        refine g_aload_n d_X12_play_148 rfl ?_
        refine g_aload_n d_X12_play_149 rfl ?_
        refine g_getf d_X12_play_150 f_X12_26 (gm0 t C) rfl ?_
        refine g_iload d_X12_play_153 rfl ?_
        obtain ⟨i_155, h⟩ := ochk h
        refine g_iald d_X12_play_155 (gm_5 t C) (inB_in i_155) ?_
        obtain ⟨r_156, h_156, h⟩ := obind h
        refine g_callV (As := [.int ((ra t 5) (Int32.toNatClampNeg v5))]) d_X12_play_156 o_X12_reasonForLetter l_X12_256 ⟨Nat.le_of_ble_eq_true rfl, Nat.le_of_ble_eq_true rfl⟩ (c_m_reasonForLetter hE C t ((ra t 5) (Int32.toNatClampNeg v5)) _ h_156) (gm0 t C) rfl rfl rfl rfl rfl ?_ (Nat.zero_add _)
        refine g_istore (L' := [some (.ref 0), some (.int v1), none, some (.int v3), some (.int v4), some (.int v5), some (.int v6), some (.int r_156.1)]) d_X12_play_159 rfl rfl ?_
        refine g_iload d_X12_play_161 rfl ?_
        refine g_if_le (tgt := 183) d_X12_play_163 (by decide) (fun c_163 => ?_) (fun c_163 => ?_)
        · replace h := opos c_163 h
          refine g_aload_n d_X12_play_183 rfl ?_
          refine g_aload_n d_X12_play_184 rfl ?_
          refine g_getf d_X12_play_185 f_X12_26 (gm0 r_156.2 C) rfl ?_
          refine g_iload d_X12_play_188 rfl ?_
          obtain ⟨i_190, h⟩ := ochk h
          refine g_iald d_X12_play_190 (gm_5 r_156.2 C) (inB_in i_190) ?_
          refine g_callS (As := [.int ((ra r_156.2 5) (Int32.toNatClampNeg v5))]) d_X12_play_191 o_X12_directionOf l_X12_250 ⟨Nat.le_of_ble_eq_true rfl, Nat.le_of_ble_eq_true rfl⟩ (c_m_directionOf hE C r_156.2 ((ra r_156.2 5) (Int32.toNatClampNeg v5))) rfl rfl ?_ (Nat.zero_add _)
          obtain ⟨r_194, h_194, h⟩ := obind h
          refine g_callV (As := [.int (f_directionOf ((ra r_156.2 5) (Int32.toNatClampNeg v5)))]) d_X12_play_194 o_X12_goes l_X12_227 ⟨Nat.le_of_ble_eq_true rfl, Nat.le_of_ble_eq_true rfl⟩ (c_m_goes hE C r_156.2 (f_directionOf ((ra r_156.2 5) (Int32.toNatClampNeg v5))) _ h_194) (gm0 r_156.2 C) rfl rfl rfl rfl rfl ?_ (Nat.zero_add _)
          refine g_pop d_X12_play_197 rfl ?_
          refine g_iinc (v := (v3 + 1)) (L' := [some (.ref 0), some (.int v1), none, some (.int (v3 + 1)), some (.int v4), some (.int v5), some (.int v6), some (.int r_156.1)]) d_X12_play_198 rfl rfl rfl ?_
          refine g_iinc (v := (v6 + 1)) (L' := [some (.ref 0), some (.int v1), none, some (.int (v3 + 1)), some (.int v4), some (.int v5), some (.int (v6 + 1)), some (.int r_156.1)]) d_X12_play_201 rfl rfl rfl ?_
          refine g_goto (tgt := 141) d_X12_play_204 (by decide) ?_
          refine g_drop [7] (L1 := [some (.ref 0), some (.int v1), none, some (.int (v3 + 1)), some (.int v4), some (.int v5), some (.int (v6 + 1)), none]) rfl ?_
          exact (ih).2 v1 (v3 + 1) v4 v5 (v6 + 1) r_194.2 _ h
        · replace h := oneg c_163 h
          refine g_aload_n d_X12_play_166 rfl ?_
          obtain ⟨r_167, h_167, h⟩ := obind h
          refine g_callV (As := []) d_X12_play_167 o_X12_goesBack l_X12_243 ⟨Nat.le_of_ble_eq_true rfl, Nat.le_of_ble_eq_true rfl⟩ (c_m_goesBack hE C N r_156.2 _ h_167) (gm0 r_156.2 C) rfl rfl rfl rfl rfl ?_ (Nat.zero_add _)
          refine g_aload_n d_X12_play_170 rfl ?_
          refine g_iload_n d_X12_play_171 rfl ?_
          obtain ⟨t_172, e_172, h⟩ := olet h
          refine g_putI (w' := (mw t_172, C)) d_X12_play_172 p_X12_22 rfl rfl (gm0 r_167 C) (Nat.le_of_ble_eq_true rfl) (by rw [e_172]; exact sc_8 r_167 C _) ?_
          refine g_aload_n d_X12_play_175 rfl ?_
          refine g_iload d_X12_play_176 rfl ?_
          refine g_iconst (v := 2) d_X12_play_178 (by decide) ?_
          obtain ⟨r_179, h_179, h⟩ := obind h
          refine g_callV (As := [.int r_156.1, .int 2]) d_X12_play_179 o_X12_keeps l_X12_218 ⟨Nat.le_of_ble_eq_true rfl, Nat.le_of_ble_eq_true rfl⟩ (c_m_keeps hE C t_172 r_156.1 2 _ h_179) (gm0 t_172 C) rfl rfl rfl rfl rfl ?_ (Nat.zero_add _)
          obtain rfl := osome h
          exact g_retI d_X12_play_182 rfl rfl rfl
theorem c_m_play {E : mEnv} (hE : E.1.stackTraces = false) (C : List mE) (N : Nat) (t : xT)  (r : Int32 × xT) (h : f_play N t = some r) : Rt E M_X12_play 0 [.ref 0] (mw t, C) (some (.int r.1)) (mw r.2, C) := by
  unfold f_play at h
  refine Rt.of hE rfl pn_X12 (Nat.le_of_ble_eq_true rfl) ?_
  refine g_eq (S' := (0, [some (.ref 0), none, none, none, none, none, none, none], [], (mw t, C))) rfl ?_
  refine g_aload_n d_X12_play_0 rfl ?_
  refine g_aload_n d_X12_play_1 rfl ?_
  obtain ⟨r_2, h_2, h⟩ := obind h
  refine g_callV (As := []) d_X12_play_2 o_X12_hasRoom l_X12_83 ⟨Nat.le_of_ble_eq_true rfl, Nat.le_of_ble_eq_true rfl⟩ (c_m_hasRoom hE C t _ h_2) (gm0 t C) rfl rfl rfl rfl rfl ?_ (Nat.zero_add _)
  obtain ⟨r_5, h_5, hh_5⟩ := obind h
  refine Go.trans0 (S1 := (13, [some (.ref 0), none, none, none, none, none, none, none], [.int r_5, .ref 0], (mw t, C))) ?_ ?_
  · replace h := h_5
    clear hh_5
    refine g_if_eq (tgt := 12) d_X12_play_5 (by decide) (fun c_5 => ?_) (fun c_5 => ?_)
    · replace h := opos c_5 h
      refine g_iconst (v := 1) d_X12_play_12 (by decide) ?_
      obtain rfl := osome h
      exact g_end rfl
    · replace h := oneg c_5 h
      refine g_iconst (v := 0) d_X12_play_8 (by decide) ?_
      refine g_goto (tgt := 13) d_X12_play_9 (by decide) ?_
      obtain rfl := osome h
      exact g_end rfl
  replace h := hh_5
  obtain ⟨t_13, e_13, h⟩ := olet h
  refine g_putI (w' := (mw t_13, C)) d_X12_play_13 p_X12_73 rfl rfl (gm0 t C) (Nat.le_of_ble_eq_true rfl) (by rw [e_13]; exact sc_9 t C _) ?_
  refine g_aload_n d_X12_play_16 rfl ?_
  refine g_getf d_X12_play_17 f_X12_91 (gm0 t_13 C) rfl ?_
  refine g_istore_n (L' := [some (.ref 0), some (.int (rs t_13 11)), none, none, none, none, none, none]) d_X12_play_20 rfl rfl ?_
  refine g_aload_n d_X12_play_21 rfl ?_
  refine g_getf d_X12_play_22 f_X12_73 (gm0 t_13 C) rfl ?_
  obtain ⟨r_25, h_25, hh_25⟩ := obind h
  refine Go.trans0 (S1 := (36, [some (.ref 0), some (.int (rs t_13 11)), none, none, none, none, none, none], [.int r_25], (mw t_13, C))) ?_ ?_
  · replace h := h_25
    clear hh_25
    refine g_if_le (tgt := 32) d_X12_play_25 (by decide) (fun c_25 => ?_) (fun c_25 => ?_)
    · replace h := opos c_25 h
      refine g_aload_n d_X12_play_32 rfl ?_
      obtain ⟨r_33, h_33, h⟩ := obind h
      refine g_callV (As := []) d_X12_play_33 o_X12_stepsFault l_X12_253 ⟨Nat.le_of_ble_eq_true rfl, Nat.le_of_ble_eq_true rfl⟩ (c_m_stepsFault hE C N t_13 _ h_33) (gm0 t_13 C) rfl rfl rfl rfl rfl ?_ (Nat.zero_add _)
      obtain rfl := osome h
      exact g_end rfl
    · replace h := oneg c_25 h
      refine g_iconst (v := (-1)) d_X12_play_28 (by decide) ?_
      refine g_goto (tgt := 36) d_X12_play_29 (by decide) ?_
      obtain rfl := osome h
      exact g_end rfl
  replace h := hh_25
  refine g_istore_n (L' := [some (.ref 0), some (.int (rs t_13 11)), some (.int r_25), none, none, none, none, none]) d_X12_play_36 rfl rfl ?_
  refine g_aload_n d_X12_play_37 rfl ?_
  refine g_iconst (v := 0) d_X12_play_38 (by decide) ?_
  obtain ⟨t_39, e_39, h⟩ := olet h
  refine g_putI (w' := (mw t_39, C)) d_X12_play_39 p_X12_91 rfl rfl (gm0 t_13 C) (Nat.le_of_ble_eq_true rfl) (by rw [e_39]; exact sc_11 t_13 C _) ?_
  refine g_aload_n d_X12_play_42 rfl ?_
  refine g_getf d_X12_play_43 f_X12_73 (gm0 t_39 C) rfl ?_
  refine g_if_gt (tgt := 53) d_X12_play_46 (by decide) (fun c_46 => ?_) (fun c_46 => ?_)
  · replace h := opos c_46 h
    refine g_aload_n d_X12_play_53 rfl ?_
    refine g_getf d_X12_play_54 f_X12_73 (gm0 t_39 C) rfl ?_
    obtain ⟨r_57, h_57, hh_57⟩ := obind h
    refine Go.trans0 (S1 := (68, [none, none, none, none, none, none, none, none], [.int r_57], (mw t_39, C))) ?_ ?_
    · replace h := h_57
      clear hh_57
      refine g_if_le (tgt := 64) d_X12_play_57 (by decide) (fun c_57 => ?_) (fun c_57 => ?_)
      · replace h := opos c_57 h
        refine g_bipush (v := (-100)) d_X12_play_64 (by decide) ?_
        refine g_iload_n d_X12_play_66 rfl ?_
        refine g_isub d_X12_play_67 ?_
        obtain rfl := osome h
        exact g_drop [0, 1, 2] rfl (g_end rfl)
      · replace h := oneg c_57 h
        refine g_iconst (v := 0) d_X12_play_60 (by decide) ?_
        refine g_goto (tgt := 68) d_X12_play_61 (by decide) ?_
        obtain rfl := osome h
        exact g_drop [0, 1, 2] rfl (g_end rfl)
    replace h := hh_57
    obtain rfl := osome h
    exact g_retI d_X12_play_68 rfl rfl rfl
  · replace h := oneg c_46 h
    refine g_iload_n d_X12_play_49 rfl ?_
    refine g_if_lt (tgt := 69) d_X12_play_50 (by decide) (fun c_50 => ?_) (fun c_50 => ?_)
    · replace h := opos c_50 h
      refine g_aload_n d_X12_play_69 rfl ?_
      obtain ⟨r_70, h_70, h⟩ := obind h
      refine g_callV (As := []) d_X12_play_70 o_X12_remembers l_X12_221 ⟨Nat.le_of_ble_eq_true rfl, Nat.le_of_ble_eq_true rfl⟩ (c_m_remembers hE C N t_39 _ h_70) (gm0 t_39 C) rfl rfl rfl rfl rfl ?_ (Nat.zero_add _)
      refine g_iconst (v := 0) d_X12_play_73 (by decide) ?_
      refine g_istore_n (L' := [some (.ref 0), some (.int (rs t_13 11)), some (.int r_25), some (.int 0), none, none, none, none]) d_X12_play_74 rfl rfl ?_
      refine g_iconst (v := 0) d_X12_play_75 (by decide) ?_
      refine g_istore (L' := [some (.ref 0), some (.int (rs t_13 11)), some (.int r_25), some (.int 0), some (.int 0), none, none, none]) d_X12_play_76 rfl rfl ?_
      refine g_iconst (v := 0) d_X12_play_78 (by decide) ?_
      refine g_istore (L' := [some (.ref 0), some (.int (rs t_13 11)), some (.int r_25), some (.int 0), some (.int 0), some (.int 0), none, none]) d_X12_play_79 rfl rfl ?_
      refine g_drop [2] (L1 := [some (.ref 0), some (.int (rs t_13 11)), none, some (.int 0), some (.int 0), some (.int 0), none, none]) rfl ?_
      exact (l_m_play hE C N N).1 (rs t_13 11) 0 0 0 r_70 _ h
    · replace h := oneg c_50 h
      refine g_aload_n d_X12_play_53 rfl ?_
      refine g_getf d_X12_play_54 f_X12_73 (gm0 t_39 C) rfl ?_
      obtain ⟨r_57, h_57, hh_57⟩ := obind h
      refine Go.trans0 (S1 := (68, [none, none, none, none, none, none, none, none], [.int r_57], (mw t_39, C))) ?_ ?_
      · replace h := h_57
        clear hh_57
        refine g_if_le (tgt := 64) d_X12_play_57 (by decide) (fun c_57 => ?_) (fun c_57 => ?_)
        · replace h := opos c_57 h
          refine g_bipush (v := (-100)) d_X12_play_64 (by decide) ?_
          refine g_iload_n d_X12_play_66 rfl ?_
          refine g_isub d_X12_play_67 ?_
          obtain rfl := osome h
          exact g_drop [0, 1, 2] rfl (g_end rfl)
        · replace h := oneg c_57 h
          refine g_iconst (v := 0) d_X12_play_60 (by decide) ?_
          refine g_goto (tgt := 68) d_X12_play_61 (by decide) ?_
          obtain rfl := osome h
          exact g_drop [0, 1, 2] rfl (g_end rfl)
      replace h := hh_57
      obtain rfl := osome h
      exact g_retI d_X12_play_68 rfl rfl rfl
def f_refused (t : xT)  : Option (Int32 × xT) :=
  Option.bind (if 0 ≤ (rs t 8) then (some (0 : Int32))
    else (some (1 : Int32))) fun (r_5 : Int32) =>
  Option.bind (some (ws t 9 r_5)) fun t_13 =>
  Option.bind (if (rs t_13 9) ≤ 0 then (some (rs t_13 8))
    else (some (0 : Int32))) fun (r_20 : Int32) =>
  some (r_20, t_13)
theorem d_X12_refused_0 : decode (mB M_X12_refused) 0 = .ok (.aload_n 0, 1) := by decide +kernel
theorem d_X12_refused_1 : decode (mB M_X12_refused) 1 = .ok (.aload_n 0, 1) := by decide +kernel
theorem d_X12_refused_2 : decode (mB M_X12_refused) 2 = .ok (.getfield 22, 3) := by decide +kernel
theorem d_X12_refused_5 : decode (mB M_X12_refused) 5 = .ok (.ifCond .ge 7, 3) := by decide +kernel
theorem d_X12_refused_8 : decode (mB M_X12_refused) 8 = .ok (.iconst 1, 1) := by decide +kernel
theorem d_X12_refused_9 : decode (mB M_X12_refused) 9 = .ok (.goto 4, 3) := by decide +kernel
theorem d_X12_refused_12 : decode (mB M_X12_refused) 12 = .ok (.iconst 0, 1) := by decide +kernel
theorem d_X12_refused_13 : decode (mB M_X12_refused) 13 = .ok (.putfield 73, 3) := by decide +kernel
theorem d_X12_refused_16 : decode (mB M_X12_refused) 16 = .ok (.aload_n 0, 1) := by decide +kernel
theorem d_X12_refused_17 : decode (mB M_X12_refused) 17 = .ok (.getfield 73, 3) := by decide +kernel
theorem d_X12_refused_20 : decode (mB M_X12_refused) 20 = .ok (.ifCond .le 7, 3) := by decide +kernel
theorem d_X12_refused_23 : decode (mB M_X12_refused) 23 = .ok (.iconst 0, 1) := by decide +kernel
theorem d_X12_refused_24 : decode (mB M_X12_refused) 24 = .ok (.goto 7, 3) := by decide +kernel
theorem d_X12_refused_27 : decode (mB M_X12_refused) 27 = .ok (.aload_n 0, 1) := by decide +kernel
theorem d_X12_refused_28 : decode (mB M_X12_refused) 28 = .ok (.getfield 22, 3) := by decide +kernel
theorem d_X12_refused_31 : decode (mB M_X12_refused) 31 = .ok (.ireturn, 1) := by decide +kernel
theorem c_m_refused {E : mEnv} (hE : E.1.stackTraces = false) (C : List mE) (t : xT)  (r : Int32 × xT) (h : f_refused t = some r) : Rt E M_X12_refused 0 [.ref 0] (mw t, C) (some (.int r.1)) (mw r.2, C) := by
  unfold f_refused at h
  refine Rt.of hE rfl pn_X12 (Nat.le_of_ble_eq_true rfl) ?_
  refine g_eq (S' := (0, [some (.ref 0)], [], (mw t, C))) rfl ?_
  refine g_aload_n d_X12_refused_0 rfl ?_
  refine g_aload_n d_X12_refused_1 rfl ?_
  refine g_getf d_X12_refused_2 f_X12_22 (gm0 t C) rfl ?_
  obtain ⟨r_5, h_5, hh_5⟩ := obind h
  refine Go.trans0 (S1 := (13, [some (.ref 0)], [.int r_5, .ref 0], (mw t, C))) ?_ ?_
  · replace h := h_5
    clear hh_5
    refine g_if_ge (tgt := 12) d_X12_refused_5 (by decide) (fun c_5 => ?_) (fun c_5 => ?_)
    · replace h := opos c_5 h
      refine g_iconst (v := 0) d_X12_refused_12 (by decide) ?_
      obtain rfl := osome h
      exact g_end rfl
    · replace h := oneg c_5 h
      refine g_iconst (v := 1) d_X12_refused_8 (by decide) ?_
      refine g_goto (tgt := 13) d_X12_refused_9 (by decide) ?_
      obtain rfl := osome h
      exact g_end rfl
  replace h := hh_5
  obtain ⟨t_13, e_13, h⟩ := olet h
  refine g_putI (w' := (mw t_13, C)) d_X12_refused_13 p_X12_73 rfl rfl (gm0 t C) (Nat.le_of_ble_eq_true rfl) (by rw [e_13]; exact sc_9 t C _) ?_
  refine g_aload_n d_X12_refused_16 rfl ?_
  refine g_getf d_X12_refused_17 f_X12_73 (gm0 t_13 C) rfl ?_
  obtain ⟨r_20, h_20, hh_20⟩ := obind h
  refine Go.trans0 (S1 := (31, [none], [.int r_20], (mw t_13, C))) ?_ ?_
  · replace h := h_20
    clear hh_20
    refine g_if_le (tgt := 27) d_X12_refused_20 (by decide) (fun c_20 => ?_) (fun c_20 => ?_)
    · replace h := opos c_20 h
      refine g_aload_n d_X12_refused_27 rfl ?_
      refine g_getf d_X12_refused_28 f_X12_22 (gm0 t_13 C) rfl ?_
      obtain rfl := osome h
      exact g_drop [0] rfl (g_end rfl)
    · replace h := oneg c_20 h
      refine g_iconst (v := 0) d_X12_refused_23 (by decide) ?_
      refine g_goto (tgt := 31) d_X12_refused_24 (by decide) ?_
      obtain rfl := osome h
      exact g_drop [0] rfl (g_end rfl)
  replace h := hh_20
  obtain rfl := osome h
  exact g_retI d_X12_refused_31 rfl rfl rfl
