/-! the model, further -/
def f_cell (t : xT) (a0 : Int32) (a1 : Int32) : Option (Int32 × xT) :=
  Option.bind (f_hasRoom t) fun r_2 =>
  Option.bind (if r_2 = 0 then (some (1 : Int32))
    else (Option.bind (f_in a0 0 (((ra t 1) (Int32.toNatClampNeg 1)) - 1)) fun r_18 =>
      if r_18 = 0 then (some (2 : Int32))
      else (Option.bind (f_in a1 0 (((ra t 1) (Int32.toNatClampNeg 2)) - 1)) fun r_34 =>
        if r_34 = 0 then (some (2 : Int32))
        else (some (0 : Int32))))) fun (r_5 : Int32) =>
  Option.bind (some (ws t 9 r_5)) fun t_49 =>
  if (rs t_49 9) ≤ 0 then (Option.bind (f_isOpen t_49 ((a0 * ((ra t_49 1) (Int32.toNatClampNeg 2))) + a1)) fun r_75 =>
    if r_75 = 0 then (some ((35 : Int32), t_49))
    else (Option.bind (f_isBox t_49 ((a0 * ((ra t_49 1) (Int32.toNatClampNeg 2))) + a1)) fun r_86 =>
      if r_86 = 0 then (if ((a0 * ((ra t_49 1) (Int32.toNatClampNeg 2))) + a1) = ((ra t_49 1) (Int32.toNatClampNeg 3)) then (Option.bind (f_isGoal t_49 ((a0 * ((ra t_49 1) (Int32.toNatClampNeg 2))) + a1)) fun r_120 =>
          Option.bind (if r_120 = 0 then (some (64 : Int32))
            else (some (43 : Int32))) fun (r_123 : Int32) =>
          if inB r_123 65536 = true then (some (r_123, t_49)) else none)
        else (Option.bind (f_isGoal t_49 ((a0 * ((ra t_49 1) (Int32.toNatClampNeg 2))) + a1)) fun r_136 =>
          Option.bind (if r_136 = 0 then (some (45 : Int32))
            else (some (46 : Int32))) fun (r_139 : Int32) =>
          if inB r_139 65536 = true then (some (r_139, t_49)) else none))
      else (Option.bind (f_isGoal t_49 ((a0 * ((ra t_49 1) (Int32.toNatClampNeg 2))) + a1)) fun r_94 =>
        Option.bind (if r_94 = 0 then (some (36 : Int32))
          else (some (42 : Int32))) fun (r_97 : Int32) =>
        if inB r_97 65536 = true then (some (r_97, t_49)) else none)))
  else (some ((97 : Int32), t_49))
theorem d_X12_cell_0 : decode (mB M_X12_cell) 0 = .ok (.aload_n 0, 1) := by decide +kernel
theorem d_X12_cell_1 : decode (mB M_X12_cell) 1 = .ok (.aload_n 0, 1) := by decide +kernel
theorem d_X12_cell_2 : decode (mB M_X12_cell) 2 = .ok (.invokevirtual 83, 3) := by decide +kernel
theorem d_X12_cell_5 : decode (mB M_X12_cell) 5 = .ok (.ifCond .eq 43, 3) := by decide +kernel
theorem d_X12_cell_8 : decode (mB M_X12_cell) 8 = .ok (.iload_n 1, 1) := by decide +kernel
theorem d_X12_cell_9 : decode (mB M_X12_cell) 9 = .ok (.iconst 0, 1) := by decide +kernel
theorem d_X12_cell_10 : decode (mB M_X12_cell) 10 = .ok (.aload_n 0, 1) := by decide +kernel
theorem d_X12_cell_11 : decode (mB M_X12_cell) 11 = .ok (.getfield 7, 3) := by decide +kernel
theorem d_X12_cell_14 : decode (mB M_X12_cell) 14 = .ok (.iconst 1, 1) := by decide +kernel
theorem d_X12_cell_15 : decode (mB M_X12_cell) 15 = .ok (.iaload, 1) := by decide +kernel
theorem d_X12_cell_16 : decode (mB M_X12_cell) 16 = .ok (.iconst 1, 1) := by decide +kernel
theorem d_X12_cell_17 : decode (mB M_X12_cell) 17 = .ok (.isub, 1) := by decide +kernel
theorem d_X12_cell_18 : decode (mB M_X12_cell) 18 = .ok (.invokestatic 76, 3) := by decide +kernel
theorem d_X12_cell_21 : decode (mB M_X12_cell) 21 = .ok (.ifCond .eq 23, 3) := by decide +kernel
theorem d_X12_cell_24 : decode (mB M_X12_cell) 24 = .ok (.iload_n 2, 1) := by decide +kernel
theorem d_X12_cell_25 : decode (mB M_X12_cell) 25 = .ok (.iconst 0, 1) := by decide +kernel
theorem d_X12_cell_26 : decode (mB M_X12_cell) 26 = .ok (.aload_n 0, 1) := by decide +kernel
theorem d_X12_cell_27 : decode (mB M_X12_cell) 27 = .ok (.getfield 7, 3) := by decide +kernel
theorem d_X12_cell_30 : decode (mB M_X12_cell) 30 = .ok (.iconst 2, 1) := by decide +kernel
theorem d_X12_cell_31 : decode (mB M_X12_cell) 31 = .ok (.iaload, 1) := by decide +kernel
theorem d_X12_cell_32 : decode (mB M_X12_cell) 32 = .ok (.iconst 1, 1) := by decide +kernel
theorem d_X12_cell_33 : decode (mB M_X12_cell) 33 = .ok (.isub, 1) := by decide +kernel
theorem d_X12_cell_34 : decode (mB M_X12_cell) 34 = .ok (.invokestatic 76, 3) := by decide +kernel
theorem d_X12_cell_37 : decode (mB M_X12_cell) 37 = .ok (.ifCond .eq 7, 3) := by decide +kernel
theorem d_X12_cell_40 : decode (mB M_X12_cell) 40 = .ok (.iconst 0, 1) := by decide +kernel
theorem d_X12_cell_41 : decode (mB M_X12_cell) 41 = .ok (.goto 8, 3) := by decide +kernel
theorem d_X12_cell_44 : decode (mB M_X12_cell) 44 = .ok (.iconst 2, 1) := by decide +kernel
theorem d_X12_cell_45 : decode (mB M_X12_cell) 45 = .ok (.goto 4, 3) := by decide +kernel
theorem d_X12_cell_48 : decode (mB M_X12_cell) 48 = .ok (.iconst 1, 1) := by decide +kernel
theorem d_X12_cell_49 : decode (mB M_X12_cell) 49 = .ok (.putfield 73, 3) := by decide +kernel
theorem d_X12_cell_52 : decode (mB M_X12_cell) 52 = .ok (.aload_n 0, 1) := by decide +kernel
theorem d_X12_cell_53 : decode (mB M_X12_cell) 53 = .ok (.getfield 73, 3) := by decide +kernel
theorem d_X12_cell_56 : decode (mB M_X12_cell) 56 = .ok (.ifCond .le 6, 3) := by decide +kernel
theorem d_X12_cell_59 : decode (mB M_X12_cell) 59 = .ok (.bipush 97, 2) := by decide +kernel
theorem d_X12_cell_61 : decode (mB M_X12_cell) 61 = .ok (.ireturn, 1) := by decide +kernel
theorem d_X12_cell_62 : decode (mB M_X12_cell) 62 = .ok (.iload_n 1, 1) := by decide +kernel
theorem d_X12_cell_63 : decode (mB M_X12_cell) 63 = .ok (.aload_n 0, 1) := by decide +kernel
theorem d_X12_cell_64 : decode (mB M_X12_cell) 64 = .ok (.getfield 7, 3) := by decide +kernel
theorem d_X12_cell_67 : decode (mB M_X12_cell) 67 = .ok (.iconst 2, 1) := by decide +kernel
theorem d_X12_cell_68 : decode (mB M_X12_cell) 68 = .ok (.iaload, 1) := by decide +kernel
theorem d_X12_cell_69 : decode (mB M_X12_cell) 69 = .ok (.imul, 1) := by decide +kernel
theorem d_X12_cell_70 : decode (mB M_X12_cell) 70 = .ok (.iload_n 2, 1) := by decide +kernel
theorem d_X12_cell_71 : decode (mB M_X12_cell) 71 = .ok (.iadd, 1) := by decide +kernel
theorem d_X12_cell_72 : decode (mB M_X12_cell) 72 = .ok (.istore_n 3, 1) := by decide +kernel
theorem d_X12_cell_73 : decode (mB M_X12_cell) 73 = .ok (.aload_n 0, 1) := by decide +kernel
theorem d_X12_cell_74 : decode (mB M_X12_cell) 74 = .ok (.iload_n 3, 1) := by decide +kernel
theorem d_X12_cell_75 : decode (mB M_X12_cell) 75 = .ok (.invokevirtual 121, 3) := by decide +kernel
theorem d_X12_cell_78 : decode (mB M_X12_cell) 78 = .ok (.ifCond .ne 6, 3) := by decide +kernel
theorem d_X12_cell_81 : decode (mB M_X12_cell) 81 = .ok (.bipush 35, 2) := by decide +kernel
theorem d_X12_cell_83 : decode (mB M_X12_cell) 83 = .ok (.ireturn, 1) := by decide +kernel
theorem d_X12_cell_84 : decode (mB M_X12_cell) 84 = .ok (.aload_n 0, 1) := by decide +kernel
theorem d_X12_cell_85 : decode (mB M_X12_cell) 85 = .ok (.iload_n 3, 1) := by decide +kernel
theorem d_X12_cell_86 : decode (mB M_X12_cell) 86 = .ok (.invokevirtual 124, 3) := by decide +kernel
theorem d_X12_cell_89 : decode (mB M_X12_cell) 89 = .ok (.ifCond .eq 19, 3) := by decide +kernel
theorem d_X12_cell_92 : decode (mB M_X12_cell) 92 = .ok (.aload_n 0, 1) := by decide +kernel
theorem d_X12_cell_93 : decode (mB M_X12_cell) 93 = .ok (.iload_n 3, 1) := by decide +kernel
theorem d_X12_cell_94 : decode (mB M_X12_cell) 94 = .ok (.invokevirtual 127, 3) := by decide +kernel
theorem d_X12_cell_97 : decode (mB M_X12_cell) 97 = .ok (.ifCond .eq 8, 3) := by decide +kernel
theorem d_X12_cell_100 : decode (mB M_X12_cell) 100 = .ok (.bipush 42, 2) := by decide +kernel
theorem d_X12_cell_102 : decode (mB M_X12_cell) 102 = .ok (.goto 5, 3) := by decide +kernel
theorem d_X12_cell_105 : decode (mB M_X12_cell) 105 = .ok (.bipush 36, 2) := by decide +kernel
theorem d_X12_cell_107 : decode (mB M_X12_cell) 107 = .ok (.ireturn, 1) := by decide +kernel
theorem d_X12_cell_108 : decode (mB M_X12_cell) 108 = .ok (.iload_n 3, 1) := by decide +kernel
theorem d_X12_cell_109 : decode (mB M_X12_cell) 109 = .ok (.aload_n 0, 1) := by decide +kernel
theorem d_X12_cell_110 : decode (mB M_X12_cell) 110 = .ok (.getfield 7, 3) := by decide +kernel
theorem d_X12_cell_113 : decode (mB M_X12_cell) 113 = .ok (.iconst 3, 1) := by decide +kernel
theorem d_X12_cell_114 : decode (mB M_X12_cell) 114 = .ok (.iaload, 1) := by decide +kernel
theorem d_X12_cell_115 : decode (mB M_X12_cell) 115 = .ok (.if_icmp .ne 19, 3) := by decide +kernel
theorem d_X12_cell_118 : decode (mB M_X12_cell) 118 = .ok (.aload_n 0, 1) := by decide +kernel
theorem d_X12_cell_119 : decode (mB M_X12_cell) 119 = .ok (.iload_n 3, 1) := by decide +kernel
theorem d_X12_cell_120 : decode (mB M_X12_cell) 120 = .ok (.invokevirtual 127, 3) := by decide +kernel
theorem d_X12_cell_123 : decode (mB M_X12_cell) 123 = .ok (.ifCond .eq 8, 3) := by decide +kernel
theorem d_X12_cell_126 : decode (mB M_X12_cell) 126 = .ok (.bipush 43, 2) := by decide +kernel
theorem d_X12_cell_128 : decode (mB M_X12_cell) 128 = .ok (.goto 5, 3) := by decide +kernel
theorem d_X12_cell_131 : decode (mB M_X12_cell) 131 = .ok (.bipush 64, 2) := by decide +kernel
theorem d_X12_cell_133 : decode (mB M_X12_cell) 133 = .ok (.ireturn, 1) := by decide +kernel
theorem d_X12_cell_134 : decode (mB M_X12_cell) 134 = .ok (.aload_n 0, 1) := by decide +kernel
theorem d_X12_cell_135 : decode (mB M_X12_cell) 135 = .ok (.iload_n 3, 1) := by decide +kernel
theorem d_X12_cell_136 : decode (mB M_X12_cell) 136 = .ok (.invokevirtual 127, 3) := by decide +kernel
theorem d_X12_cell_139 : decode (mB M_X12_cell) 139 = .ok (.ifCond .eq 8, 3) := by decide +kernel
theorem d_X12_cell_142 : decode (mB M_X12_cell) 142 = .ok (.bipush 46, 2) := by decide +kernel
theorem d_X12_cell_144 : decode (mB M_X12_cell) 144 = .ok (.goto 5, 3) := by decide +kernel
theorem d_X12_cell_147 : decode (mB M_X12_cell) 147 = .ok (.bipush 45, 2) := by decide +kernel
theorem d_X12_cell_149 : decode (mB M_X12_cell) 149 = .ok (.ireturn, 1) := by decide +kernel
theorem c_m_cell {E : mEnv} (hE : E.1.stackTraces = false) (C : List mE) (t : xT) (a0 : Int32) (a1 : Int32) (r : Int32 × xT) (h : f_cell t a0 a1 = some r) : Rt E M_X12_cell 0 [.ref 0, .int a0, .int a1] (mw t, C) (some (.int r.1)) (mw r.2, C) := by
  unfold f_cell at h
  refine Rt.of hE rfl pn_X12 (Nat.le_of_ble_eq_true rfl) ?_
  refine g_eq (S' := (0, [some (.ref 0), some (.int a0), some (.int a1), none], [], (mw t, C))) rfl ?_
  refine g_aload_n d_X12_cell_0 rfl ?_
  refine g_aload_n d_X12_cell_1 rfl ?_
  obtain ⟨r_2, h_2, h⟩ := obind h
  refine g_callV (As := []) d_X12_cell_2 o_X12_hasRoom l_X12_83 ⟨Nat.le_of_ble_eq_true rfl, Nat.le_of_ble_eq_true rfl⟩ (c_m_hasRoom hE C t _ h_2) (gm0 t C) rfl rfl rfl rfl rfl ?_ (Nat.zero_add _)
  obtain ⟨r_5, h_5, hh_5⟩ := obind h
  refine Go.trans0 (S1 := (49, [some (.ref 0), some (.int a0), some (.int a1), none], [.int r_5, .ref 0], (mw t, C))) ?_ ?_
  · replace h := h_5
    clear hh_5
    refine g_if_eq (tgt := 48) d_X12_cell_5 (by decide) (fun c_5 => ?_) (fun c_5 => ?_)
    · replace h := opos c_5 h
      refine g_iconst (v := 1) d_X12_cell_48 (by decide) ?_
      obtain rfl := osome h
      exact g_end rfl
    · replace h := oneg c_5 h
      refine g_iload_n d_X12_cell_8 rfl ?_
      refine g_iconst (v := 0) d_X12_cell_9 (by decide) ?_
      refine g_aload_n d_X12_cell_10 rfl ?_
      refine g_getf d_X12_cell_11 f_X12_7 (gm0 t C) rfl ?_
      refine g_iconst (v := 1) d_X12_cell_14 (by decide) ?_
      refine g_iald d_X12_cell_15 (gm_1 t C) (inB_in (by decide)) ?_
      refine g_iconst (v := 1) d_X12_cell_16 (by decide) ?_
      refine g_isub d_X12_cell_17 ?_
      obtain ⟨r_18, h_18, h⟩ := obind h
      refine g_callS (As := [.int a0, .int 0, .int (((ra t 1) (Int32.toNatClampNeg 1)) - 1)]) d_X12_cell_18 o_X12_in l_X12_76 ⟨Nat.le_of_ble_eq_true rfl, Nat.le_of_ble_eq_true rfl⟩ (c_m_in hE C t a0 0 (((ra t 1) (Int32.toNatClampNeg 1)) - 1) _ h_18) rfl rfl ?_ (Nat.zero_add _)
      refine g_if_eq (tgt := 44) d_X12_cell_21 (by decide) (fun c_21 => ?_) (fun c_21 => ?_)
      · replace h := opos c_21 h
        refine g_iconst (v := 2) d_X12_cell_44 (by decide) ?_
        refine g_goto (tgt := 49) d_X12_cell_45 (by decide) ?_
        obtain rfl := osome h
        exact g_end rfl
      · replace h := oneg c_21 h
        refine g_iload_n d_X12_cell_24 rfl ?_
        refine g_iconst (v := 0) d_X12_cell_25 (by decide) ?_
        refine g_aload_n d_X12_cell_26 rfl ?_
        refine g_getf d_X12_cell_27 f_X12_7 (gm0 t C) rfl ?_
        refine g_iconst (v := 2) d_X12_cell_30 (by decide) ?_
        refine g_iald d_X12_cell_31 (gm_1 t C) (inB_in (by decide)) ?_
        refine g_iconst (v := 1) d_X12_cell_32 (by decide) ?_
        refine g_isub d_X12_cell_33 ?_
        obtain ⟨r_34, h_34, h⟩ := obind h
        refine g_callS (As := [.int a1, .int 0, .int (((ra t 1) (Int32.toNatClampNeg 2)) - 1)]) d_X12_cell_34 o_X12_in l_X12_76 ⟨Nat.le_of_ble_eq_true rfl, Nat.le_of_ble_eq_true rfl⟩ (c_m_in hE C t a1 0 (((ra t 1) (Int32.toNatClampNeg 2)) - 1) _ h_34) rfl rfl ?_ (Nat.zero_add _)
        refine g_if_eq (tgt := 44) d_X12_cell_37 (by decide) (fun c_37 => ?_) (fun c_37 => ?_)
        · replace h := opos c_37 h
          refine g_iconst (v := 2) d_X12_cell_44 (by decide) ?_
          refine g_goto (tgt := 49) d_X12_cell_45 (by decide) ?_
          obtain rfl := osome h
          exact g_end rfl
        · replace h := oneg c_37 h
          refine g_iconst (v := 0) d_X12_cell_40 (by decide) ?_
          refine g_goto (tgt := 49) d_X12_cell_41 (by decide) ?_
          obtain rfl := osome h
          exact g_end rfl
  replace h := hh_5
  obtain ⟨t_49, e_49, h⟩ := olet h
  refine g_putI (w' := (mw t_49, C)) d_X12_cell_49 p_X12_73 rfl rfl (gm0 t C) (Nat.le_of_ble_eq_true rfl) (by rw [e_49]; exact sc_9 t C _) ?_
  refine g_aload_n d_X12_cell_52 rfl ?_
  refine g_getf d_X12_cell_53 f_X12_73 (gm0 t_49 C) rfl ?_
  refine g_if_le (tgt := 62) d_X12_cell_56 (by decide) (fun c_56 => ?_) (fun c_56 => ?_)
  · replace h := opos c_56 h
    refine g_iload_n d_X12_cell_62 rfl ?_
    refine g_aload_n d_X12_cell_63 rfl ?_
    refine g_getf d_X12_cell_64 f_X12_7 (gm0 t_49 C) rfl ?_
    refine g_iconst (v := 2) d_X12_cell_67 (by decide) ?_
    refine g_iald d_X12_cell_68 (gm_1 t_49 C) (inB_in (by decide)) ?_
    refine g_imul d_X12_cell_69 ?_
    refine g_iload_n d_X12_cell_70 rfl ?_
    refine g_iadd d_X12_cell_71 ?_
    refine g_istore_n (L' := [some (.ref 0), some (.int a0), some (.int a1), some (.int ((a0 * ((ra t_49 1) (Int32.toNatClampNeg 2))) + a1))]) d_X12_cell_72 rfl rfl ?_
    refine g_aload_n d_X12_cell_73 rfl ?_
    refine g_iload_n d_X12_cell_74 rfl ?_
    obtain ⟨r_75, h_75, h⟩ := obind h
    refine g_callV (As := [.int ((a0 * ((ra t_49 1) (Int32.toNatClampNeg 2))) + a1)]) d_X12_cell_75 o_X12_isOpen l_X12_121 ⟨Nat.le_of_ble_eq_true rfl, Nat.le_of_ble_eq_true rfl⟩ (c_m_isOpen hE C t_49 ((a0 * ((ra t_49 1) (Int32.toNatClampNeg 2))) + a1) _ h_75) (gm0 t_49 C) rfl rfl rfl rfl rfl ?_ (Nat.zero_add _)
    refine g_if_ne (tgt := 84) d_X12_cell_78 (by decide) (fun c_78 => ?_) (fun c_78 => ?_)
    · replace h := oneg c_78 h
      refine g_aload_n d_X12_cell_84 rfl ?_
      refine g_iload_n d_X12_cell_85 rfl ?_
      obtain ⟨r_86, h_86, h⟩ := obind h
      refine g_callV (As := [.int ((a0 * ((ra t_49 1) (Int32.toNatClampNeg 2))) + a1)]) d_X12_cell_86 o_X12_isBox l_X12_124 ⟨Nat.le_of_ble_eq_true rfl, Nat.le_of_ble_eq_true rfl⟩ (c_m_isBox hE C t_49 ((a0 * ((ra t_49 1) (Int32.toNatClampNeg 2))) + a1) _ h_86) (gm0 t_49 C) rfl rfl rfl rfl rfl ?_ (Nat.zero_add _)
      refine g_if_eq (tgt := 108) d_X12_cell_89 (by decide) (fun c_89 => ?_) (fun c_89 => ?_)
      · replace h := opos c_89 h
        refine g_iload_n d_X12_cell_108 rfl ?_
        refine g_aload_n d_X12_cell_109 rfl ?_
        refine g_getf d_X12_cell_110 f_X12_7 (gm0 t_49 C) rfl ?_
        refine g_iconst (v := 3) d_X12_cell_113 (by decide) ?_
        refine g_iald d_X12_cell_114 (gm_1 t_49 C) (inB_in (by decide)) ?_
        refine g_icmp_ne (tgt := 134) d_X12_cell_115 (by decide) (fun c_115 => ?_) (fun c_115 => ?_)
        · replace h := oneg c_115 h
          refine g_aload_n d_X12_cell_134 rfl ?_
          refine g_iload_n d_X12_cell_135 rfl ?_
          obtain ⟨r_136, h_136, h⟩ := obind h
          refine g_callV (As := [.int ((a0 * ((ra t_49 1) (Int32.toNatClampNeg 2))) + a1)]) d_X12_cell_136 o_X12_isGoal l_X12_127 ⟨Nat.le_of_ble_eq_true rfl, Nat.le_of_ble_eq_true rfl⟩ (c_m_isGoal hE C t_49 ((a0 * ((ra t_49 1) (Int32.toNatClampNeg 2))) + a1) _ h_136) (gm0 t_49 C) rfl rfl rfl rfl rfl ?_ (Nat.zero_add _)
          obtain ⟨r_139, h_139, hh_139⟩ := obind h
          refine Go.trans0 (S1 := (149, [none, none, none, none], [.int r_139], (mw t_49, C))) ?_ ?_
          · replace h := h_139
            clear hh_139
            refine g_if_eq (tgt := 147) d_X12_cell_139 (by decide) (fun c_139 => ?_) (fun c_139 => ?_)
            · replace h := opos c_139 h
              refine g_bipush (v := 45) d_X12_cell_147 (by decide) ?_
              obtain rfl := osome h
              exact g_drop [0, 1, 2, 3] rfl (g_end rfl)
            · replace h := oneg c_139 h
              refine g_bipush (v := 46) d_X12_cell_142 (by decide) ?_
              refine g_goto (tgt := 149) d_X12_cell_144 (by decide) ?_
              obtain rfl := osome h
              exact g_drop [0, 1, 2, 3] rfl (g_end rfl)
          replace h := hh_139
          obtain ⟨i_149, h⟩ := ochk h
          obtain rfl := osome h
          exact g_retC d_X12_cell_149 rfl (nar_char i_149) rfl rfl
        · replace h := opos c_115 h
          refine g_aload_n d_X12_cell_118 rfl ?_
          refine g_iload_n d_X12_cell_119 rfl ?_
          obtain ⟨r_120, h_120, h⟩ := obind h
          refine g_callV (As := [.int ((a0 * ((ra t_49 1) (Int32.toNatClampNeg 2))) + a1)]) d_X12_cell_120 o_X12_isGoal l_X12_127 ⟨Nat.le_of_ble_eq_true rfl, Nat.le_of_ble_eq_true rfl⟩ (c_m_isGoal hE C t_49 ((a0 * ((ra t_49 1) (Int32.toNatClampNeg 2))) + a1) _ h_120) (gm0 t_49 C) rfl rfl rfl rfl rfl ?_ (Nat.zero_add _)
          obtain ⟨r_123, h_123, hh_123⟩ := obind h
          refine Go.trans0 (S1 := (133, [none, none, none, none], [.int r_123], (mw t_49, C))) ?_ ?_
          · replace h := h_123
            clear hh_123
            refine g_if_eq (tgt := 131) d_X12_cell_123 (by decide) (fun c_123 => ?_) (fun c_123 => ?_)
            · replace h := opos c_123 h
              refine g_bipush (v := 64) d_X12_cell_131 (by decide) ?_
              obtain rfl := osome h
              exact g_drop [0, 1, 2, 3] rfl (g_end rfl)
            · replace h := oneg c_123 h
              refine g_bipush (v := 43) d_X12_cell_126 (by decide) ?_
              refine g_goto (tgt := 133) d_X12_cell_128 (by decide) ?_
              obtain rfl := osome h
              exact g_drop [0, 1, 2, 3] rfl (g_end rfl)
          replace h := hh_123
          obtain ⟨i_133, h⟩ := ochk h
          obtain rfl := osome h
          exact g_retC d_X12_cell_133 rfl (nar_char i_133) rfl rfl
      · replace h := oneg c_89 h
        refine g_aload_n d_X12_cell_92 rfl ?_
        refine g_iload_n d_X12_cell_93 rfl ?_
        obtain ⟨r_94, h_94, h⟩ := obind h
        refine g_callV (As := [.int ((a0 * ((ra t_49 1) (Int32.toNatClampNeg 2))) + a1)]) d_X12_cell_94 o_X12_isGoal l_X12_127 ⟨Nat.le_of_ble_eq_true rfl, Nat.le_of_ble_eq_true rfl⟩ (c_m_isGoal hE C t_49 ((a0 * ((ra t_49 1) (Int32.toNatClampNeg 2))) + a1) _ h_94) (gm0 t_49 C) rfl rfl rfl rfl rfl ?_ (Nat.zero_add _)
        obtain ⟨r_97, h_97, hh_97⟩ := obind h
        refine Go.trans0 (S1 := (107, [none, none, none, none], [.int r_97], (mw t_49, C))) ?_ ?_
        · replace h := h_97
          clear hh_97
          refine g_if_eq (tgt := 105) d_X12_cell_97 (by decide) (fun c_97 => ?_) (fun c_97 => ?_)
          · replace h := opos c_97 h
            refine g_bipush (v := 36) d_X12_cell_105 (by decide) ?_
            obtain rfl := osome h
            exact g_drop [0, 1, 2, 3] rfl (g_end rfl)
          · replace h := oneg c_97 h
            refine g_bipush (v := 42) d_X12_cell_100 (by decide) ?_
            refine g_goto (tgt := 107) d_X12_cell_102 (by decide) ?_
            obtain rfl := osome h
            exact g_drop [0, 1, 2, 3] rfl (g_end rfl)
        replace h := hh_97
        obtain ⟨i_107, h⟩ := ochk h
        obtain rfl := osome h
        exact g_retC d_X12_cell_107 rfl (nar_char i_107) rfl rfl
    · replace h := opos c_78 h
      refine g_bipush (v := 35) d_X12_cell_81 (by decide) ?_
      obtain rfl := osome h
      exact g_retC d_X12_cell_83 rfl (nar_char (by decide)) rfl rfl
  · replace h := oneg c_56 h
    refine g_bipush (v := 97) d_X12_cell_59 (by decide) ?_
    obtain rfl := osome h
    exact g_retC d_X12_cell_61 rfl (nar_char (by decide)) rfl rfl
def f_size (t : xT)  : Int32 := (((ra t 1) (Int32.toNatClampNeg 1)) * ((ra t 1) (Int32.toNatClampNeg 2)))
theorem d_X12_size_0 : decode (mB M_X12_size) 0 = .ok (.aload_n 0, 1) := by decide +kernel
theorem d_X12_size_1 : decode (mB M_X12_size) 1 = .ok (.getfield 7, 3) := by decide +kernel
theorem d_X12_size_4 : decode (mB M_X12_size) 4 = .ok (.iconst 1, 1) := by decide +kernel
theorem d_X12_size_5 : decode (mB M_X12_size) 5 = .ok (.iaload, 1) := by decide +kernel
theorem d_X12_size_6 : decode (mB M_X12_size) 6 = .ok (.aload_n 0, 1) := by decide +kernel
theorem d_X12_size_7 : decode (mB M_X12_size) 7 = .ok (.getfield 7, 3) := by decide +kernel
theorem d_X12_size_10 : decode (mB M_X12_size) 10 = .ok (.iconst 2, 1) := by decide +kernel
theorem d_X12_size_11 : decode (mB M_X12_size) 11 = .ok (.iaload, 1) := by decide +kernel
theorem d_X12_size_12 : decode (mB M_X12_size) 12 = .ok (.imul, 1) := by decide +kernel
theorem d_X12_size_13 : decode (mB M_X12_size) 13 = .ok (.ireturn, 1) := by decide +kernel
theorem c_m_size {E : mEnv} (hE : E.1.stackTraces = false) (C : List mE) (t : xT)  : Rt E M_X12_size 0 [.ref 0] (mw t, C) (some (.int (f_size t))) (mw t, C) := by
  generalize h : f_size t = r
  unfold f_size at h
  refine Rt.of hE rfl pn_X12 (Nat.le_of_ble_eq_true rfl) ?_
  refine g_eq (S' := (0, [some (.ref 0)], [], (mw t, C))) rfl ?_
  refine g_aload_n d_X12_size_0 rfl ?_
  refine g_getf d_X12_size_1 f_X12_7 (gm0 t C) rfl ?_
  refine g_iconst (v := 1) d_X12_size_4 (by decide) ?_
  refine g_iald d_X12_size_5 (gm_1 t C) (inB_in (by decide)) ?_
  refine g_aload_n d_X12_size_6 rfl ?_
  refine g_getf d_X12_size_7 f_X12_7 (gm0 t C) rfl ?_
  refine g_iconst (v := 2) d_X12_size_10 (by decide) ?_
  refine g_iald d_X12_size_11 (gm_1 t C) (inB_in (by decide)) ?_
  refine g_imul d_X12_size_12 ?_
  rw [← h]
  exact g_retI d_X12_size_13 rfl rfl rfl
def f_opposite (a0 : Int32) : Option (Int32) :=
  Option.bind (if 2 ≤ a0 then (some (a0 - 2))
    else (some (a0 + 2))) fun (r_2 : Int32) =>
  some r_2
theorem d_X12_opposite_0 : decode (mB M_X12_opposite) 0 = .ok (.iload_n 0, 1) := by decide +kernel
theorem d_X12_opposite_1 : decode (mB M_X12_opposite) 1 = .ok (.iconst 2, 1) := by decide +kernel
theorem d_X12_opposite_2 : decode (mB M_X12_opposite) 2 = .ok (.if_icmp .ge 9, 3) := by decide +kernel
theorem d_X12_opposite_5 : decode (mB M_X12_opposite) 5 = .ok (.iload_n 0, 1) := by decide +kernel
theorem d_X12_opposite_6 : decode (mB M_X12_opposite) 6 = .ok (.iconst 2, 1) := by decide +kernel
theorem d_X12_opposite_7 : decode (mB M_X12_opposite) 7 = .ok (.iadd, 1) := by decide +kernel
theorem d_X12_opposite_8 : decode (mB M_X12_opposite) 8 = .ok (.goto 6, 3) := by decide +kernel
theorem d_X12_opposite_11 : decode (mB M_X12_opposite) 11 = .ok (.iload_n 0, 1) := by decide +kernel
theorem d_X12_opposite_12 : decode (mB M_X12_opposite) 12 = .ok (.iconst 2, 1) := by decide +kernel
theorem d_X12_opposite_13 : decode (mB M_X12_opposite) 13 = .ok (.isub, 1) := by decide +kernel
theorem d_X12_opposite_14 : decode (mB M_X12_opposite) 14 = .ok (.ireturn, 1) := by decide +kernel
theorem c_m_opposite {E : mEnv} (hE : E.1.stackTraces = false) (C : List mE) (t : xT) (a0 : Int32) (r : Int32) (h : f_opposite a0 = some r) : Rt E M_X12_opposite 0 [.int a0] (mw t, C) (some (.int r)) (mw t, C) := by
  unfold f_opposite at h
  refine Rt.of hE rfl pn_X12 (Nat.le_of_ble_eq_true rfl) ?_
  refine g_eq (S' := (0, [some (.int a0)], [], (mw t, C))) rfl ?_
  refine g_iload_n d_X12_opposite_0 rfl ?_
  refine g_iconst (v := 2) d_X12_opposite_1 (by decide) ?_
  obtain ⟨r_2, h_2, hh_2⟩ := obind h
  refine Go.trans0 (S1 := (14, [none], [.int r_2], (mw t, C))) ?_ ?_
  · replace h := h_2
    clear hh_2
    refine g_icmp_ge (tgt := 11) d_X12_opposite_2 (by decide) (fun c_2 => ?_) (fun c_2 => ?_)
    · replace h := opos c_2 h
      refine g_iload_n d_X12_opposite_11 rfl ?_
      refine g_iconst (v := 2) d_X12_opposite_12 (by decide) ?_
      refine g_isub d_X12_opposite_13 ?_
      obtain rfl := osome h
      exact g_drop [0] rfl (g_end rfl)
    · replace h := oneg c_2 h
      refine g_iload_n d_X12_opposite_5 rfl ?_
      refine g_iconst (v := 2) d_X12_opposite_6 (by decide) ?_
      refine g_iadd d_X12_opposite_7 ?_
      refine g_goto (tgt := 14) d_X12_opposite_8 (by decide) ?_
      obtain rfl := osome h
      exact g_drop [0] rfl (g_end rfl)
  replace h := hh_2
  obtain rfl := osome h
  exact g_retI d_X12_opposite_14 rfl rfl rfl
def f_beside (t : xT) (a0 : Int32) (a1 : Int32) : Option (Int32) :=
  if ¬ ((ra t 1) (Int32.toNatClampNeg 2)) = 0 then (Option.bind (if a1 = 0 then (some ((-1) : Int32))
    else (if a1 = 2 then (some (1 : Int32))
      else (some (0 : Int32)))) fun (r_9 : Int32) =>
  if ¬ ((ra t 1) (Int32.toNatClampNeg 2)) = 0 then (Option.bind (if a1 = 1 then (some (1 : Int32))
    else (if a1 = 3 then (some ((-1) : Int32))
      else (some (0 : Int32)))) fun (r_38 : Int32) =>
  Option.bind (f_in ((a0 / ((ra t 1) (Int32.toNatClampNeg 2))) + r_9) 0 (((ra t 1) (Int32.toNatClampNeg 1)) - 1)) fun r_68 =>
  Option.bind (if r_68 = 0 then (some ((-1) : Int32))
    else (Option.bind (f_in ((a0 - a0 / ((ra t 1) (Int32.toNatClampNeg 2)) * ((ra t 1) (Int32.toNatClampNeg 2))) + r_38) 0 (((ra t 1) (Int32.toNatClampNeg 2)) - 1)) fun r_85 =>
      if r_85 = 0 then (some ((-1) : Int32))
      else (some ((((a0 / ((ra t 1) (Int32.toNatClampNeg 2))) + r_9) * ((ra t 1) (Int32.toNatClampNeg 2))) + ((a0 - a0 / ((ra t 1) (Int32.toNatClampNeg 2)) * ((ra t 1) (Int32.toNatClampNeg 2))) + r_38))))) fun (r_71 : Int32) =>
  some r_71) else none) else none
theorem d_X12_beside_0 : decode (mB M_X12_beside) 0 = .ok (.iload_n 1, 1) := by decide +kernel
theorem d_X12_beside_1 : decode (mB M_X12_beside) 1 = .ok (.aload_n 0, 1) := by decide +kernel
theorem d_X12_beside_2 : decode (mB M_X12_beside) 2 = .ok (.getfield 7, 3) := by decide +kernel
theorem d_X12_beside_5 : decode (mB M_X12_beside) 5 = .ok (.iconst 2, 1) := by decide +kernel
theorem d_X12_beside_6 : decode (mB M_X12_beside) 6 = .ok (.iaload, 1) := by decide +kernel
theorem d_X12_beside_7 : decode (mB M_X12_beside) 7 = .ok (.idiv, 1) := by decide +kernel
theorem d_X12_beside_8 : decode (mB M_X12_beside) 8 = .ok (.iload_n 2, 1) := by decide +kernel
theorem d_X12_beside_9 : decode (mB M_X12_beside) 9 = .ok (.ifCond .ne 7, 3) := by decide +kernel
theorem d_X12_beside_12 : decode (mB M_X12_beside) 12 = .ok (.iconst (-1), 1) := by decide +kernel
theorem d_X12_beside_13 : decode (mB M_X12_beside) 13 = .ok (.goto 13, 3) := by decide +kernel
theorem d_X12_beside_16 : decode (mB M_X12_beside) 16 = .ok (.iload_n 2, 1) := by decide +kernel
theorem d_X12_beside_17 : decode (mB M_X12_beside) 17 = .ok (.iconst 2, 1) := by decide +kernel
theorem d_X12_beside_18 : decode (mB M_X12_beside) 18 = .ok (.if_icmp .ne 7, 3) := by decide +kernel
theorem d_X12_beside_21 : decode (mB M_X12_beside) 21 = .ok (.iconst 1, 1) := by decide +kernel
theorem d_X12_beside_22 : decode (mB M_X12_beside) 22 = .ok (.goto 4, 3) := by decide +kernel
theorem d_X12_beside_25 : decode (mB M_X12_beside) 25 = .ok (.iconst 0, 1) := by decide +kernel
theorem d_X12_beside_26 : decode (mB M_X12_beside) 26 = .ok (.iadd, 1) := by decide +kernel
theorem d_X12_beside_27 : decode (mB M_X12_beside) 27 = .ok (.istore_n 3, 1) := by decide +kernel
theorem d_X12_beside_28 : decode (mB M_X12_beside) 28 = .ok (.iload_n 1, 1) := by decide +kernel
theorem d_X12_beside_29 : decode (mB M_X12_beside) 29 = .ok (.aload_n 0, 1) := by decide +kernel
theorem d_X12_beside_30 : decode (mB M_X12_beside) 30 = .ok (.getfield 7, 3) := by decide +kernel
theorem d_X12_beside_33 : decode (mB M_X12_beside) 33 = .ok (.iconst 2, 1) := by decide +kernel
theorem d_X12_beside_34 : decode (mB M_X12_beside) 34 = .ok (.iaload, 1) := by decide +kernel
theorem d_X12_beside_35 : decode (mB M_X12_beside) 35 = .ok (.irem, 1) := by decide +kernel
theorem d_X12_beside_36 : decode (mB M_X12_beside) 36 = .ok (.iload_n 2, 1) := by decide +kernel
theorem d_X12_beside_37 : decode (mB M_X12_beside) 37 = .ok (.iconst 1, 1) := by decide +kernel
theorem d_X12_beside_38 : decode (mB M_X12_beside) 38 = .ok (.if_icmp .ne 7, 3) := by decide +kernel
theorem d_X12_beside_41 : decode (mB M_X12_beside) 41 = .ok (.iconst 1, 1) := by decide +kernel
theorem d_X12_beside_42 : decode (mB M_X12_beside) 42 = .ok (.goto 13, 3) := by decide +kernel
theorem d_X12_beside_45 : decode (mB M_X12_beside) 45 = .ok (.iload_n 2, 1) := by decide +kernel
theorem d_X12_beside_46 : decode (mB M_X12_beside) 46 = .ok (.iconst 3, 1) := by decide +kernel
theorem d_X12_beside_47 : decode (mB M_X12_beside) 47 = .ok (.if_icmp .ne 7, 3) := by decide +kernel
theorem d_X12_beside_50 : decode (mB M_X12_beside) 50 = .ok (.iconst (-1), 1) := by decide +kernel
theorem d_X12_beside_51 : decode (mB M_X12_beside) 51 = .ok (.goto 4, 3) := by decide +kernel
theorem d_X12_beside_54 : decode (mB M_X12_beside) 54 = .ok (.iconst 0, 1) := by decide +kernel
theorem d_X12_beside_55 : decode (mB M_X12_beside) 55 = .ok (.iadd, 1) := by decide +kernel
theorem d_X12_beside_56 : decode (mB M_X12_beside) 56 = .ok (.istore 4, 2) := by decide +kernel
theorem d_X12_beside_58 : decode (mB M_X12_beside) 58 = .ok (.iload_n 3, 1) := by decide +kernel
theorem d_X12_beside_59 : decode (mB M_X12_beside) 59 = .ok (.iconst 0, 1) := by decide +kernel
theorem d_X12_beside_60 : decode (mB M_X12_beside) 60 = .ok (.aload_n 0, 1) := by decide +kernel
theorem d_X12_beside_61 : decode (mB M_X12_beside) 61 = .ok (.getfield 7, 3) := by decide +kernel
theorem d_X12_beside_64 : decode (mB M_X12_beside) 64 = .ok (.iconst 1, 1) := by decide +kernel
theorem d_X12_beside_65 : decode (mB M_X12_beside) 65 = .ok (.iaload, 1) := by decide +kernel
theorem d_X12_beside_66 : decode (mB M_X12_beside) 66 = .ok (.iconst 1, 1) := by decide +kernel
theorem d_X12_beside_67 : decode (mB M_X12_beside) 67 = .ok (.isub, 1) := by decide +kernel
theorem d_X12_beside_68 : decode (mB M_X12_beside) 68 = .ok (.invokestatic 76, 3) := by decide +kernel
theorem d_X12_beside_71 : decode (mB M_X12_beside) 71 = .ok (.ifCond .eq 34, 3) := by decide +kernel
theorem d_X12_beside_74 : decode (mB M_X12_beside) 74 = .ok (.iload 4, 2) := by decide +kernel
theorem d_X12_beside_76 : decode (mB M_X12_beside) 76 = .ok (.iconst 0, 1) := by decide +kernel
theorem d_X12_beside_77 : decode (mB M_X12_beside) 77 = .ok (.aload_n 0, 1) := by decide +kernel
theorem d_X12_beside_78 : decode (mB M_X12_beside) 78 = .ok (.getfield 7, 3) := by decide +kernel
theorem d_X12_beside_81 : decode (mB M_X12_beside) 81 = .ok (.iconst 2, 1) := by decide +kernel
theorem d_X12_beside_82 : decode (mB M_X12_beside) 82 = .ok (.iaload, 1) := by decide +kernel
theorem d_X12_beside_83 : decode (mB M_X12_beside) 83 = .ok (.iconst 1, 1) := by decide +kernel
theorem d_X12_beside_84 : decode (mB M_X12_beside) 84 = .ok (.isub, 1) := by decide +kernel
theorem d_X12_beside_85 : decode (mB M_X12_beside) 85 = .ok (.invokestatic 76, 3) := by decide +kernel
theorem d_X12_beside_88 : decode (mB M_X12_beside) 88 = .ok (.ifCond .eq 17, 3) := by decide +kernel
theorem d_X12_beside_91 : decode (mB M_X12_beside) 91 = .ok (.iload_n 3, 1) := by decide +kernel
theorem d_X12_beside_92 : decode (mB M_X12_beside) 92 = .ok (.aload_n 0, 1) := by decide +kernel
theorem d_X12_beside_93 : decode (mB M_X12_beside) 93 = .ok (.getfield 7, 3) := by decide +kernel
theorem d_X12_beside_96 : decode (mB M_X12_beside) 96 = .ok (.iconst 2, 1) := by decide +kernel
theorem d_X12_beside_97 : decode (mB M_X12_beside) 97 = .ok (.iaload, 1) := by decide +kernel
theorem d_X12_beside_98 : decode (mB M_X12_beside) 98 = .ok (.imul, 1) := by decide +kernel
theorem d_X12_beside_99 : decode (mB M_X12_beside) 99 = .ok (.iload 4, 2) := by decide +kernel
theorem d_X12_beside_101 : decode (mB M_X12_beside) 101 = .ok (.iadd, 1) := by decide +kernel
theorem d_X12_beside_102 : decode (mB M_X12_beside) 102 = .ok (.goto 4, 3) := by decide +kernel
theorem d_X12_beside_105 : decode (mB M_X12_beside) 105 = .ok (.iconst (-1), 1) := by decide +kernel
theorem d_X12_beside_106 : decode (mB M_X12_beside) 106 = .ok (.ireturn, 1) := by decide +kernel
theorem c_m_beside {E : mEnv} (hE : E.1.stackTraces = false) (C : List mE) (t : xT) (a0 : Int32) (a1 : Int32) (r : Int32) (h : f_beside t a0 a1 = some r) : Rt E M_X12_beside 0 [.ref 0, .int a0, .int a1] (mw t, C) (some (.int r)) (mw t, C) := by
  unfold f_beside at h
  refine Rt.of hE rfl pn_X12 (Nat.le_of_ble_eq_true rfl) ?_
  refine g_eq (S' := (0, [some (.ref 0), some (.int a0), some (.int a1), none, none], [], (mw t, C))) rfl ?_
  refine g_iload_n d_X12_beside_0 rfl ?_
  refine g_aload_n d_X12_beside_1 rfl ?_
  refine g_getf d_X12_beside_2 f_X12_7 (gm0 t C) rfl ?_
  refine g_iconst (v := 2) d_X12_beside_5 (by decide) ?_
  refine g_iald d_X12_beside_6 (gm_1 t C) (inB_in (by decide)) ?_
  obtain ⟨i_7, h⟩ := ochk h
  refine g_idiv d_X12_beside_7 i_7 ?_
  refine g_iload_n d_X12_beside_8 rfl ?_
  obtain ⟨r_9, h_9, hh_9⟩ := obind h
  refine Go.trans0 (S1 := (26, [some (.ref 0), some (.int a0), some (.int a1), none, none], [.int r_9, .int (a0 / ((ra t 1) (Int32.toNatClampNeg 2)))], (mw t, C))) ?_ ?_
  · replace h := h_9
    clear hh_9
    refine g_if_ne (tgt := 16) d_X12_beside_9 (by decide) (fun c_9 => ?_) (fun c_9 => ?_)
    · replace h := oneg c_9 h
      refine g_iload_n d_X12_beside_16 rfl ?_
      refine g_iconst (v := 2) d_X12_beside_17 (by decide) ?_
      refine g_icmp_ne (tgt := 25) d_X12_beside_18 (by decide) (fun c_18 => ?_) (fun c_18 => ?_)
      · replace h := oneg c_18 h
        refine g_iconst (v := 0) d_X12_beside_25 (by decide) ?_
        obtain rfl := osome h
        exact g_end rfl
      · replace h := opos c_18 h
        refine g_iconst (v := 1) d_X12_beside_21 (by decide) ?_
        refine g_goto (tgt := 26) d_X12_beside_22 (by decide) ?_
        obtain rfl := osome h
        exact g_end rfl
    · replace h := opos c_9 h
      refine g_iconst (v := (-1)) d_X12_beside_12 (by decide) ?_
      refine g_goto (tgt := 26) d_X12_beside_13 (by decide) ?_
      obtain rfl := osome h
      exact g_end rfl
  replace h := hh_9
  refine g_iadd d_X12_beside_26 ?_
  refine g_istore_n (L' := [some (.ref 0), some (.int a0), some (.int a1), some (.int ((a0 / ((ra t 1) (Int32.toNatClampNeg 2))) + r_9)), none]) d_X12_beside_27 rfl rfl ?_
  refine g_iload_n d_X12_beside_28 rfl ?_
  refine g_aload_n d_X12_beside_29 rfl ?_
  refine g_getf d_X12_beside_30 f_X12_7 (gm0 t C) rfl ?_
  refine g_iconst (v := 2) d_X12_beside_33 (by decide) ?_
  refine g_iald d_X12_beside_34 (gm_1 t C) (inB_in (by decide)) ?_
  obtain ⟨i_35, h⟩ := ochk h
  refine g_irem d_X12_beside_35 i_35 ?_
  refine g_iload_n d_X12_beside_36 rfl ?_
  refine g_iconst (v := 1) d_X12_beside_37 (by decide) ?_
  obtain ⟨r_38, h_38, hh_38⟩ := obind h
  refine Go.trans0 (S1 := (55, [some (.ref 0), none, none, some (.int ((a0 / ((ra t 1) (Int32.toNatClampNeg 2))) + r_9)), none], [.int r_38, .int (a0 - a0 / ((ra t 1) (Int32.toNatClampNeg 2)) * ((ra t 1) (Int32.toNatClampNeg 2)))], (mw t, C))) ?_ ?_
  · replace h := h_38
    clear hh_38
    refine g_icmp_ne (tgt := 45) d_X12_beside_38 (by decide) (fun c_38 => ?_) (fun c_38 => ?_)
    · replace h := oneg c_38 h
      refine g_iload_n d_X12_beside_45 rfl ?_
      refine g_iconst (v := 3) d_X12_beside_46 (by decide) ?_
      refine g_icmp_ne (tgt := 54) d_X12_beside_47 (by decide) (fun c_47 => ?_) (fun c_47 => ?_)
      · replace h := oneg c_47 h
        refine g_iconst (v := 0) d_X12_beside_54 (by decide) ?_
        obtain rfl := osome h
        exact g_drop [1, 2] rfl (g_end rfl)
      · replace h := opos c_47 h
        refine g_iconst (v := (-1)) d_X12_beside_50 (by decide) ?_
        refine g_goto (tgt := 55) d_X12_beside_51 (by decide) ?_
        obtain rfl := osome h
        exact g_drop [1, 2] rfl (g_end rfl)
    · replace h := opos c_38 h
      refine g_iconst (v := 1) d_X12_beside_41 (by decide) ?_
      refine g_goto (tgt := 55) d_X12_beside_42 (by decide) ?_
      obtain rfl := osome h
      exact g_drop [1, 2] rfl (g_end rfl)
  replace h := hh_38
  refine g_iadd d_X12_beside_55 ?_
  refine g_istore (L' := [some (.ref 0), none, none, some (.int ((a0 / ((ra t 1) (Int32.toNatClampNeg 2))) + r_9)), some (.int ((a0 - a0 / ((ra t 1) (Int32.toNatClampNeg 2)) * ((ra t 1) (Int32.toNatClampNeg 2))) + r_38))]) d_X12_beside_56 rfl rfl ?_
  refine g_iload_n d_X12_beside_58 rfl ?_
  refine g_iconst (v := 0) d_X12_beside_59 (by decide) ?_
  refine g_aload_n d_X12_beside_60 rfl ?_
  refine g_getf d_X12_beside_61 f_X12_7 (gm0 t C) rfl ?_
  refine g_iconst (v := 1) d_X12_beside_64 (by decide) ?_
  refine g_iald d_X12_beside_65 (gm_1 t C) (inB_in (by decide)) ?_
  refine g_iconst (v := 1) d_X12_beside_66 (by decide) ?_
  refine g_isub d_X12_beside_67 ?_
  obtain ⟨r_68, h_68, h⟩ := obind h
  refine g_callS (As := [.int ((a0 / ((ra t 1) (Int32.toNatClampNeg 2))) + r_9), .int 0, .int (((ra t 1) (Int32.toNatClampNeg 1)) - 1)]) d_X12_beside_68 o_X12_in l_X12_76 ⟨Nat.le_of_ble_eq_true rfl, Nat.le_of_ble_eq_true rfl⟩ (c_m_in hE C t ((a0 / ((ra t 1) (Int32.toNatClampNeg 2))) + r_9) 0 (((ra t 1) (Int32.toNatClampNeg 1)) - 1) _ h_68) rfl rfl ?_ (Nat.zero_add _)
  obtain ⟨r_71, h_71, hh_71⟩ := obind h
  refine Go.trans0 (S1 := (106, [none, none, none, none, none], [.int r_71], (mw t, C))) ?_ ?_
  · replace h := h_71
    clear hh_71
    refine g_if_eq (tgt := 105) d_X12_beside_71 (by decide) (fun c_71 => ?_) (fun c_71 => ?_)
    · replace h := opos c_71 h
      refine g_iconst (v := (-1)) d_X12_beside_105 (by decide) ?_
      obtain rfl := osome h
      exact g_drop [0, 3, 4] rfl (g_end rfl)
    · replace h := oneg c_71 h
      refine g_iload d_X12_beside_74 rfl ?_
      refine g_iconst (v := 0) d_X12_beside_76 (by decide) ?_
      refine g_aload_n d_X12_beside_77 rfl ?_
      refine g_getf d_X12_beside_78 f_X12_7 (gm0 t C) rfl ?_
      refine g_iconst (v := 2) d_X12_beside_81 (by decide) ?_
      refine g_iald d_X12_beside_82 (gm_1 t C) (inB_in (by decide)) ?_
      refine g_iconst (v := 1) d_X12_beside_83 (by decide) ?_
      refine g_isub d_X12_beside_84 ?_
      obtain ⟨r_85, h_85, h⟩ := obind h
      refine g_callS (As := [.int ((a0 - a0 / ((ra t 1) (Int32.toNatClampNeg 2)) * ((ra t 1) (Int32.toNatClampNeg 2))) + r_38), .int 0, .int (((ra t 1) (Int32.toNatClampNeg 2)) - 1)]) d_X12_beside_85 o_X12_in l_X12_76 ⟨Nat.le_of_ble_eq_true rfl, Nat.le_of_ble_eq_true rfl⟩ (c_m_in hE C t ((a0 - a0 / ((ra t 1) (Int32.toNatClampNeg 2)) * ((ra t 1) (Int32.toNatClampNeg 2))) + r_38) 0 (((ra t 1) (Int32.toNatClampNeg 2)) - 1) _ h_85) rfl rfl ?_ (Nat.zero_add _)
      refine g_if_eq (tgt := 105) d_X12_beside_88 (by decide) (fun c_88 => ?_) (fun c_88 => ?_)
      · replace h := opos c_88 h
        refine g_iconst (v := (-1)) d_X12_beside_105 (by decide) ?_
        obtain rfl := osome h
        exact g_drop [0, 3, 4] rfl (g_end rfl)
      · replace h := oneg c_88 h
        refine g_iload_n d_X12_beside_91 rfl ?_
        refine g_aload_n d_X12_beside_92 rfl ?_
        refine g_getf d_X12_beside_93 f_X12_7 (gm0 t C) rfl ?_
        refine g_iconst (v := 2) d_X12_beside_96 (by decide) ?_
        refine g_iald d_X12_beside_97 (gm_1 t C) (inB_in (by decide)) ?_
        refine g_imul d_X12_beside_98 ?_
        refine g_iload d_X12_beside_99 rfl ?_
        refine g_iadd d_X12_beside_101 ?_
        refine g_goto (tgt := 106) d_X12_beside_102 (by decide) ?_
        obtain rfl := osome h
        exact g_drop [0, 3, 4] rfl (g_end rfl)
  replace h := hh_71
  obtain rfl := osome h
  exact g_retI d_X12_beside_106 rfl rfl rfl
def f_pushesTo_L (N : Nat) : Nat → Nat → Int32 → Int32 → Int32 → xT → Option (xT)
  | 0, _, _, _, _, _ => none
  | n + 1, p, v1, v2, v3, t =>
    if p = 2 then (if (f_size t) ≤ v2 then (if inB v1 64 = true then (Option.bind (some (wa t 8 (upd (ra t 8) (Int32.toNatClampNeg v1) 0))) fun t_29 =>
        Option.bind (some (wa t_29 6 (upd (ra t_29 6) (Int32.toNatClampNeg 0) v1))) fun t_36 =>
        Option.bind (some (ws t_36 16 1)) fun t_39 =>
        f_pushesTo_L N n 44 0 0 0 t_39) else none)
      else (if inB v2 64 = true then (Option.bind (some (wa t 8 (upd (ra t 8) (Int32.toNatClampNeg v2) (-1)))) fun t_16 =>
        f_pushesTo_L N n 2 v1 (v2 + 1) 0 t_16) else none))
    else if p = 44 then (if (rs t 16) ≤ v2 then (some t)
      else (f_pushesTo_L N n 54 0 v2 0 t))
    else if p = 54 then (if 4 ≤ v3 then (f_pushesTo_L N n 44 0 (v2 + 1) 0 t)
      else (if inB v2 64 = true then (Option.bind (f_opposite v3) fun r_67 =>
        Option.bind (f_beside t ((ra t 6) (Int32.toNatClampNeg v2)) r_67) fun r_70 =>
        Option.bind (if 0 ≤ r_70 then (Option.bind (f_opposite v3) fun r_88 =>
            Option.bind (f_beside t r_70 r_88) fun r_91 =>
            some r_91)
          else (some ((-1) : Int32))) fun (r_77 : Int32) =>
        Option.bind (f_isOpen t r_70) fun r_99 =>
        Option.bind (if r_99 = 0 then (some t)
          else (Option.bind (f_isOpen t r_77) fun r_108 =>
            if r_108 = 0 then (some t)
            else (if inB r_70 64 = true then (if 0 ≤ ((ra t 8) (Int32.toNatClampNeg r_70)) then (some t)
              else (if inB v2 64 = true then (if inB ((ra t 6) (Int32.toNatClampNeg v2)) 64 = true then (if inB r_70 64 = true then (Option.bind (some (wa t 8 (upd (ra t 8) (Int32.toNatClampNeg r_70) (((ra t 8) (Int32.toNatClampNeg ((ra t 6) (Int32.toNatClampNeg v2)))) + 1)))) fun t_143 =>
                if inB (rs t_143 16) 64 = true then (Option.bind (some (wa t_143 6 (upd (ra t_143 6) (Int32.toNatClampNeg (rs t_143 16)) r_70))) fun t_154 =>
                Option.bind (some (ws t_154 16 ((rs t_154 16) + 1))) fun t_162 =>
                some t_162) else none) else none) else none) else none)) else none))) fun (r_102 : xT) =>
        f_pushesTo_L N n 54 0 v2 (v3 + 1) r_102) else none))
    else none
theorem u_pushesTo_2 (N n : Nat) (v1 : Int32) (v2 : Int32) (t : xT) : f_pushesTo_L N (n + 1) 2 v1 v2 0 t = (if (f_size t) ≤ v2 then (if inB v1 64 = true then (Option.bind (some (wa t 8 (upd (ra t 8) (Int32.toNatClampNeg v1) 0))) fun t_29 =>
      Option.bind (some (wa t_29 6 (upd (ra t_29 6) (Int32.toNatClampNeg 0) v1))) fun t_36 =>
      Option.bind (some (ws t_36 16 1)) fun t_39 =>
      f_pushesTo_L N n 44 0 0 0 t_39) else none)
    else (if inB v2 64 = true then (Option.bind (some (wa t 8 (upd (ra t 8) (Int32.toNatClampNeg v2) (-1)))) fun t_16 =>
      f_pushesTo_L N n 2 v1 (v2 + 1) 0 t_16) else none)) := rfl
theorem u_pushesTo_44 (N n : Nat) (v2 : Int32) (t : xT) : f_pushesTo_L N (n + 1) 44 0 v2 0 t = (if (rs t 16) ≤ v2 then (some t)
    else (f_pushesTo_L N n 54 0 v2 0 t)) := rfl
theorem u_pushesTo_54 (N n : Nat) (v2 : Int32) (v3 : Int32) (t : xT) : f_pushesTo_L N (n + 1) 54 0 v2 v3 t = (if 4 ≤ v3 then (f_pushesTo_L N n 44 0 (v2 + 1) 0 t)
    else (if inB v2 64 = true then (Option.bind (f_opposite v3) fun r_67 =>
      Option.bind (f_beside t ((ra t 6) (Int32.toNatClampNeg v2)) r_67) fun r_70 =>
      Option.bind (if 0 ≤ r_70 then (Option.bind (f_opposite v3) fun r_88 =>
          Option.bind (f_beside t r_70 r_88) fun r_91 =>
          some r_91)
        else (some ((-1) : Int32))) fun (r_77 : Int32) =>
      Option.bind (f_isOpen t r_70) fun r_99 =>
      Option.bind (if r_99 = 0 then (some t)
        else (Option.bind (f_isOpen t r_77) fun r_108 =>
          if r_108 = 0 then (some t)
          else (if inB r_70 64 = true then (if 0 ≤ ((ra t 8) (Int32.toNatClampNeg r_70)) then (some t)
            else (if inB v2 64 = true then (if inB ((ra t 6) (Int32.toNatClampNeg v2)) 64 = true then (if inB r_70 64 = true then (Option.bind (some (wa t 8 (upd (ra t 8) (Int32.toNatClampNeg r_70) (((ra t 8) (Int32.toNatClampNeg ((ra t 6) (Int32.toNatClampNeg v2)))) + 1)))) fun t_143 =>
              if inB (rs t_143 16) 64 = true then (Option.bind (some (wa t_143 6 (upd (ra t_143 6) (Int32.toNatClampNeg (rs t_143 16)) r_70))) fun t_154 =>
              Option.bind (some (ws t_154 16 ((rs t_154 16) + 1))) fun t_162 =>
              some t_162) else none) else none) else none) else none)) else none))) fun (r_102 : xT) =>
      f_pushesTo_L N n 54 0 v2 (v3 + 1) r_102) else none)) := rfl
def f_pushesTo (N : Nat) (t : xT) (a0 : Int32) : Option (xT) :=
  f_pushesTo_L N N 2 a0 0 0 t
theorem d_X12_pushesTo_0 : decode (mB M_X12_pushesTo) 0 = .ok (.iconst 0, 1) := by decide +kernel
theorem d_X12_pushesTo_1 : decode (mB M_X12_pushesTo) 1 = .ok (.istore_n 2, 1) := by decide +kernel
theorem d_X12_pushesTo_2 : decode (mB M_X12_pushesTo) 2 = .ok (.iload_n 2, 1) := by decide +kernel
theorem d_X12_pushesTo_3 : decode (mB M_X12_pushesTo) 3 = .ok (.aload_n 0, 1) := by decide +kernel
theorem d_X12_pushesTo_4 : decode (mB M_X12_pushesTo) 4 = .ok (.invokevirtual 130, 3) := by decide +kernel
theorem d_X12_pushesTo_7 : decode (mB M_X12_pushesTo) 7 = .ok (.if_icmp .ge 16, 3) := by decide +kernel
theorem d_X12_pushesTo_10 : decode (mB M_X12_pushesTo) 10 = .ok (.aload_n 0, 1) := by decide +kernel
theorem d_X12_pushesTo_11 : decode (mB M_X12_pushesTo) 11 = .ok (.getfield 35, 3) := by decide +kernel
theorem d_X12_pushesTo_14 : decode (mB M_X12_pushesTo) 14 = .ok (.iload_n 2, 1) := by decide +kernel
theorem d_X12_pushesTo_15 : decode (mB M_X12_pushesTo) 15 = .ok (.iconst (-1), 1) := by decide +kernel
theorem d_X12_pushesTo_16 : decode (mB M_X12_pushesTo) 16 = .ok (.iastore, 1) := by decide +kernel
theorem d_X12_pushesTo_17 : decode (mB M_X12_pushesTo) 17 = .ok (.iinc 2 1, 3) := by decide +kernel
theorem d_X12_pushesTo_20 : decode (mB M_X12_pushesTo) 20 = .ok (.goto (-18), 3) := by decide +kernel
theorem d_X12_pushesTo_23 : decode (mB M_X12_pushesTo) 23 = .ok (.aload_n 0, 1) := by decide +kernel
theorem d_X12_pushesTo_24 : decode (mB M_X12_pushesTo) 24 = .ok (.getfield 35, 3) := by decide +kernel
theorem d_X12_pushesTo_27 : decode (mB M_X12_pushesTo) 27 = .ok (.iload_n 1, 1) := by decide +kernel
theorem d_X12_pushesTo_28 : decode (mB M_X12_pushesTo) 28 = .ok (.iconst 0, 1) := by decide +kernel
theorem d_X12_pushesTo_29 : decode (mB M_X12_pushesTo) 29 = .ok (.iastore, 1) := by decide +kernel
theorem d_X12_pushesTo_30 : decode (mB M_X12_pushesTo) 30 = .ok (.aload_n 0, 1) := by decide +kernel
theorem d_X12_pushesTo_31 : decode (mB M_X12_pushesTo) 31 = .ok (.getfield 29, 3) := by decide +kernel
theorem d_X12_pushesTo_34 : decode (mB M_X12_pushesTo) 34 = .ok (.iconst 0, 1) := by decide +kernel
theorem d_X12_pushesTo_35 : decode (mB M_X12_pushesTo) 35 = .ok (.iload_n 1, 1) := by decide +kernel
theorem d_X12_pushesTo_36 : decode (mB M_X12_pushesTo) 36 = .ok (.iastore, 1) := by decide +kernel
theorem d_X12_pushesTo_37 : decode (mB M_X12_pushesTo) 37 = .ok (.aload_n 0, 1) := by decide +kernel
theorem d_X12_pushesTo_38 : decode (mB M_X12_pushesTo) 38 = .ok (.iconst 1, 1) := by decide +kernel
theorem d_X12_pushesTo_39 : decode (mB M_X12_pushesTo) 39 = .ok (.putfield 133, 3) := by decide +kernel
theorem d_X12_pushesTo_42 : decode (mB M_X12_pushesTo) 42 = .ok (.iconst 0, 1) := by decide +kernel
theorem d_X12_pushesTo_43 : decode (mB M_X12_pushesTo) 43 = .ok (.istore_n 2, 1) := by decide +kernel
theorem d_X12_pushesTo_44 : decode (mB M_X12_pushesTo) 44 = .ok (.iload_n 2, 1) := by decide +kernel
theorem d_X12_pushesTo_45 : decode (mB M_X12_pushesTo) 45 = .ok (.aload_n 0, 1) := by decide +kernel
theorem d_X12_pushesTo_46 : decode (mB M_X12_pushesTo) 46 = .ok (.getfield 133, 3) := by decide +kernel
theorem d_X12_pushesTo_49 : decode (mB M_X12_pushesTo) 49 = .ok (.if_icmp .ge 128, 3) := by decide +kernel
theorem d_X12_pushesTo_52 : decode (mB M_X12_pushesTo) 52 = .ok (.iconst 0, 1) := by decide +kernel
theorem d_X12_pushesTo_53 : decode (mB M_X12_pushesTo) 53 = .ok (.istore_n 3, 1) := by decide +kernel
theorem d_X12_pushesTo_54 : decode (mB M_X12_pushesTo) 54 = .ok (.iload_n 3, 1) := by decide +kernel
theorem d_X12_pushesTo_55 : decode (mB M_X12_pushesTo) 55 = .ok (.iconst 4, 1) := by decide +kernel
theorem d_X12_pushesTo_56 : decode (mB M_X12_pushesTo) 56 = .ok (.if_icmp .ge 115, 3) := by decide +kernel
theorem d_X12_pushesTo_59 : decode (mB M_X12_pushesTo) 59 = .ok (.aload_n 0, 1) := by decide +kernel
theorem d_X12_pushesTo_60 : decode (mB M_X12_pushesTo) 60 = .ok (.aload_n 0, 1) := by decide +kernel
theorem d_X12_pushesTo_61 : decode (mB M_X12_pushesTo) 61 = .ok (.getfield 29, 3) := by decide +kernel
theorem d_X12_pushesTo_64 : decode (mB M_X12_pushesTo) 64 = .ok (.iload_n 2, 1) := by decide +kernel
theorem d_X12_pushesTo_65 : decode (mB M_X12_pushesTo) 65 = .ok (.iaload, 1) := by decide +kernel
theorem d_X12_pushesTo_66 : decode (mB M_X12_pushesTo) 66 = .ok (.iload_n 3, 1) := by decide +kernel
theorem d_X12_pushesTo_67 : decode (mB M_X12_pushesTo) 67 = .ok (.invokestatic 140, 3) := by decide +kernel
theorem d_X12_pushesTo_70 : decode (mB M_X12_pushesTo) 70 = .ok (.invokevirtual 136, 3) := by decide +kernel
theorem d_X12_pushesTo_73 : decode (mB M_X12_pushesTo) 73 = .ok (.istore 4, 2) := by decide +kernel
theorem d_X12_pushesTo_75 : decode (mB M_X12_pushesTo) 75 = .ok (.iload 4, 2) := by decide +kernel
theorem d_X12_pushesTo_77 : decode (mB M_X12_pushesTo) 77 = .ok (.ifCond .ge 7, 3) := by decide +kernel
theorem d_X12_pushesTo_80 : decode (mB M_X12_pushesTo) 80 = .ok (.iconst (-1), 1) := by decide +kernel
theorem d_X12_pushesTo_81 : decode (mB M_X12_pushesTo) 81 = .ok (.goto 13, 3) := by decide +kernel
theorem d_X12_pushesTo_84 : decode (mB M_X12_pushesTo) 84 = .ok (.aload_n 0, 1) := by decide +kernel
theorem d_X12_pushesTo_85 : decode (mB M_X12_pushesTo) 85 = .ok (.iload 4, 2) := by decide +kernel
theorem d_X12_pushesTo_87 : decode (mB M_X12_pushesTo) 87 = .ok (.iload_n 3, 1) := by decide +kernel
theorem d_X12_pushesTo_88 : decode (mB M_X12_pushesTo) 88 = .ok (.invokestatic 140, 3) := by decide +kernel
theorem d_X12_pushesTo_91 : decode (mB M_X12_pushesTo) 91 = .ok (.invokevirtual 136, 3) := by decide +kernel
theorem d_X12_pushesTo_94 : decode (mB M_X12_pushesTo) 94 = .ok (.istore 5, 2) := by decide +kernel
theorem d_X12_pushesTo_96 : decode (mB M_X12_pushesTo) 96 = .ok (.aload_n 0, 1) := by decide +kernel
theorem d_X12_pushesTo_97 : decode (mB M_X12_pushesTo) 97 = .ok (.iload 4, 2) := by decide +kernel
theorem d_X12_pushesTo_99 : decode (mB M_X12_pushesTo) 99 = .ok (.invokevirtual 121, 3) := by decide +kernel
theorem d_X12_pushesTo_102 : decode (mB M_X12_pushesTo) 102 = .ok (.ifCond .eq 63, 3) := by decide +kernel
theorem d_X12_pushesTo_105 : decode (mB M_X12_pushesTo) 105 = .ok (.aload_n 0, 1) := by decide +kernel
theorem d_X12_pushesTo_106 : decode (mB M_X12_pushesTo) 106 = .ok (.iload 5, 2) := by decide +kernel
theorem d_X12_pushesTo_108 : decode (mB M_X12_pushesTo) 108 = .ok (.invokevirtual 121, 3) := by decide +kernel
theorem d_X12_pushesTo_111 : decode (mB M_X12_pushesTo) 111 = .ok (.ifCond .eq 54, 3) := by decide +kernel
theorem d_X12_pushesTo_114 : decode (mB M_X12_pushesTo) 114 = .ok (.aload_n 0, 1) := by decide +kernel
theorem d_X12_pushesTo_115 : decode (mB M_X12_pushesTo) 115 = .ok (.getfield 35, 3) := by decide +kernel
theorem d_X12_pushesTo_118 : decode (mB M_X12_pushesTo) 118 = .ok (.iload 4, 2) := by decide +kernel
theorem d_X12_pushesTo_120 : decode (mB M_X12_pushesTo) 120 = .ok (.iaload, 1) := by decide +kernel
theorem d_X12_pushesTo_121 : decode (mB M_X12_pushesTo) 121 = .ok (.ifCond .ge 44, 3) := by decide +kernel
theorem d_X12_pushesTo_124 : decode (mB M_X12_pushesTo) 124 = .ok (.aload_n 0, 1) := by decide +kernel
theorem d_X12_pushesTo_125 : decode (mB M_X12_pushesTo) 125 = .ok (.getfield 35, 3) := by decide +kernel
theorem d_X12_pushesTo_128 : decode (mB M_X12_pushesTo) 128 = .ok (.iload 4, 2) := by decide +kernel
theorem d_X12_pushesTo_130 : decode (mB M_X12_pushesTo) 130 = .ok (.aload_n 0, 1) := by decide +kernel
theorem d_X12_pushesTo_131 : decode (mB M_X12_pushesTo) 131 = .ok (.getfield 35, 3) := by decide +kernel
theorem d_X12_pushesTo_134 : decode (mB M_X12_pushesTo) 134 = .ok (.aload_n 0, 1) := by decide +kernel
theorem d_X12_pushesTo_135 : decode (mB M_X12_pushesTo) 135 = .ok (.getfield 29, 3) := by decide +kernel
theorem d_X12_pushesTo_138 : decode (mB M_X12_pushesTo) 138 = .ok (.iload_n 2, 1) := by decide +kernel
theorem d_X12_pushesTo_139 : decode (mB M_X12_pushesTo) 139 = .ok (.iaload, 1) := by decide +kernel
theorem d_X12_pushesTo_140 : decode (mB M_X12_pushesTo) 140 = .ok (.iaload, 1) := by decide +kernel
theorem d_X12_pushesTo_141 : decode (mB M_X12_pushesTo) 141 = .ok (.iconst 1, 1) := by decide +kernel
theorem d_X12_pushesTo_142 : decode (mB M_X12_pushesTo) 142 = .ok (.iadd, 1) := by decide +kernel
theorem d_X12_pushesTo_143 : decode (mB M_X12_pushesTo) 143 = .ok (.iastore, 1) := by decide +kernel
theorem d_X12_pushesTo_144 : decode (mB M_X12_pushesTo) 144 = .ok (.aload_n 0, 1) := by decide +kernel
theorem d_X12_pushesTo_145 : decode (mB M_X12_pushesTo) 145 = .ok (.getfield 29, 3) := by decide +kernel
theorem d_X12_pushesTo_148 : decode (mB M_X12_pushesTo) 148 = .ok (.aload_n 0, 1) := by decide +kernel
theorem d_X12_pushesTo_149 : decode (mB M_X12_pushesTo) 149 = .ok (.getfield 133, 3) := by decide +kernel
theorem d_X12_pushesTo_152 : decode (mB M_X12_pushesTo) 152 = .ok (.iload 4, 2) := by decide +kernel
theorem d_X12_pushesTo_154 : decode (mB M_X12_pushesTo) 154 = .ok (.iastore, 1) := by decide +kernel
theorem d_X12_pushesTo_155 : decode (mB M_X12_pushesTo) 155 = .ok (.aload_n 0, 1) := by decide +kernel
theorem d_X12_pushesTo_156 : decode (mB M_X12_pushesTo) 156 = .ok (.dup, 1) := by decide +kernel
theorem d_X12_pushesTo_157 : decode (mB M_X12_pushesTo) 157 = .ok (.getfield 133, 3) := by decide +kernel
theorem d_X12_pushesTo_160 : decode (mB M_X12_pushesTo) 160 = .ok (.iconst 1, 1) := by decide +kernel
theorem d_X12_pushesTo_161 : decode (mB M_X12_pushesTo) 161 = .ok (.iadd, 1) := by decide +kernel
theorem d_X12_pushesTo_162 : decode (mB M_X12_pushesTo) 162 = .ok (.putfield 133, 3) := by decide +kernel
theorem d_X12_pushesTo_165 : decode (mB M_X12_pushesTo) 165 = .ok (.iinc 3 1, 3) := by decide +kernel
theorem d_X12_pushesTo_168 : decode (mB M_X12_pushesTo) 168 = .ok (.goto (-114), 3) := by decide +kernel
theorem d_X12_pushesTo_171 : decode (mB M_X12_pushesTo) 171 = .ok (.iinc 2 1, 3) := by decide +kernel
theorem d_X12_pushesTo_174 : decode (mB M_X12_pushesTo) 174 = .ok (.goto (-130), 3) := by decide +kernel
theorem d_X12_pushesTo_177 : decode (mB M_X12_pushesTo) 177 = .ok (.return_, 1) := by decide +kernel
theorem l_m_pushesTo {E : mEnv} (hE : E.1.stackTraces = false) (C : List mE) (N : Nat) : ∀ n : Nat, (∀ (v1 : Int32) (v2 : Int32) (t : xT) (r : xT), f_pushesTo_L N n 2 v1 v2 0 t = some r → Go E M_X12_pushesTo 0 (2, [some (.ref 0), some (.int v1), some (.int v2), none, none, none], [], (mw t, C)) (.inr (.inl (none, (mw r, C))))) ∧ (∀ (v2 : Int32) (t : xT) (r : xT), f_pushesTo_L N n 44 0 v2 0 t = some r → Go E M_X12_pushesTo 0 (44, [some (.ref 0), none, some (.int v2), none, none, none], [], (mw t, C)) (.inr (.inl (none, (mw r, C))))) ∧ (∀ (v2 : Int32) (v3 : Int32) (t : xT) (r : xT), f_pushesTo_L N n 54 0 v2 v3 t = some r → Go E M_X12_pushesTo 0 (54, [some (.ref 0), none, some (.int v2), some (.int v3), none, none], [], (mw t, C)) (.inr (.inl (none, (mw r, C))))) := by
  intro n
  induction n with
  | zero => exact ⟨(fun v1 v2 t r h => by cases h), (fun v2 t r h => by cases h), (fun v2 v3 t r h => by cases h)⟩
  | succ n ih =>
    refine ⟨?_, ?_, ?_⟩
    · intro v1 v2 t r h
      rw [u_pushesTo_2] at h
      refine g_iload_n d_X12_pushesTo_2 rfl ?_
      refine g_aload_n d_X12_pushesTo_3 rfl ?_
      refine g_callV (As := []) d_X12_pushesTo_4 o_X12_size l_X12_130 ⟨Nat.le_of_ble_eq_true rfl, Nat.le_of_ble_eq_true rfl⟩ (c_m_size hE C t) (gm0 t C) rfl rfl rfl rfl rfl ?_ (Nat.zero_add _)
      refine g_icmp_ge (tgt := 23) d_X12_pushesTo_7 (by decide) (fun c_7 => ?_) (fun c_7 => ?_)
      · replace h := opos c_7 h
        refine g_aload_n d_X12_pushesTo_23 rfl ?_
        refine g_getf d_X12_pushesTo_24 f_X12_35 (gm0 t C) rfl ?_
        refine g_iload_n d_X12_pushesTo_27 rfl ?_
        refine g_iconst (v := 0) d_X12_pushesTo_28 (by decide) ?_
        obtain ⟨i_29, h⟩ := ochk h
        obtain ⟨t_29, e_29, h⟩ := olet h
        refine g_iast (w' := (mw t_29, C)) d_X12_pushesTo_29 (gm_8 t C) (inB_in i_29) (by rw [e_29]; exact st_8 t C _) ?_
        refine g_aload_n d_X12_pushesTo_30 rfl ?_
        refine g_getf d_X12_pushesTo_31 f_X12_29 (gm0 t_29 C) rfl ?_
        refine g_iconst (v := 0) d_X12_pushesTo_34 (by decide) ?_
        refine g_iload_n d_X12_pushesTo_35 rfl ?_
        obtain ⟨t_36, e_36, h⟩ := olet h
        refine g_iast (w' := (mw t_36, C)) d_X12_pushesTo_36 (gm_6 t_29 C) (inB_in (by decide)) (by rw [e_36]; exact st_6 t_29 C _) ?_
        refine g_aload_n d_X12_pushesTo_37 rfl ?_
        refine g_iconst (v := 1) d_X12_pushesTo_38 (by decide) ?_
        obtain ⟨t_39, e_39, h⟩ := olet h
        refine g_putI (w' := (mw t_39, C)) d_X12_pushesTo_39 p_X12_133 rfl rfl (gm0 t_36 C) (Nat.le_of_ble_eq_true rfl) (by rw [e_39]; exact sc_16 t_36 C _) ?_
        refine g_iconst (v := 0) d_X12_pushesTo_42 (by decide) ?_
        refine g_istore_n (L' := [some (.ref 0), some (.int v1), some (.int 0), none, none, none]) d_X12_pushesTo_43 rfl rfl ?_
        refine g_drop [1] (L1 := [some (.ref 0), none, some (.int 0), none, none, none]) rfl ?_
        exact (ih).2.1 0 t_39 _ h
      · replace h := oneg c_7 h
        refine g_aload_n d_X12_pushesTo_10 rfl ?_
        refine g_getf d_X12_pushesTo_11 f_X12_35 (gm0 t C) rfl ?_
        refine g_iload_n d_X12_pushesTo_14 rfl ?_
        refine g_iconst (v := (-1)) d_X12_pushesTo_15 (by decide) ?_
        obtain ⟨i_16, h⟩ := ochk h
        obtain ⟨t_16, e_16, h⟩ := olet h
        refine g_iast (w' := (mw t_16, C)) d_X12_pushesTo_16 (gm_8 t C) (inB_in i_16) (by rw [e_16]; exact st_8 t C _) ?_
        refine g_iinc (v := (v2 + 1)) (L' := [some (.ref 0), some (.int v1), some (.int (v2 + 1)), none, none, none]) d_X12_pushesTo_17 rfl rfl rfl ?_
        refine g_goto (tgt := 2) d_X12_pushesTo_20 (by decide) ?_
        exact (ih).1 v1 (v2 + 1) t_16 _ h
    · intro v2 t r h
      rw [u_pushesTo_44] at h
      refine g_iload_n d_X12_pushesTo_44 rfl ?_
      refine g_aload_n d_X12_pushesTo_45 rfl ?_
      refine g_getf d_X12_pushesTo_46 f_X12_133 (gm0 t C) rfl ?_
      refine g_icmp_ge (tgt := 177) d_X12_pushesTo_49 (by decide) (fun c_49 => ?_) (fun c_49 => ?_)
      · replace h := opos c_49 h
        obtain rfl := osome h
        exact g_retV d_X12_pushesTo_177 rfl rfl
      · replace h := oneg c_49 h
        refine g_iconst (v := 0) d_X12_pushesTo_52 (by decide) ?_
        refine g_istore_n (L' := [some (.ref 0), none, some (.int v2), some (.int 0), none, none]) d_X12_pushesTo_53 rfl rfl ?_
        exact (ih).2.2 v2 0 t _ h
    · intro v2 v3 t r h
      rw [u_pushesTo_54] at h
      refine g_iload_n d_X12_pushesTo_54 rfl ?_
      refine g_iconst (v := 4) d_X12_pushesTo_55 (by decide) ?_
      refine g_icmp_ge (tgt := 171) d_X12_pushesTo_56 (by decide) (fun c_56 => ?_) (fun c_56 => ?_)
      · replace h := opos c_56 h
        refine g_iinc (v := (v2 + 1)) (L' := [some (.ref 0), none, some (.int (v2 + 1)), some (.int v3), none, none]) d_X12_pushesTo_171 rfl rfl rfl ?_
        refine g_goto (tgt := 44) d_X12_pushesTo_174 (by decide) ?_
        refine g_drop [3] (L1 := [some (.ref 0), none, some (.int (v2 + 1)), none, none, none]) rfl ?_
        exact (ih).2.1 (v2 + 1) t _ h
      · replace h := oneg c_56 h
        refine g_aload_n d_X12_pushesTo_59 rfl ?_
        refine g_aload_n d_X12_pushesTo_60 rfl ?_
        refine g_getf d_X12_pushesTo_61 f_X12_29 (gm0 t C) rfl ?_
        refine g_iload_n d_X12_pushesTo_64 rfl ?_
        obtain ⟨i_65, h⟩ := ochk h
        refine g_iald d_X12_pushesTo_65 (gm_6 t C) (inB_in i_65) ?_
        refine g_iload_n d_X12_pushesTo_66 rfl ?_
        obtain ⟨r_67, h_67, h⟩ := obind h
        refine g_callS (As := [.int v3]) d_X12_pushesTo_67 o_X12_opposite l_X12_140 ⟨Nat.le_of_ble_eq_true rfl, Nat.le_of_ble_eq_true rfl⟩ (c_m_opposite hE C t v3 _ h_67) rfl rfl ?_ (Nat.zero_add _)
        obtain ⟨r_70, h_70, h⟩ := obind h
        refine g_callV (As := [.int ((ra t 6) (Int32.toNatClampNeg v2)), .int r_67]) d_X12_pushesTo_70 o_X12_beside l_X12_136 ⟨Nat.le_of_ble_eq_true rfl, Nat.le_of_ble_eq_true rfl⟩ (c_m_beside hE C t ((ra t 6) (Int32.toNatClampNeg v2)) r_67 _ h_70) (gm0 t C) rfl rfl rfl rfl rfl ?_ (Nat.zero_add _)
        refine g_istore (L' := [some (.ref 0), none, some (.int v2), some (.int v3), some (.int r_70), none]) d_X12_pushesTo_73 rfl rfl ?_
        refine g_iload d_X12_pushesTo_75 rfl ?_
        obtain ⟨r_77, h_77, hh_77⟩ := obind h
        refine Go.trans0 (S1 := (94, [some (.ref 0), none, some (.int v2), some (.int v3), some (.int r_70), none], [.int r_77], (mw t, C))) ?_ ?_
        · replace h := h_77
          clear hh_77
          refine g_if_ge (tgt := 84) d_X12_pushesTo_77 (by decide) (fun c_77 => ?_) (fun c_77 => ?_)
          · replace h := opos c_77 h
            refine g_aload_n d_X12_pushesTo_84 rfl ?_
            refine g_iload d_X12_pushesTo_85 rfl ?_
            refine g_iload_n d_X12_pushesTo_87 rfl ?_
            obtain ⟨r_88, h_88, h⟩ := obind h
            refine g_callS (As := [.int v3]) d_X12_pushesTo_88 o_X12_opposite l_X12_140 ⟨Nat.le_of_ble_eq_true rfl, Nat.le_of_ble_eq_true rfl⟩ (c_m_opposite hE C t v3 _ h_88) rfl rfl ?_ (Nat.zero_add _)
            obtain ⟨r_91, h_91, h⟩ := obind h
            refine g_callV (As := [.int r_70, .int r_88]) d_X12_pushesTo_91 o_X12_beside l_X12_136 ⟨Nat.le_of_ble_eq_true rfl, Nat.le_of_ble_eq_true rfl⟩ (c_m_beside hE C t r_70 r_88 _ h_91) (gm0 t C) rfl rfl rfl rfl rfl ?_ (Nat.zero_add _)
            obtain rfl := osome h
            exact g_end rfl
          · replace h := oneg c_77 h
            refine g_iconst (v := (-1)) d_X12_pushesTo_80 (by decide) ?_
            refine g_goto (tgt := 94) d_X12_pushesTo_81 (by decide) ?_
            obtain rfl := osome h
            exact g_end rfl
        replace h := hh_77
        refine g_istore (L' := [some (.ref 0), none, some (.int v2), some (.int v3), some (.int r_70), some (.int r_77)]) d_X12_pushesTo_94 rfl rfl ?_
        refine g_aload_n d_X12_pushesTo_96 rfl ?_
        refine g_iload d_X12_pushesTo_97 rfl ?_
        obtain ⟨r_99, h_99, h⟩ := obind h
        refine g_callV (As := [.int r_70]) d_X12_pushesTo_99 o_X12_isOpen l_X12_121 ⟨Nat.le_of_ble_eq_true rfl, Nat.le_of_ble_eq_true rfl⟩ (c_m_isOpen hE C t r_70 _ h_99) (gm0 t C) rfl rfl rfl rfl rfl ?_ (Nat.zero_add _)
        obtain ⟨r_102, h_102, hh_102⟩ := obind h
        refine Go.trans0 (S1 := (165, [some (.ref 0), none, some (.int v2), some (.int v3), none, none], [], (mw r_102, C))) ?_ ?_
        · replace h := h_102
          clear hh_102
          refine g_if_eq (tgt := 165) d_X12_pushesTo_102 (by decide) (fun c_102 => ?_) (fun c_102 => ?_)
          · replace h := opos c_102 h
            obtain rfl := osome h
            exact g_drop [4, 5] rfl (g_end rfl)
          · replace h := oneg c_102 h
            refine g_aload_n d_X12_pushesTo_105 rfl ?_
            refine g_iload d_X12_pushesTo_106 rfl ?_
            obtain ⟨r_108, h_108, h⟩ := obind h
            refine g_callV (As := [.int r_77]) d_X12_pushesTo_108 o_X12_isOpen l_X12_121 ⟨Nat.le_of_ble_eq_true rfl, Nat.le_of_ble_eq_true rfl⟩ (c_m_isOpen hE C t r_77 _ h_108) (gm0 t C) rfl rfl rfl rfl rfl ?_ (Nat.zero_add _)
            refine g_if_eq (tgt := 165) d_X12_pushesTo_111 (by decide) (fun c_111 => ?_) (fun c_111 => ?_)
            · replace h := opos c_111 h
              obtain rfl := osome h
              exact g_drop [4, 5] rfl (g_end rfl)
            · replace h := oneg c_111 h
              refine g_aload_n d_X12_pushesTo_114 rfl ?_
              refine g_getf d_X12_pushesTo_115 f_X12_35 (gm0 t C) rfl ?_
              refine g_iload d_X12_pushesTo_118 rfl ?_
              obtain ⟨i_120, h⟩ := ochk h
              refine g_iald d_X12_pushesTo_120 (gm_8 t C) (inB_in i_120) ?_
              refine g_if_ge (tgt := 165) d_X12_pushesTo_121 (by decide) (fun c_121 => ?_) (fun c_121 => ?_)
              · replace h := opos c_121 h
                obtain rfl := osome h
                exact g_drop [4, 5] rfl (g_end rfl)
              · replace h := oneg c_121 h
                refine g_aload_n d_X12_pushesTo_124 rfl ?_
                refine g_getf d_X12_pushesTo_125 f_X12_35 (gm0 t C) rfl ?_
                refine g_iload d_X12_pushesTo_128 rfl ?_
                refine g_aload_n d_X12_pushesTo_130 rfl ?_
                refine g_getf d_X12_pushesTo_131 f_X12_35 (gm0 t C) rfl ?_
                refine g_aload_n d_X12_pushesTo_134 rfl ?_
                refine g_getf d_X12_pushesTo_135 f_X12_29 (gm0 t C) rfl ?_
                refine g_iload_n d_X12_pushesTo_138 rfl ?_
                obtain ⟨i_139, h⟩ := ochk h
                refine g_iald d_X12_pushesTo_139 (gm_6 t C) (inB_in i_139) ?_
                obtain ⟨i_140, h⟩ := ochk h
                refine g_iald d_X12_pushesTo_140 (gm_8 t C) (inB_in i_140) ?_
                refine g_iconst (v := 1) d_X12_pushesTo_141 (by decide) ?_
                refine g_iadd d_X12_pushesTo_142 ?_
                obtain ⟨i_143, h⟩ := ochk h
                obtain ⟨t_143, e_143, h⟩ := olet h
                refine g_iast (w' := (mw t_143, C)) d_X12_pushesTo_143 (gm_8 t C) (inB_in i_143) (by rw [e_143]; exact st_8 t C _) ?_
                refine g_aload_n d_X12_pushesTo_144 rfl ?_
                refine g_getf d_X12_pushesTo_145 f_X12_29 (gm0 t_143 C) rfl ?_
                refine g_aload_n d_X12_pushesTo_148 rfl ?_
                refine g_getf d_X12_pushesTo_149 f_X12_133 (gm0 t_143 C) rfl ?_
                refine g_iload d_X12_pushesTo_152 rfl ?_
                obtain ⟨i_154, h⟩ := ochk h
                obtain ⟨t_154, e_154, h⟩ := olet h
                refine g_iast (w' := (mw t_154, C)) d_X12_pushesTo_154 (gm_6 t_143 C) (inB_in i_154) (by rw [e_154]; exact st_6 t_143 C _) ?_
                refine g_aload_n d_X12_pushesTo_155 rfl ?_
                refine g_dup d_X12_pushesTo_156 rfl ?_
                refine g_getf d_X12_pushesTo_157 f_X12_133 (gm0 t_154 C) rfl ?_
                refine g_iconst (v := 1) d_X12_pushesTo_160 (by decide) ?_
                refine g_iadd d_X12_pushesTo_161 ?_
                obtain ⟨t_162, e_162, h⟩ := olet h
                refine g_putI (w' := (mw t_162, C)) d_X12_pushesTo_162 p_X12_133 rfl rfl (gm0 t_154 C) (Nat.le_of_ble_eq_true rfl) (by rw [e_162]; exact sc_16 t_154 C _) ?_
                obtain rfl := osome h
                exact g_drop [4, 5] rfl (g_end rfl)
        replace h := hh_102
        refine g_iinc (v := (v3 + 1)) (L' := [some (.ref 0), none, some (.int v2), some (.int (v3 + 1)), none, none]) d_X12_pushesTo_165 rfl rfl rfl ?_
        refine g_goto (tgt := 54) d_X12_pushesTo_168 (by decide) ?_
        exact (ih).2.2 v2 (v3 + 1) r_102 _ h
theorem c_m_pushesTo {E : mEnv} (hE : E.1.stackTraces = false) (C : List mE) (N : Nat) (t : xT) (a0 : Int32) (r : xT) (h : f_pushesTo N t a0 = some r) : Rt E M_X12_pushesTo 0 [.ref 0, .int a0] (mw t, C) none (mw r, C) := by
  unfold f_pushesTo at h
  refine Rt.of hE rfl pn_X12 (Nat.le_of_ble_eq_true rfl) ?_
  refine g_eq (S' := (0, [some (.ref 0), some (.int a0), none, none, none, none], [], (mw t, C))) rfl ?_
  refine g_iconst (v := 0) d_X12_pushesTo_0 (by decide) ?_
  refine g_istore_n (L' := [some (.ref 0), some (.int a0), some (.int 0), none, none, none]) d_X12_pushesTo_1 rfl rfl ?_
  exact (l_m_pushesTo hE C N N).1 a0 0 t _ h
def f_dies_L (N : Nat) : Nat → Nat → Int32 → Int32 → xT → Option (xT)
  | 0, _, _, _, _ => none
  | n + 1, p, v1, v2, t =>
    if p = 2 then (if (f_size t) ≤ v1 then (f_dies_L N n 29 0 0 t)
      else (Option.bind (f_isOpen t v1) fun r_17 =>
        if inB v1 64 = true then (Option.bind (some (wa t 9 (upd (ra t 9) (Int32.toNatClampNeg v1) (vp_nar .boolean r_17)))) fun t_20 =>
        f_dies_L N n 2 (v1 + 1) 0 t_20) else none))
    else if p = 29 then (if (f_size t) ≤ v1 then (some t)
      else (Option.bind (f_isGoal t v1) fun r_39 =>
        if r_39 = 0 then (f_dies_L N n 29 (v1 + 1) 0 t)
        else (Option.bind (f_pushesTo N t v1) fun r_50 =>
          f_dies_L N n 55 v1 0 r_50)))
    else if p = 55 then (if (f_size t) ≤ v2 then (f_dies_L N n 29 (v1 + 1) 0 t)
      else (if inB v2 64 = true then (Option.bind (if ((ra t 9) (Int32.toNatClampNeg v2)) = 0 then (some (0 : Int32))
          else (if inB v2 64 = true then (if 0 ≤ ((ra t 8) (Int32.toNatClampNeg v2)) then (some (0 : Int32))
            else (some (1 : Int32))) else none)) fun (r_74 : Int32) =>
        if inB v2 64 = true then (Option.bind (some (wa t 9 (upd (ra t 9) (Int32.toNatClampNeg v2) (vp_nar .boolean r_74)))) fun t_91 =>
        f_dies_L N n 55 v1 (v2 + 1) t_91) else none) else none))
    else none
theorem u_dies_2 (N n : Nat) (v1 : Int32) (t : xT) : f_dies_L N (n + 1) 2 v1 0 t = (if (f_size t) ≤ v1 then (f_dies_L N n 29 0 0 t)
    else (Option.bind (f_isOpen t v1) fun r_17 =>
      if inB v1 64 = true then (Option.bind (some (wa t 9 (upd (ra t 9) (Int32.toNatClampNeg v1) (vp_nar .boolean r_17)))) fun t_20 =>
      f_dies_L N n 2 (v1 + 1) 0 t_20) else none)) := rfl
theorem u_dies_29 (N n : Nat) (v1 : Int32) (t : xT) : f_dies_L N (n + 1) 29 v1 0 t = (if (f_size t) ≤ v1 then (some t)
    else (Option.bind (f_isGoal t v1) fun r_39 =>
      if r_39 = 0 then (f_dies_L N n 29 (v1 + 1) 0 t)
      else (Option.bind (f_pushesTo N t v1) fun r_50 =>
        f_dies_L N n 55 v1 0 r_50))) := rfl
theorem u_dies_55 (N n : Nat) (v1 : Int32) (v2 : Int32) (t : xT) : f_dies_L N (n + 1) 55 v1 v2 t = (if (f_size t) ≤ v2 then (f_dies_L N n 29 (v1 + 1) 0 t)
    else (if inB v2 64 = true then (Option.bind (if ((ra t 9) (Int32.toNatClampNeg v2)) = 0 then (some (0 : Int32))
        else (if inB v2 64 = true then (if 0 ≤ ((ra t 8) (Int32.toNatClampNeg v2)) then (some (0 : Int32))
          else (some (1 : Int32))) else none)) fun (r_74 : Int32) =>
      if inB v2 64 = true then (Option.bind (some (wa t 9 (upd (ra t 9) (Int32.toNatClampNeg v2) (vp_nar .boolean r_74)))) fun t_91 =>
      f_dies_L N n 55 v1 (v2 + 1) t_91) else none) else none)) := rfl
def f_dies (N : Nat) (t : xT)  : Option (xT) :=
  f_dies_L N N 2 0 0 t
theorem d_X12_dies_0 : decode (mB M_X12_dies) 0 = .ok (.iconst 0, 1) := by decide +kernel
theorem d_X12_dies_1 : decode (mB M_X12_dies) 1 = .ok (.istore_n 1, 1) := by decide +kernel
theorem d_X12_dies_2 : decode (mB M_X12_dies) 2 = .ok (.iload_n 1, 1) := by decide +kernel
theorem d_X12_dies_3 : decode (mB M_X12_dies) 3 = .ok (.aload_n 0, 1) := by decide +kernel
theorem d_X12_dies_4 : decode (mB M_X12_dies) 4 = .ok (.invokevirtual 130, 3) := by decide +kernel
theorem d_X12_dies_7 : decode (mB M_X12_dies) 7 = .ok (.if_icmp .ge 20, 3) := by decide +kernel
theorem d_X12_dies_10 : decode (mB M_X12_dies) 10 = .ok (.aload_n 0, 1) := by decide +kernel
theorem d_X12_dies_11 : decode (mB M_X12_dies) 11 = .ok (.getfield 38, 3) := by decide +kernel
theorem d_X12_dies_14 : decode (mB M_X12_dies) 14 = .ok (.iload_n 1, 1) := by decide +kernel
theorem d_X12_dies_15 : decode (mB M_X12_dies) 15 = .ok (.aload_n 0, 1) := by decide +kernel
theorem d_X12_dies_16 : decode (mB M_X12_dies) 16 = .ok (.iload_n 1, 1) := by decide +kernel
theorem d_X12_dies_17 : decode (mB M_X12_dies) 17 = .ok (.invokevirtual 121, 3) := by decide +kernel
theorem d_X12_dies_20 : decode (mB M_X12_dies) 20 = .ok (.bastore, 1) := by decide +kernel
theorem d_X12_dies_21 : decode (mB M_X12_dies) 21 = .ok (.iinc 1 1, 3) := by decide +kernel
theorem d_X12_dies_24 : decode (mB M_X12_dies) 24 = .ok (.goto (-22), 3) := by decide +kernel
theorem d_X12_dies_27 : decode (mB M_X12_dies) 27 = .ok (.iconst 0, 1) := by decide +kernel
theorem d_X12_dies_28 : decode (mB M_X12_dies) 28 = .ok (.istore_n 1, 1) := by decide +kernel
theorem d_X12_dies_29 : decode (mB M_X12_dies) 29 = .ok (.iload_n 1, 1) := by decide +kernel
theorem d_X12_dies_30 : decode (mB M_X12_dies) 30 = .ok (.aload_n 0, 1) := by decide +kernel
theorem d_X12_dies_31 : decode (mB M_X12_dies) 31 = .ok (.invokevirtual 130, 3) := by decide +kernel
theorem d_X12_dies_34 : decode (mB M_X12_dies) 34 = .ok (.if_icmp .ge 70, 3) := by decide +kernel
theorem d_X12_dies_37 : decode (mB M_X12_dies) 37 = .ok (.aload_n 0, 1) := by decide +kernel
theorem d_X12_dies_38 : decode (mB M_X12_dies) 38 = .ok (.iload_n 1, 1) := by decide +kernel
theorem d_X12_dies_39 : decode (mB M_X12_dies) 39 = .ok (.invokevirtual 127, 3) := by decide +kernel
theorem d_X12_dies_42 : decode (mB M_X12_dies) 42 = .ok (.ifCond .ne 6, 3) := by decide +kernel
theorem d_X12_dies_45 : decode (mB M_X12_dies) 45 = .ok (.goto 53, 3) := by decide +kernel
theorem d_X12_dies_48 : decode (mB M_X12_dies) 48 = .ok (.aload_n 0, 1) := by decide +kernel
theorem d_X12_dies_49 : decode (mB M_X12_dies) 49 = .ok (.iload_n 1, 1) := by decide +kernel
theorem d_X12_dies_50 : decode (mB M_X12_dies) 50 = .ok (.invokevirtual 143, 3) := by decide +kernel
theorem d_X12_dies_53 : decode (mB M_X12_dies) 53 = .ok (.iconst 0, 1) := by decide +kernel
theorem d_X12_dies_54 : decode (mB M_X12_dies) 54 = .ok (.istore_n 2, 1) := by decide +kernel
theorem d_X12_dies_55 : decode (mB M_X12_dies) 55 = .ok (.iload_n 2, 1) := by decide +kernel
theorem d_X12_dies_56 : decode (mB M_X12_dies) 56 = .ok (.aload_n 0, 1) := by decide +kernel
theorem d_X12_dies_57 : decode (mB M_X12_dies) 57 = .ok (.invokevirtual 130, 3) := by decide +kernel
theorem d_X12_dies_60 : decode (mB M_X12_dies) 60 = .ok (.if_icmp .ge 38, 3) := by decide +kernel
theorem d_X12_dies_63 : decode (mB M_X12_dies) 63 = .ok (.aload_n 0, 1) := by decide +kernel
theorem d_X12_dies_64 : decode (mB M_X12_dies) 64 = .ok (.getfield 38, 3) := by decide +kernel
theorem d_X12_dies_67 : decode (mB M_X12_dies) 67 = .ok (.iload_n 2, 1) := by decide +kernel
theorem d_X12_dies_68 : decode (mB M_X12_dies) 68 = .ok (.aload_n 0, 1) := by decide +kernel
theorem d_X12_dies_69 : decode (mB M_X12_dies) 69 = .ok (.getfield 38, 3) := by decide +kernel
theorem d_X12_dies_72 : decode (mB M_X12_dies) 72 = .ok (.iload_n 2, 1) := by decide +kernel
theorem d_X12_dies_73 : decode (mB M_X12_dies) 73 = .ok (.baload, 1) := by decide +kernel
theorem d_X12_dies_74 : decode (mB M_X12_dies) 74 = .ok (.ifCond .eq 16, 3) := by decide +kernel
theorem d_X12_dies_77 : decode (mB M_X12_dies) 77 = .ok (.aload_n 0, 1) := by decide +kernel
theorem d_X12_dies_78 : decode (mB M_X12_dies) 78 = .ok (.getfield 35, 3) := by decide +kernel
theorem d_X12_dies_81 : decode (mB M_X12_dies) 81 = .ok (.iload_n 2, 1) := by decide +kernel
theorem d_X12_dies_82 : decode (mB M_X12_dies) 82 = .ok (.iaload, 1) := by decide +kernel
theorem d_X12_dies_83 : decode (mB M_X12_dies) 83 = .ok (.ifCond .ge 7, 3) := by decide +kernel
theorem d_X12_dies_86 : decode (mB M_X12_dies) 86 = .ok (.iconst 1, 1) := by decide +kernel
theorem d_X12_dies_87 : decode (mB M_X12_dies) 87 = .ok (.goto 4, 3) := by decide +kernel
theorem d_X12_dies_90 : decode (mB M_X12_dies) 90 = .ok (.iconst 0, 1) := by decide +kernel
theorem d_X12_dies_91 : decode (mB M_X12_dies) 91 = .ok (.bastore, 1) := by decide +kernel
theorem d_X12_dies_92 : decode (mB M_X12_dies) 92 = .ok (.iinc 2 1, 3) := by decide +kernel
theorem d_X12_dies_95 : decode (mB M_X12_dies) 95 = .ok (.goto (-40), 3) := by decide +kernel
theorem d_X12_dies_98 : decode (mB M_X12_dies) 98 = .ok (.iinc 1 1, 3) := by decide +kernel
theorem d_X12_dies_101 : decode (mB M_X12_dies) 101 = .ok (.goto (-72), 3) := by decide +kernel
theorem d_X12_dies_104 : decode (mB M_X12_dies) 104 = .ok (.return_, 1) := by decide +kernel
theorem l_m_dies {E : mEnv} (hE : E.1.stackTraces = false) (C : List mE) (N : Nat) : ∀ n : Nat, (∀ (v1 : Int32) (t : xT) (r : xT), f_dies_L N n 2 v1 0 t = some r → Go E M_X12_dies 0 (2, [some (.ref 0), some (.int v1), none], [], (mw t, C)) (.inr (.inl (none, (mw r, C))))) ∧ (∀ (v1 : Int32) (t : xT) (r : xT), f_dies_L N n 29 v1 0 t = some r → Go E M_X12_dies 0 (29, [some (.ref 0), some (.int v1), none], [], (mw t, C)) (.inr (.inl (none, (mw r, C))))) ∧ (∀ (v1 : Int32) (v2 : Int32) (t : xT) (r : xT), f_dies_L N n 55 v1 v2 t = some r → Go E M_X12_dies 0 (55, [some (.ref 0), some (.int v1), some (.int v2)], [], (mw t, C)) (.inr (.inl (none, (mw r, C))))) := by
  intro n
  induction n with
  | zero => exact ⟨(fun v1 t r h => by cases h), (fun v1 t r h => by cases h), (fun v1 v2 t r h => by cases h)⟩
  | succ n ih =>
    refine ⟨?_, ?_, ?_⟩
    · intro v1 t r h
      rw [u_dies_2] at h
      refine g_iload_n d_X12_dies_2 rfl ?_
      refine g_aload_n d_X12_dies_3 rfl ?_
      refine g_callV (As := []) d_X12_dies_4 o_X12_size l_X12_130 ⟨Nat.le_of_ble_eq_true rfl, Nat.le_of_ble_eq_true rfl⟩ (c_m_size hE C t) (gm0 t C) rfl rfl rfl rfl rfl ?_ (Nat.zero_add _)
      refine g_icmp_ge (tgt := 27) d_X12_dies_7 (by decide) (fun c_7 => ?_) (fun c_7 => ?_)
      · replace h := opos c_7 h
        refine g_iconst (v := 0) d_X12_dies_27 (by decide) ?_
        refine g_istore_n (L' := [some (.ref 0), some (.int 0), none]) d_X12_dies_28 rfl rfl ?_
        exact (ih).2.1 0 t _ h
      · replace h := oneg c_7 h
        refine g_aload_n d_X12_dies_10 rfl ?_
        refine g_getf d_X12_dies_11 f_X12_38 (gm0 t C) rfl ?_
        refine g_iload_n d_X12_dies_14 rfl ?_
        refine g_aload_n d_X12_dies_15 rfl ?_
        refine g_iload_n d_X12_dies_16 rfl ?_
        obtain ⟨r_17, h_17, h⟩ := obind h
        refine g_callV (As := [.int v1]) d_X12_dies_17 o_X12_isOpen l_X12_121 ⟨Nat.le_of_ble_eq_true rfl, Nat.le_of_ble_eq_true rfl⟩ (c_m_isOpen hE C t v1 _ h_17) (gm0 t C) rfl rfl rfl rfl rfl ?_ (Nat.zero_add _)
        obtain ⟨i_20, h⟩ := ochk h
        obtain ⟨t_20, e_20, h⟩ := olet h
        refine g_zast (w' := (mw t_20, C)) d_X12_dies_20 (gm_9 t C) (inB_in i_20) (by rw [e_20]; exact st_9 t C _) ?_
        refine g_iinc (v := (v1 + 1)) (L' := [some (.ref 0), some (.int (v1 + 1)), none]) d_X12_dies_21 rfl rfl rfl ?_
        refine g_goto (tgt := 2) d_X12_dies_24 (by decide) ?_
        exact (ih).1 (v1 + 1) t_20 _ h
    · intro v1 t r h
      rw [u_dies_29] at h
      refine g_iload_n d_X12_dies_29 rfl ?_
      refine g_aload_n d_X12_dies_30 rfl ?_
      refine g_callV (As := []) d_X12_dies_31 o_X12_size l_X12_130 ⟨Nat.le_of_ble_eq_true rfl, Nat.le_of_ble_eq_true rfl⟩ (c_m_size hE C t) (gm0 t C) rfl rfl rfl rfl rfl ?_ (Nat.zero_add _)
      refine g_icmp_ge (tgt := 104) d_X12_dies_34 (by decide) (fun c_34 => ?_) (fun c_34 => ?_)
      · replace h := opos c_34 h
        obtain rfl := osome h
        exact g_retV d_X12_dies_104 rfl rfl
      · replace h := oneg c_34 h
        refine g_aload_n d_X12_dies_37 rfl ?_
        refine g_iload_n d_X12_dies_38 rfl ?_
        obtain ⟨r_39, h_39, h⟩ := obind h
        refine g_callV (As := [.int v1]) d_X12_dies_39 o_X12_isGoal l_X12_127 ⟨Nat.le_of_ble_eq_true rfl, Nat.le_of_ble_eq_true rfl⟩ (c_m_isGoal hE C t v1 _ h_39) (gm0 t C) rfl rfl rfl rfl rfl ?_ (Nat.zero_add _)
        refine g_if_ne (tgt := 48) d_X12_dies_42 (by decide) (fun c_42 => ?_) (fun c_42 => ?_)
        · replace h := oneg c_42 h
          refine g_aload_n d_X12_dies_48 rfl ?_
          refine g_iload_n d_X12_dies_49 rfl ?_
          obtain ⟨r_50, h_50, h⟩ := obind h
          refine g_callV (As := [.int v1]) d_X12_dies_50 o_X12_pushesTo l_X12_143 ⟨Nat.le_of_ble_eq_true rfl, Nat.le_of_ble_eq_true rfl⟩ (c_m_pushesTo hE C N t v1 _ h_50) (gm0 t C) rfl rfl rfl rfl rfl ?_ (Nat.zero_add _)
          refine g_iconst (v := 0) d_X12_dies_53 (by decide) ?_
          refine g_istore_n (L' := [some (.ref 0), some (.int v1), some (.int 0)]) d_X12_dies_54 rfl rfl ?_
          exact (ih).2.2 v1 0 r_50 _ h
        · replace h := opos c_42 h
          refine g_goto (tgt := 98) d_X12_dies_45 (by decide) ?_
          refine g_iinc (v := (v1 + 1)) (L' := [some (.ref 0), some (.int (v1 + 1)), none]) d_X12_dies_98 rfl rfl rfl ?_
          refine g_goto (tgt := 29) d_X12_dies_101 (by decide) ?_
          exact (ih).2.1 (v1 + 1) t _ h
    · intro v1 v2 t r h
      rw [u_dies_55] at h
      refine g_iload_n d_X12_dies_55 rfl ?_
      refine g_aload_n d_X12_dies_56 rfl ?_
      refine g_callV (As := []) d_X12_dies_57 o_X12_size l_X12_130 ⟨Nat.le_of_ble_eq_true rfl, Nat.le_of_ble_eq_true rfl⟩ (c_m_size hE C t) (gm0 t C) rfl rfl rfl rfl rfl ?_ (Nat.zero_add _)
      refine g_icmp_ge (tgt := 98) d_X12_dies_60 (by decide) (fun c_60 => ?_) (fun c_60 => ?_)
      · replace h := opos c_60 h
        refine g_iinc (v := (v1 + 1)) (L' := [some (.ref 0), some (.int (v1 + 1)), some (.int v2)]) d_X12_dies_98 rfl rfl rfl ?_
        refine g_goto (tgt := 29) d_X12_dies_101 (by decide) ?_
        refine g_drop [2] (L1 := [some (.ref 0), some (.int (v1 + 1)), none]) rfl ?_
        exact (ih).2.1 (v1 + 1) t _ h
      · replace h := oneg c_60 h
        refine g_aload_n d_X12_dies_63 rfl ?_
        refine g_getf d_X12_dies_64 f_X12_38 (gm0 t C) rfl ?_
        refine g_iload_n d_X12_dies_67 rfl ?_
        refine g_aload_n d_X12_dies_68 rfl ?_
        refine g_getf d_X12_dies_69 f_X12_38 (gm0 t C) rfl ?_
        refine g_iload_n d_X12_dies_72 rfl ?_
        obtain ⟨i_73, h⟩ := ochk h
        refine g_zald d_X12_dies_73 (gm_9 t C) (inB_in i_73) ?_
        obtain ⟨r_74, h_74, hh_74⟩ := obind h
        refine Go.trans0 (S1 := (91, [some (.ref 0), some (.int v1), some (.int v2)], [.int r_74, .int v2, .ref 9], (mw t, C))) ?_ ?_
        · replace h := h_74
          clear hh_74
          refine g_if_eq (tgt := 90) d_X12_dies_74 (by decide) (fun c_74 => ?_) (fun c_74 => ?_)
          · replace h := opos c_74 h
            refine g_iconst (v := 0) d_X12_dies_90 (by decide) ?_
            obtain rfl := osome h
            exact g_end rfl
          · replace h := oneg c_74 h
            refine g_aload_n d_X12_dies_77 rfl ?_
            refine g_getf d_X12_dies_78 f_X12_35 (gm0 t C) rfl ?_
            refine g_iload_n d_X12_dies_81 rfl ?_
            obtain ⟨i_82, h⟩ := ochk h
            refine g_iald d_X12_dies_82 (gm_8 t C) (inB_in i_82) ?_
            refine g_if_ge (tgt := 90) d_X12_dies_83 (by decide) (fun c_83 => ?_) (fun c_83 => ?_)
            · replace h := opos c_83 h
              refine g_iconst (v := 0) d_X12_dies_90 (by decide) ?_
              obtain rfl := osome h
              exact g_end rfl
            · replace h := oneg c_83 h
              refine g_iconst (v := 1) d_X12_dies_86 (by decide) ?_
              refine g_goto (tgt := 91) d_X12_dies_87 (by decide) ?_
              obtain rfl := osome h
              exact g_end rfl
        replace h := hh_74
        obtain ⟨i_91, h⟩ := ochk h
        obtain ⟨t_91, e_91, h⟩ := olet h
        refine g_zast (w' := (mw t_91, C)) d_X12_dies_91 (gm_9 t C) (inB_in i_91) (by rw [e_91]; exact st_9 t C _) ?_
        refine g_iinc (v := (v2 + 1)) (L' := [some (.ref 0), some (.int v1), some (.int (v2 + 1))]) d_X12_dies_92 rfl rfl rfl ?_
        refine g_goto (tgt := 55) d_X12_dies_95 (by decide) ?_
        exact (ih).2.2 v1 (v2 + 1) t_91 _ h
theorem c_m_dies {E : mEnv} (hE : E.1.stackTraces = false) (C : List mE) (N : Nat) (t : xT)  (r : xT) (h : f_dies N t = some r) : Rt E M_X12_dies 0 [.ref 0] (mw t, C) none (mw r, C) := by
  unfold f_dies at h
  refine Rt.of hE rfl pn_X12 (Nat.le_of_ble_eq_true rfl) ?_
  refine g_eq (S' := (0, [some (.ref 0), none, none], [], (mw t, C))) rfl ?_
  refine g_iconst (v := 0) d_X12_dies_0 (by decide) ?_
  refine g_istore_n (L' := [some (.ref 0), some (.int 0), none]) d_X12_dies_1 rfl rfl ?_
  exact (l_m_dies hE C N N).1 0 t _ h
def f_walksFrom_L (N : Nat) : Nat → Nat → Int32 → Int32 → Int32 → xT → Option (xT)
  | 0, _, _, _, _, _ => none
  | n + 1, p, v1, v2, v3, t =>
    if p = 2 then (if (f_size t) ≤ v2 then (if inB v1 64 = true then (Option.bind (some (wa t 7 (upd (ra t 7) (Int32.toNatClampNeg v1) 0))) fun t_29 =>
        Option.bind (some (wa t_29 6 (upd (ra t_29 6) (Int32.toNatClampNeg 0) v1))) fun t_36 =>
        Option.bind (some (ws t_36 16 1)) fun t_39 =>
        f_walksFrom_L N n 44 0 0 0 t_39) else none)
      else (if inB v2 64 = true then (Option.bind (some (wa t 7 (upd (ra t 7) (Int32.toNatClampNeg v2) (-1)))) fun t_16 =>
        f_walksFrom_L N n 2 v1 (v2 + 1) 0 t_16) else none))
    else if p = 44 then (if (rs t 16) ≤ v2 then (some t)
      else (f_walksFrom_L N n 54 0 v2 0 t))
    else if p = 54 then (if 4 ≤ v3 then (f_walksFrom_L N n 44 0 (v2 + 1) 0 t)
      else (if inB v2 64 = true then (Option.bind (f_beside t ((ra t 6) (Int32.toNatClampNeg v2)) v3) fun r_67 =>
        Option.bind (f_isOpen t r_67) fun r_75 =>
        Option.bind (if r_75 = 0 then (some t)
          else (Option.bind (f_isBox t r_67) fun r_84 =>
            if r_84 = 0 then (if inB r_67 64 = true then (if 0 ≤ ((ra t 7) (Int32.toNatClampNeg r_67)) then (some t)
              else (if inB v2 64 = true then (if inB ((ra t 6) (Int32.toNatClampNeg v2)) 64 = true then (if inB r_67 64 = true then (Option.bind (some (wa t 7 (upd (ra t 7) (Int32.toNatClampNeg r_67) (((ra t 7) (Int32.toNatClampNeg ((ra t 6) (Int32.toNatClampNeg v2)))) + 1)))) fun t_119 =>
                if inB (rs t_119 16) 64 = true then (Option.bind (some (wa t_119 6 (upd (ra t_119 6) (Int32.toNatClampNeg (rs t_119 16)) r_67))) fun t_130 =>
                Option.bind (some (ws t_130 16 ((rs t_130 16) + 1))) fun t_138 =>
                some t_138) else none) else none) else none) else none)) else none)
            else (some t))) fun (r_78 : xT) =>
        f_walksFrom_L N n 54 0 v2 (v3 + 1) r_78) else none))
    else none
theorem u_walksFrom_2 (N n : Nat) (v1 : Int32) (v2 : Int32) (t : xT) : f_walksFrom_L N (n + 1) 2 v1 v2 0 t = (if (f_size t) ≤ v2 then (if inB v1 64 = true then (Option.bind (some (wa t 7 (upd (ra t 7) (Int32.toNatClampNeg v1) 0))) fun t_29 =>
      Option.bind (some (wa t_29 6 (upd (ra t_29 6) (Int32.toNatClampNeg 0) v1))) fun t_36 =>
      Option.bind (some (ws t_36 16 1)) fun t_39 =>
      f_walksFrom_L N n 44 0 0 0 t_39) else none)
    else (if inB v2 64 = true then (Option.bind (some (wa t 7 (upd (ra t 7) (Int32.toNatClampNeg v2) (-1)))) fun t_16 =>
      f_walksFrom_L N n 2 v1 (v2 + 1) 0 t_16) else none)) := rfl
theorem u_walksFrom_44 (N n : Nat) (v2 : Int32) (t : xT) : f_walksFrom_L N (n + 1) 44 0 v2 0 t = (if (rs t 16) ≤ v2 then (some t)
    else (f_walksFrom_L N n 54 0 v2 0 t)) := rfl
theorem u_walksFrom_54 (N n : Nat) (v2 : Int32) (v3 : Int32) (t : xT) : f_walksFrom_L N (n + 1) 54 0 v2 v3 t = (if 4 ≤ v3 then (f_walksFrom_L N n 44 0 (v2 + 1) 0 t)
    else (if inB v2 64 = true then (Option.bind (f_beside t ((ra t 6) (Int32.toNatClampNeg v2)) v3) fun r_67 =>
      Option.bind (f_isOpen t r_67) fun r_75 =>
      Option.bind (if r_75 = 0 then (some t)
        else (Option.bind (f_isBox t r_67) fun r_84 =>
          if r_84 = 0 then (if inB r_67 64 = true then (if 0 ≤ ((ra t 7) (Int32.toNatClampNeg r_67)) then (some t)
            else (if inB v2 64 = true then (if inB ((ra t 6) (Int32.toNatClampNeg v2)) 64 = true then (if inB r_67 64 = true then (Option.bind (some (wa t 7 (upd (ra t 7) (Int32.toNatClampNeg r_67) (((ra t 7) (Int32.toNatClampNeg ((ra t 6) (Int32.toNatClampNeg v2)))) + 1)))) fun t_119 =>
              if inB (rs t_119 16) 64 = true then (Option.bind (some (wa t_119 6 (upd (ra t_119 6) (Int32.toNatClampNeg (rs t_119 16)) r_67))) fun t_130 =>
              Option.bind (some (ws t_130 16 ((rs t_130 16) + 1))) fun t_138 =>
              some t_138) else none) else none) else none) else none)) else none)
          else (some t))) fun (r_78 : xT) =>
      f_walksFrom_L N n 54 0 v2 (v3 + 1) r_78) else none)) := rfl
def f_walksFrom (N : Nat) (t : xT) (a0 : Int32) : Option (xT) :=
  f_walksFrom_L N N 2 a0 0 0 t
theorem d_X12_walksFrom_0 : decode (mB M_X12_walksFrom) 0 = .ok (.iconst 0, 1) := by decide +kernel
theorem d_X12_walksFrom_1 : decode (mB M_X12_walksFrom) 1 = .ok (.istore_n 2, 1) := by decide +kernel
theorem d_X12_walksFrom_2 : decode (mB M_X12_walksFrom) 2 = .ok (.iload_n 2, 1) := by decide +kernel
theorem d_X12_walksFrom_3 : decode (mB M_X12_walksFrom) 3 = .ok (.aload_n 0, 1) := by decide +kernel
theorem d_X12_walksFrom_4 : decode (mB M_X12_walksFrom) 4 = .ok (.invokevirtual 130, 3) := by decide +kernel
theorem d_X12_walksFrom_7 : decode (mB M_X12_walksFrom) 7 = .ok (.if_icmp .ge 16, 3) := by decide +kernel
theorem d_X12_walksFrom_10 : decode (mB M_X12_walksFrom) 10 = .ok (.aload_n 0, 1) := by decide +kernel
theorem d_X12_walksFrom_11 : decode (mB M_X12_walksFrom) 11 = .ok (.getfield 32, 3) := by decide +kernel
theorem d_X12_walksFrom_14 : decode (mB M_X12_walksFrom) 14 = .ok (.iload_n 2, 1) := by decide +kernel
theorem d_X12_walksFrom_15 : decode (mB M_X12_walksFrom) 15 = .ok (.iconst (-1), 1) := by decide +kernel
theorem d_X12_walksFrom_16 : decode (mB M_X12_walksFrom) 16 = .ok (.iastore, 1) := by decide +kernel
theorem d_X12_walksFrom_17 : decode (mB M_X12_walksFrom) 17 = .ok (.iinc 2 1, 3) := by decide +kernel
theorem d_X12_walksFrom_20 : decode (mB M_X12_walksFrom) 20 = .ok (.goto (-18), 3) := by decide +kernel
theorem d_X12_walksFrom_23 : decode (mB M_X12_walksFrom) 23 = .ok (.aload_n 0, 1) := by decide +kernel
theorem d_X12_walksFrom_24 : decode (mB M_X12_walksFrom) 24 = .ok (.getfield 32, 3) := by decide +kernel
theorem d_X12_walksFrom_27 : decode (mB M_X12_walksFrom) 27 = .ok (.iload_n 1, 1) := by decide +kernel
theorem d_X12_walksFrom_28 : decode (mB M_X12_walksFrom) 28 = .ok (.iconst 0, 1) := by decide +kernel
theorem d_X12_walksFrom_29 : decode (mB M_X12_walksFrom) 29 = .ok (.iastore, 1) := by decide +kernel
theorem d_X12_walksFrom_30 : decode (mB M_X12_walksFrom) 30 = .ok (.aload_n 0, 1) := by decide +kernel
theorem d_X12_walksFrom_31 : decode (mB M_X12_walksFrom) 31 = .ok (.getfield 29, 3) := by decide +kernel
theorem d_X12_walksFrom_34 : decode (mB M_X12_walksFrom) 34 = .ok (.iconst 0, 1) := by decide +kernel
theorem d_X12_walksFrom_35 : decode (mB M_X12_walksFrom) 35 = .ok (.iload_n 1, 1) := by decide +kernel
theorem d_X12_walksFrom_36 : decode (mB M_X12_walksFrom) 36 = .ok (.iastore, 1) := by decide +kernel
theorem d_X12_walksFrom_37 : decode (mB M_X12_walksFrom) 37 = .ok (.aload_n 0, 1) := by decide +kernel
theorem d_X12_walksFrom_38 : decode (mB M_X12_walksFrom) 38 = .ok (.iconst 1, 1) := by decide +kernel
theorem d_X12_walksFrom_39 : decode (mB M_X12_walksFrom) 39 = .ok (.putfield 133, 3) := by decide +kernel
theorem d_X12_walksFrom_42 : decode (mB M_X12_walksFrom) 42 = .ok (.iconst 0, 1) := by decide +kernel
theorem d_X12_walksFrom_43 : decode (mB M_X12_walksFrom) 43 = .ok (.istore_n 2, 1) := by decide +kernel
theorem d_X12_walksFrom_44 : decode (mB M_X12_walksFrom) 44 = .ok (.iload_n 2, 1) := by decide +kernel
theorem d_X12_walksFrom_45 : decode (mB M_X12_walksFrom) 45 = .ok (.aload_n 0, 1) := by decide +kernel
theorem d_X12_walksFrom_46 : decode (mB M_X12_walksFrom) 46 = .ok (.getfield 133, 3) := by decide +kernel
theorem d_X12_walksFrom_49 : decode (mB M_X12_walksFrom) 49 = .ok (.if_icmp .ge 104, 3) := by decide +kernel
theorem d_X12_walksFrom_52 : decode (mB M_X12_walksFrom) 52 = .ok (.iconst 0, 1) := by decide +kernel
theorem d_X12_walksFrom_53 : decode (mB M_X12_walksFrom) 53 = .ok (.istore_n 3, 1) := by decide +kernel
theorem d_X12_walksFrom_54 : decode (mB M_X12_walksFrom) 54 = .ok (.iload_n 3, 1) := by decide +kernel
theorem d_X12_walksFrom_55 : decode (mB M_X12_walksFrom) 55 = .ok (.iconst 4, 1) := by decide +kernel
theorem d_X12_walksFrom_56 : decode (mB M_X12_walksFrom) 56 = .ok (.if_icmp .ge 91, 3) := by decide +kernel
theorem d_X12_walksFrom_59 : decode (mB M_X12_walksFrom) 59 = .ok (.aload_n 0, 1) := by decide +kernel
theorem d_X12_walksFrom_60 : decode (mB M_X12_walksFrom) 60 = .ok (.aload_n 0, 1) := by decide +kernel
theorem d_X12_walksFrom_61 : decode (mB M_X12_walksFrom) 61 = .ok (.getfield 29, 3) := by decide +kernel
theorem d_X12_walksFrom_64 : decode (mB M_X12_walksFrom) 64 = .ok (.iload_n 2, 1) := by decide +kernel
theorem d_X12_walksFrom_65 : decode (mB M_X12_walksFrom) 65 = .ok (.iaload, 1) := by decide +kernel
theorem d_X12_walksFrom_66 : decode (mB M_X12_walksFrom) 66 = .ok (.iload_n 3, 1) := by decide +kernel
theorem d_X12_walksFrom_67 : decode (mB M_X12_walksFrom) 67 = .ok (.invokevirtual 136, 3) := by decide +kernel
theorem d_X12_walksFrom_70 : decode (mB M_X12_walksFrom) 70 = .ok (.istore 4, 2) := by decide +kernel
theorem d_X12_walksFrom_72 : decode (mB M_X12_walksFrom) 72 = .ok (.aload_n 0, 1) := by decide +kernel
theorem d_X12_walksFrom_73 : decode (mB M_X12_walksFrom) 73 = .ok (.iload 4, 2) := by decide +kernel
theorem d_X12_walksFrom_75 : decode (mB M_X12_walksFrom) 75 = .ok (.invokevirtual 121, 3) := by decide +kernel
theorem d_X12_walksFrom_78 : decode (mB M_X12_walksFrom) 78 = .ok (.ifCond .eq 63, 3) := by decide +kernel
theorem d_X12_walksFrom_81 : decode (mB M_X12_walksFrom) 81 = .ok (.aload_n 0, 1) := by decide +kernel
theorem d_X12_walksFrom_82 : decode (mB M_X12_walksFrom) 82 = .ok (.iload 4, 2) := by decide +kernel
theorem d_X12_walksFrom_84 : decode (mB M_X12_walksFrom) 84 = .ok (.invokevirtual 124, 3) := by decide +kernel
theorem d_X12_walksFrom_87 : decode (mB M_X12_walksFrom) 87 = .ok (.ifCond .ne 54, 3) := by decide +kernel
theorem d_X12_walksFrom_90 : decode (mB M_X12_walksFrom) 90 = .ok (.aload_n 0, 1) := by decide +kernel
theorem d_X12_walksFrom_91 : decode (mB M_X12_walksFrom) 91 = .ok (.getfield 32, 3) := by decide +kernel
theorem d_X12_walksFrom_94 : decode (mB M_X12_walksFrom) 94 = .ok (.iload 4, 2) := by decide +kernel
theorem d_X12_walksFrom_96 : decode (mB M_X12_walksFrom) 96 = .ok (.iaload, 1) := by decide +kernel
theorem d_X12_walksFrom_97 : decode (mB M_X12_walksFrom) 97 = .ok (.ifCond .ge 44, 3) := by decide +kernel
theorem d_X12_walksFrom_100 : decode (mB M_X12_walksFrom) 100 = .ok (.aload_n 0, 1) := by decide +kernel
theorem d_X12_walksFrom_101 : decode (mB M_X12_walksFrom) 101 = .ok (.getfield 32, 3) := by decide +kernel
theorem d_X12_walksFrom_104 : decode (mB M_X12_walksFrom) 104 = .ok (.iload 4, 2) := by decide +kernel
theorem d_X12_walksFrom_106 : decode (mB M_X12_walksFrom) 106 = .ok (.aload_n 0, 1) := by decide +kernel
theorem d_X12_walksFrom_107 : decode (mB M_X12_walksFrom) 107 = .ok (.getfield 32, 3) := by decide +kernel
theorem d_X12_walksFrom_110 : decode (mB M_X12_walksFrom) 110 = .ok (.aload_n 0, 1) := by decide +kernel
theorem d_X12_walksFrom_111 : decode (mB M_X12_walksFrom) 111 = .ok (.getfield 29, 3) := by decide +kernel
theorem d_X12_walksFrom_114 : decode (mB M_X12_walksFrom) 114 = .ok (.iload_n 2, 1) := by decide +kernel
theorem d_X12_walksFrom_115 : decode (mB M_X12_walksFrom) 115 = .ok (.iaload, 1) := by decide +kernel
theorem d_X12_walksFrom_116 : decode (mB M_X12_walksFrom) 116 = .ok (.iaload, 1) := by decide +kernel
theorem d_X12_walksFrom_117 : decode (mB M_X12_walksFrom) 117 = .ok (.iconst 1, 1) := by decide +kernel
theorem d_X12_walksFrom_118 : decode (mB M_X12_walksFrom) 118 = .ok (.iadd, 1) := by decide +kernel
theorem d_X12_walksFrom_119 : decode (mB M_X12_walksFrom) 119 = .ok (.iastore, 1) := by decide +kernel
theorem d_X12_walksFrom_120 : decode (mB M_X12_walksFrom) 120 = .ok (.aload_n 0, 1) := by decide +kernel
theorem d_X12_walksFrom_121 : decode (mB M_X12_walksFrom) 121 = .ok (.getfield 29, 3) := by decide +kernel
theorem d_X12_walksFrom_124 : decode (mB M_X12_walksFrom) 124 = .ok (.aload_n 0, 1) := by decide +kernel
theorem d_X12_walksFrom_125 : decode (mB M_X12_walksFrom) 125 = .ok (.getfield 133, 3) := by decide +kernel
theorem d_X12_walksFrom_128 : decode (mB M_X12_walksFrom) 128 = .ok (.iload 4, 2) := by decide +kernel
theorem d_X12_walksFrom_130 : decode (mB M_X12_walksFrom) 130 = .ok (.iastore, 1) := by decide +kernel
theorem d_X12_walksFrom_131 : decode (mB M_X12_walksFrom) 131 = .ok (.aload_n 0, 1) := by decide +kernel
theorem d_X12_walksFrom_132 : decode (mB M_X12_walksFrom) 132 = .ok (.dup, 1) := by decide +kernel
theorem d_X12_walksFrom_133 : decode (mB M_X12_walksFrom) 133 = .ok (.getfield 133, 3) := by decide +kernel
theorem d_X12_walksFrom_136 : decode (mB M_X12_walksFrom) 136 = .ok (.iconst 1, 1) := by decide +kernel
theorem d_X12_walksFrom_137 : decode (mB M_X12_walksFrom) 137 = .ok (.iadd, 1) := by decide +kernel
theorem d_X12_walksFrom_138 : decode (mB M_X12_walksFrom) 138 = .ok (.putfield 133, 3) := by decide +kernel
theorem d_X12_walksFrom_141 : decode (mB M_X12_walksFrom) 141 = .ok (.iinc 3 1, 3) := by decide +kernel
theorem d_X12_walksFrom_144 : decode (mB M_X12_walksFrom) 144 = .ok (.goto (-90), 3) := by decide +kernel
theorem d_X12_walksFrom_147 : decode (mB M_X12_walksFrom) 147 = .ok (.iinc 2 1, 3) := by decide +kernel
theorem d_X12_walksFrom_150 : decode (mB M_X12_walksFrom) 150 = .ok (.goto (-106), 3) := by decide +kernel
theorem d_X12_walksFrom_153 : decode (mB M_X12_walksFrom) 153 = .ok (.return_, 1) := by decide +kernel
theorem l_m_walksFrom {E : mEnv} (hE : E.1.stackTraces = false) (C : List mE) (N : Nat) : ∀ n : Nat, (∀ (v1 : Int32) (v2 : Int32) (t : xT) (r : xT), f_walksFrom_L N n 2 v1 v2 0 t = some r → Go E M_X12_walksFrom 0 (2, [some (.ref 0), some (.int v1), some (.int v2), none, none], [], (mw t, C)) (.inr (.inl (none, (mw r, C))))) ∧ (∀ (v2 : Int32) (t : xT) (r : xT), f_walksFrom_L N n 44 0 v2 0 t = some r → Go E M_X12_walksFrom 0 (44, [some (.ref 0), none, some (.int v2), none, none], [], (mw t, C)) (.inr (.inl (none, (mw r, C))))) ∧ (∀ (v2 : Int32) (v3 : Int32) (t : xT) (r : xT), f_walksFrom_L N n 54 0 v2 v3 t = some r → Go E M_X12_walksFrom 0 (54, [some (.ref 0), none, some (.int v2), some (.int v3), none], [], (mw t, C)) (.inr (.inl (none, (mw r, C))))) := by
  intro n
  induction n with
  | zero => exact ⟨(fun v1 v2 t r h => by cases h), (fun v2 t r h => by cases h), (fun v2 v3 t r h => by cases h)⟩
  | succ n ih =>
    refine ⟨?_, ?_, ?_⟩
    · intro v1 v2 t r h
      rw [u_walksFrom_2] at h
      refine g_iload_n d_X12_walksFrom_2 rfl ?_
      refine g_aload_n d_X12_walksFrom_3 rfl ?_
      refine g_callV (As := []) d_X12_walksFrom_4 o_X12_size l_X12_130 ⟨Nat.le_of_ble_eq_true rfl, Nat.le_of_ble_eq_true rfl⟩ (c_m_size hE C t) (gm0 t C) rfl rfl rfl rfl rfl ?_ (Nat.zero_add _)
      refine g_icmp_ge (tgt := 23) d_X12_walksFrom_7 (by decide) (fun c_7 => ?_) (fun c_7 => ?_)
      · replace h := opos c_7 h
        refine g_aload_n d_X12_walksFrom_23 rfl ?_
        refine g_getf d_X12_walksFrom_24 f_X12_32 (gm0 t C) rfl ?_
        refine g_iload_n d_X12_walksFrom_27 rfl ?_
        refine g_iconst (v := 0) d_X12_walksFrom_28 (by decide) ?_
        obtain ⟨i_29, h⟩ := ochk h
        obtain ⟨t_29, e_29, h⟩ := olet h
        refine g_iast (w' := (mw t_29, C)) d_X12_walksFrom_29 (gm_7 t C) (inB_in i_29) (by rw [e_29]; exact st_7 t C _) ?_
        refine g_aload_n d_X12_walksFrom_30 rfl ?_
        refine g_getf d_X12_walksFrom_31 f_X12_29 (gm0 t_29 C) rfl ?_
        refine g_iconst (v := 0) d_X12_walksFrom_34 (by decide) ?_
        refine g_iload_n d_X12_walksFrom_35 rfl ?_
        obtain ⟨t_36, e_36, h⟩ := olet h
        refine g_iast (w' := (mw t_36, C)) d_X12_walksFrom_36 (gm_6 t_29 C) (inB_in (by decide)) (by rw [e_36]; exact st_6 t_29 C _) ?_
        refine g_aload_n d_X12_walksFrom_37 rfl ?_
        refine g_iconst (v := 1) d_X12_walksFrom_38 (by decide) ?_
        obtain ⟨t_39, e_39, h⟩ := olet h
        refine g_putI (w' := (mw t_39, C)) d_X12_walksFrom_39 p_X12_133 rfl rfl (gm0 t_36 C) (Nat.le_of_ble_eq_true rfl) (by rw [e_39]; exact sc_16 t_36 C _) ?_
        refine g_iconst (v := 0) d_X12_walksFrom_42 (by decide) ?_
        refine g_istore_n (L' := [some (.ref 0), some (.int v1), some (.int 0), none, none]) d_X12_walksFrom_43 rfl rfl ?_
        refine g_drop [1] (L1 := [some (.ref 0), none, some (.int 0), none, none]) rfl ?_
        exact (ih).2.1 0 t_39 _ h
      · replace h := oneg c_7 h
        refine g_aload_n d_X12_walksFrom_10 rfl ?_
        refine g_getf d_X12_walksFrom_11 f_X12_32 (gm0 t C) rfl ?_
        refine g_iload_n d_X12_walksFrom_14 rfl ?_
        refine g_iconst (v := (-1)) d_X12_walksFrom_15 (by decide) ?_
        obtain ⟨i_16, h⟩ := ochk h
        obtain ⟨t_16, e_16, h⟩ := olet h
        refine g_iast (w' := (mw t_16, C)) d_X12_walksFrom_16 (gm_7 t C) (inB_in i_16) (by rw [e_16]; exact st_7 t C _) ?_
        refine g_iinc (v := (v2 + 1)) (L' := [some (.ref 0), some (.int v1), some (.int (v2 + 1)), none, none]) d_X12_walksFrom_17 rfl rfl rfl ?_
        refine g_goto (tgt := 2) d_X12_walksFrom_20 (by decide) ?_
        exact (ih).1 v1 (v2 + 1) t_16 _ h
    · intro v2 t r h
      rw [u_walksFrom_44] at h
      refine g_iload_n d_X12_walksFrom_44 rfl ?_
      refine g_aload_n d_X12_walksFrom_45 rfl ?_
      refine g_getf d_X12_walksFrom_46 f_X12_133 (gm0 t C) rfl ?_
      refine g_icmp_ge (tgt := 153) d_X12_walksFrom_49 (by decide) (fun c_49 => ?_) (fun c_49 => ?_)
      · replace h := opos c_49 h
        obtain rfl := osome h
        exact g_retV d_X12_walksFrom_153 rfl rfl
      · replace h := oneg c_49 h
        refine g_iconst (v := 0) d_X12_walksFrom_52 (by decide) ?_
        refine g_istore_n (L' := [some (.ref 0), none, some (.int v2), some (.int 0), none]) d_X12_walksFrom_53 rfl rfl ?_
        exact (ih).2.2 v2 0 t _ h
    · intro v2 v3 t r h
      rw [u_walksFrom_54] at h
      refine g_iload_n d_X12_walksFrom_54 rfl ?_
      refine g_iconst (v := 4) d_X12_walksFrom_55 (by decide) ?_
      refine g_icmp_ge (tgt := 147) d_X12_walksFrom_56 (by decide) (fun c_56 => ?_) (fun c_56 => ?_)
      · replace h := opos c_56 h
        refine g_iinc (v := (v2 + 1)) (L' := [some (.ref 0), none, some (.int (v2 + 1)), some (.int v3), none]) d_X12_walksFrom_147 rfl rfl rfl ?_
        refine g_goto (tgt := 44) d_X12_walksFrom_150 (by decide) ?_
        refine g_drop [3] (L1 := [some (.ref 0), none, some (.int (v2 + 1)), none, none]) rfl ?_
        exact (ih).2.1 (v2 + 1) t _ h
      · replace h := oneg c_56 h
        refine g_aload_n d_X12_walksFrom_59 rfl ?_
        refine g_aload_n d_X12_walksFrom_60 rfl ?_
        refine g_getf d_X12_walksFrom_61 f_X12_29 (gm0 t C) rfl ?_
        refine g_iload_n d_X12_walksFrom_64 rfl ?_
        obtain ⟨i_65, h⟩ := ochk h
        refine g_iald d_X12_walksFrom_65 (gm_6 t C) (inB_in i_65) ?_
        refine g_iload_n d_X12_walksFrom_66 rfl ?_
        obtain ⟨r_67, h_67, h⟩ := obind h
        refine g_callV (As := [.int ((ra t 6) (Int32.toNatClampNeg v2)), .int v3]) d_X12_walksFrom_67 o_X12_beside l_X12_136 ⟨Nat.le_of_ble_eq_true rfl, Nat.le_of_ble_eq_true rfl⟩ (c_m_beside hE C t ((ra t 6) (Int32.toNatClampNeg v2)) v3 _ h_67) (gm0 t C) rfl rfl rfl rfl rfl ?_ (Nat.zero_add _)
        refine g_istore (L' := [some (.ref 0), none, some (.int v2), some (.int v3), some (.int r_67)]) d_X12_walksFrom_70 rfl rfl ?_
        refine g_aload_n d_X12_walksFrom_72 rfl ?_
        refine g_iload d_X12_walksFrom_73 rfl ?_
        obtain ⟨r_75, h_75, h⟩ := obind h
        refine g_callV (As := [.int r_67]) d_X12_walksFrom_75 o_X12_isOpen l_X12_121 ⟨Nat.le_of_ble_eq_true rfl, Nat.le_of_ble_eq_true rfl⟩ (c_m_isOpen hE C t r_67 _ h_75) (gm0 t C) rfl rfl rfl rfl rfl ?_ (Nat.zero_add _)
        obtain ⟨r_78, h_78, hh_78⟩ := obind h
        refine Go.trans0 (S1 := (141, [some (.ref 0), none, some (.int v2), some (.int v3), none], [], (mw r_78, C))) ?_ ?_
        · replace h := h_78
          clear hh_78
          refine g_if_eq (tgt := 141) d_X12_walksFrom_78 (by decide) (fun c_78 => ?_) (fun c_78 => ?_)
          · replace h := opos c_78 h
            obtain rfl := osome h
            exact g_drop [4] rfl (g_end rfl)
          · replace h := oneg c_78 h
            refine g_aload_n d_X12_walksFrom_81 rfl ?_
            refine g_iload d_X12_walksFrom_82 rfl ?_
            obtain ⟨r_84, h_84, h⟩ := obind h
            refine g_callV (As := [.int r_67]) d_X12_walksFrom_84 o_X12_isBox l_X12_124 ⟨Nat.le_of_ble_eq_true rfl, Nat.le_of_ble_eq_true rfl⟩ (c_m_isBox hE C t r_67 _ h_84) (gm0 t C) rfl rfl rfl rfl rfl ?_ (Nat.zero_add _)
            refine g_if_ne (tgt := 141) d_X12_walksFrom_87 (by decide) (fun c_87 => ?_) (fun c_87 => ?_)
            · replace h := oneg c_87 h
              obtain rfl := osome h
              exact g_drop [4] rfl (g_end rfl)
            · replace h := opos c_87 h
              refine g_aload_n d_X12_walksFrom_90 rfl ?_
              refine g_getf d_X12_walksFrom_91 f_X12_32 (gm0 t C) rfl ?_
              refine g_iload d_X12_walksFrom_94 rfl ?_
              obtain ⟨i_96, h⟩ := ochk h
              refine g_iald d_X12_walksFrom_96 (gm_7 t C) (inB_in i_96) ?_
              refine g_if_ge (tgt := 141) d_X12_walksFrom_97 (by decide) (fun c_97 => ?_) (fun c_97 => ?_)
              · replace h := opos c_97 h
                obtain rfl := osome h
                exact g_drop [4] rfl (g_end rfl)
              · replace h := oneg c_97 h
                refine g_aload_n d_X12_walksFrom_100 rfl ?_
                refine g_getf d_X12_walksFrom_101 f_X12_32 (gm0 t C) rfl ?_
                refine g_iload d_X12_walksFrom_104 rfl ?_
                refine g_aload_n d_X12_walksFrom_106 rfl ?_
                refine g_getf d_X12_walksFrom_107 f_X12_32 (gm0 t C) rfl ?_
                refine g_aload_n d_X12_walksFrom_110 rfl ?_
                refine g_getf d_X12_walksFrom_111 f_X12_29 (gm0 t C) rfl ?_
                refine g_iload_n d_X12_walksFrom_114 rfl ?_
                obtain ⟨i_115, h⟩ := ochk h
                refine g_iald d_X12_walksFrom_115 (gm_6 t C) (inB_in i_115) ?_
                obtain ⟨i_116, h⟩ := ochk h
                refine g_iald d_X12_walksFrom_116 (gm_7 t C) (inB_in i_116) ?_
                refine g_iconst (v := 1) d_X12_walksFrom_117 (by decide) ?_
                refine g_iadd d_X12_walksFrom_118 ?_
                obtain ⟨i_119, h⟩ := ochk h
                obtain ⟨t_119, e_119, h⟩ := olet h
                refine g_iast (w' := (mw t_119, C)) d_X12_walksFrom_119 (gm_7 t C) (inB_in i_119) (by rw [e_119]; exact st_7 t C _) ?_
                refine g_aload_n d_X12_walksFrom_120 rfl ?_
                refine g_getf d_X12_walksFrom_121 f_X12_29 (gm0 t_119 C) rfl ?_
                refine g_aload_n d_X12_walksFrom_124 rfl ?_
                refine g_getf d_X12_walksFrom_125 f_X12_133 (gm0 t_119 C) rfl ?_
                refine g_iload d_X12_walksFrom_128 rfl ?_
                obtain ⟨i_130, h⟩ := ochk h
                obtain ⟨t_130, e_130, h⟩ := olet h
                refine g_iast (w' := (mw t_130, C)) d_X12_walksFrom_130 (gm_6 t_119 C) (inB_in i_130) (by rw [e_130]; exact st_6 t_119 C _) ?_
                refine g_aload_n d_X12_walksFrom_131 rfl ?_
                refine g_dup d_X12_walksFrom_132 rfl ?_
                refine g_getf d_X12_walksFrom_133 f_X12_133 (gm0 t_130 C) rfl ?_
                refine g_iconst (v := 1) d_X12_walksFrom_136 (by decide) ?_
                refine g_iadd d_X12_walksFrom_137 ?_
                obtain ⟨t_138, e_138, h⟩ := olet h
                refine g_putI (w' := (mw t_138, C)) d_X12_walksFrom_138 p_X12_133 rfl rfl (gm0 t_130 C) (Nat.le_of_ble_eq_true rfl) (by rw [e_138]; exact sc_16 t_130 C _) ?_
                obtain rfl := osome h
                exact g_drop [4] rfl (g_end rfl)
        replace h := hh_78
        refine g_iinc (v := (v3 + 1)) (L' := [some (.ref 0), none, some (.int v2), some (.int (v3 + 1)), none]) d_X12_walksFrom_141 rfl rfl rfl ?_
        refine g_goto (tgt := 54) d_X12_walksFrom_144 (by decide) ?_
        exact (ih).2.2 v2 (v3 + 1) r_78 _ h
theorem c_m_walksFrom {E : mEnv} (hE : E.1.stackTraces = false) (C : List mE) (N : Nat) (t : xT) (a0 : Int32) (r : xT) (h : f_walksFrom N t a0 = some r) : Rt E M_X12_walksFrom 0 [.ref 0, .int a0] (mw t, C) none (mw r, C) := by
  unfold f_walksFrom at h
  refine Rt.of hE rfl pn_X12 (Nat.le_of_ble_eq_true rfl) ?_
  refine g_eq (S' := (0, [some (.ref 0), some (.int a0), none, none, none], [], (mw t, C))) rfl ?_
  refine g_iconst (v := 0) d_X12_walksFrom_0 (by decide) ?_
  refine g_istore_n (L' := [some (.ref 0), some (.int a0), some (.int 0), none, none]) d_X12_walksFrom_1 rfl rfl ?_
  exact (l_m_walksFrom hE C N N).1 a0 0 t _ h
def f_isBlocked (t : xT) (a0 : Int32) (a1 : Int32) : Option (Int32) :=
  Option.bind (f_beside t a0 a1) fun r_3 =>
  Option.bind (f_opposite a1) fun r_10 =>
  Option.bind (f_beside t a0 r_10) fun r_13 =>
  Option.bind (f_isOpen t r_3) fun r_20 =>
  if r_20 = 0 then (some (1 : Int32))
  else (Option.bind (f_isOpen t r_13) fun r_29 =>
    if r_29 = 0 then (some (1 : Int32))
    else (if inB r_3 64 = true then (if ((ra t 10) (Int32.toNatClampNeg r_3)) = 0 then (if inB r_13 64 = true then (if ((ra t 10) (Int32.toNatClampNeg r_13)) = 0 then (if inB r_3 64 = true then (Option.bind (if ((ra t 9) (Int32.toNatClampNeg r_3)) = 0 then (some (0 : Int32))
            else (if inB r_13 64 = true then (if ((ra t 9) (Int32.toNatClampNeg r_13)) = 0 then (some (0 : Int32))
              else (some (1 : Int32))) else none)) fun (r_62 : Int32) =>
          if r_62 &&& 1 = r_62 then (some r_62) else none) else none)
        else (some (1 : Int32))) else none)
      else (some (1 : Int32))) else none))
theorem d_X12_isBlocked_0 : decode (mB M_X12_isBlocked) 0 = .ok (.aload_n 0, 1) := by decide +kernel
theorem d_X12_isBlocked_1 : decode (mB M_X12_isBlocked) 1 = .ok (.iload_n 1, 1) := by decide +kernel
theorem d_X12_isBlocked_2 : decode (mB M_X12_isBlocked) 2 = .ok (.iload_n 2, 1) := by decide +kernel
theorem d_X12_isBlocked_3 : decode (mB M_X12_isBlocked) 3 = .ok (.invokevirtual 136, 3) := by decide +kernel
theorem d_X12_isBlocked_6 : decode (mB M_X12_isBlocked) 6 = .ok (.istore_n 3, 1) := by decide +kernel
theorem d_X12_isBlocked_7 : decode (mB M_X12_isBlocked) 7 = .ok (.aload_n 0, 1) := by decide +kernel
theorem d_X12_isBlocked_8 : decode (mB M_X12_isBlocked) 8 = .ok (.iload_n 1, 1) := by decide +kernel
theorem d_X12_isBlocked_9 : decode (mB M_X12_isBlocked) 9 = .ok (.iload_n 2, 1) := by decide +kernel
theorem d_X12_isBlocked_10 : decode (mB M_X12_isBlocked) 10 = .ok (.invokestatic 140, 3) := by decide +kernel
theorem d_X12_isBlocked_13 : decode (mB M_X12_isBlocked) 13 = .ok (.invokevirtual 136, 3) := by decide +kernel
theorem d_X12_isBlocked_16 : decode (mB M_X12_isBlocked) 16 = .ok (.istore 4, 2) := by decide +kernel
theorem d_X12_isBlocked_18 : decode (mB M_X12_isBlocked) 18 = .ok (.aload_n 0, 1) := by decide +kernel
theorem d_X12_isBlocked_19 : decode (mB M_X12_isBlocked) 19 = .ok (.iload_n 3, 1) := by decide +kernel
theorem d_X12_isBlocked_20 : decode (mB M_X12_isBlocked) 20 = .ok (.invokevirtual 121, 3) := by decide +kernel
theorem d_X12_isBlocked_23 : decode (mB M_X12_isBlocked) 23 = .ok (.ifCond .eq 31, 3) := by decide +kernel
theorem d_X12_isBlocked_26 : decode (mB M_X12_isBlocked) 26 = .ok (.aload_n 0, 1) := by decide +kernel
theorem d_X12_isBlocked_27 : decode (mB M_X12_isBlocked) 27 = .ok (.iload 4, 2) := by decide +kernel
theorem d_X12_isBlocked_29 : decode (mB M_X12_isBlocked) 29 = .ok (.invokevirtual 121, 3) := by decide +kernel
theorem d_X12_isBlocked_32 : decode (mB M_X12_isBlocked) 32 = .ok (.ifCond .eq 22, 3) := by decide +kernel
theorem d_X12_isBlocked_35 : decode (mB M_X12_isBlocked) 35 = .ok (.aload_n 0, 1) := by decide +kernel
theorem d_X12_isBlocked_36 : decode (mB M_X12_isBlocked) 36 = .ok (.getfield 42, 3) := by decide +kernel
theorem d_X12_isBlocked_39 : decode (mB M_X12_isBlocked) 39 = .ok (.iload_n 3, 1) := by decide +kernel
theorem d_X12_isBlocked_40 : decode (mB M_X12_isBlocked) 40 = .ok (.baload, 1) := by decide +kernel
theorem d_X12_isBlocked_41 : decode (mB M_X12_isBlocked) 41 = .ok (.ifCond .ne 13, 3) := by decide +kernel
theorem d_X12_isBlocked_44 : decode (mB M_X12_isBlocked) 44 = .ok (.aload_n 0, 1) := by decide +kernel
theorem d_X12_isBlocked_45 : decode (mB M_X12_isBlocked) 45 = .ok (.getfield 42, 3) := by decide +kernel
theorem d_X12_isBlocked_48 : decode (mB M_X12_isBlocked) 48 = .ok (.iload 4, 2) := by decide +kernel
theorem d_X12_isBlocked_50 : decode (mB M_X12_isBlocked) 50 = .ok (.baload, 1) := by decide +kernel
theorem d_X12_isBlocked_51 : decode (mB M_X12_isBlocked) 51 = .ok (.ifCond .eq 5, 3) := by decide +kernel
theorem d_X12_isBlocked_54 : decode (mB M_X12_isBlocked) 54 = .ok (.iconst 1, 1) := by decide +kernel
theorem d_X12_isBlocked_55 : decode (mB M_X12_isBlocked) 55 = .ok (.ireturn, 1) := by decide +kernel
theorem d_X12_isBlocked_56 : decode (mB M_X12_isBlocked) 56 = .ok (.aload_n 0, 1) := by decide +kernel
theorem d_X12_isBlocked_57 : decode (mB M_X12_isBlocked) 57 = .ok (.getfield 38, 3) := by decide +kernel
theorem d_X12_isBlocked_60 : decode (mB M_X12_isBlocked) 60 = .ok (.iload_n 3, 1) := by decide +kernel
theorem d_X12_isBlocked_61 : decode (mB M_X12_isBlocked) 61 = .ok (.baload, 1) := by decide +kernel
theorem d_X12_isBlocked_62 : decode (mB M_X12_isBlocked) 62 = .ok (.ifCond .eq 17, 3) := by decide +kernel
theorem d_X12_isBlocked_65 : decode (mB M_X12_isBlocked) 65 = .ok (.aload_n 0, 1) := by decide +kernel
theorem d_X12_isBlocked_66 : decode (mB M_X12_isBlocked) 66 = .ok (.getfield 38, 3) := by decide +kernel
theorem d_X12_isBlocked_69 : decode (mB M_X12_isBlocked) 69 = .ok (.iload 4, 2) := by decide +kernel
theorem d_X12_isBlocked_71 : decode (mB M_X12_isBlocked) 71 = .ok (.baload, 1) := by decide +kernel
theorem d_X12_isBlocked_72 : decode (mB M_X12_isBlocked) 72 = .ok (.ifCond .eq 7, 3) := by decide +kernel
theorem d_X12_isBlocked_75 : decode (mB M_X12_isBlocked) 75 = .ok (.iconst 1, 1) := by decide +kernel
theorem d_X12_isBlocked_76 : decode (mB M_X12_isBlocked) 76 = .ok (.goto 4, 3) := by decide +kernel
theorem d_X12_isBlocked_79 : decode (mB M_X12_isBlocked) 79 = .ok (.iconst 0, 1) := by decide +kernel
theorem d_X12_isBlocked_80 : decode (mB M_X12_isBlocked) 80 = .ok (.ireturn, 1) := by decide +kernel
theorem c_m_isBlocked {E : mEnv} (hE : E.1.stackTraces = false) (C : List mE) (t : xT) (a0 : Int32) (a1 : Int32) (r : Int32) (h : f_isBlocked t a0 a1 = some r) : Rt E M_X12_isBlocked 0 [.ref 0, .int a0, .int a1] (mw t, C) (some (.int r)) (mw t, C) := by
  unfold f_isBlocked at h
  refine Rt.of hE rfl pn_X12 (Nat.le_of_ble_eq_true rfl) ?_
  refine g_eq (S' := (0, [some (.ref 0), some (.int a0), some (.int a1), none, none], [], (mw t, C))) rfl ?_
  refine g_aload_n d_X12_isBlocked_0 rfl ?_
  refine g_iload_n d_X12_isBlocked_1 rfl ?_
  refine g_iload_n d_X12_isBlocked_2 rfl ?_
  obtain ⟨r_3, h_3, h⟩ := obind h
  refine g_callV (As := [.int a0, .int a1]) d_X12_isBlocked_3 o_X12_beside l_X12_136 ⟨Nat.le_of_ble_eq_true rfl, Nat.le_of_ble_eq_true rfl⟩ (c_m_beside hE C t a0 a1 _ h_3) (gm0 t C) rfl rfl rfl rfl rfl ?_ (Nat.zero_add _)
  refine g_istore_n (L' := [some (.ref 0), some (.int a0), some (.int a1), some (.int r_3), none]) d_X12_isBlocked_6 rfl rfl ?_
  refine g_aload_n d_X12_isBlocked_7 rfl ?_
  refine g_iload_n d_X12_isBlocked_8 rfl ?_
  refine g_iload_n d_X12_isBlocked_9 rfl ?_
  obtain ⟨r_10, h_10, h⟩ := obind h
  refine g_callS (As := [.int a1]) d_X12_isBlocked_10 o_X12_opposite l_X12_140 ⟨Nat.le_of_ble_eq_true rfl, Nat.le_of_ble_eq_true rfl⟩ (c_m_opposite hE C t a1 _ h_10) rfl rfl ?_ (Nat.zero_add _)
  obtain ⟨r_13, h_13, h⟩ := obind h
  refine g_callV (As := [.int a0, .int r_10]) d_X12_isBlocked_13 o_X12_beside l_X12_136 ⟨Nat.le_of_ble_eq_true rfl, Nat.le_of_ble_eq_true rfl⟩ (c_m_beside hE C t a0 r_10 _ h_13) (gm0 t C) rfl rfl rfl rfl rfl ?_ (Nat.zero_add _)
  refine g_istore (L' := [some (.ref 0), some (.int a0), some (.int a1), some (.int r_3), some (.int r_13)]) d_X12_isBlocked_16 rfl rfl ?_
  refine g_aload_n d_X12_isBlocked_18 rfl ?_
  refine g_iload_n d_X12_isBlocked_19 rfl ?_
  obtain ⟨r_20, h_20, h⟩ := obind h
  refine g_callV (As := [.int r_3]) d_X12_isBlocked_20 o_X12_isOpen l_X12_121 ⟨Nat.le_of_ble_eq_true rfl, Nat.le_of_ble_eq_true rfl⟩ (c_m_isOpen hE C t r_3 _ h_20) (gm0 t C) rfl rfl rfl rfl rfl ?_ (Nat.zero_add _)
  refine g_if_eq (tgt := 54) d_X12_isBlocked_23 (by decide) (fun c_23 => ?_) (fun c_23 => ?_)
  · replace h := opos c_23 h
    refine g_iconst (v := 1) d_X12_isBlocked_54 (by decide) ?_
    obtain rfl := osome h
    exact g_retZ d_X12_isBlocked_55 rfl (by decide) rfl rfl
  · replace h := oneg c_23 h
    refine g_aload_n d_X12_isBlocked_26 rfl ?_
    refine g_iload d_X12_isBlocked_27 rfl ?_
    obtain ⟨r_29, h_29, h⟩ := obind h
    refine g_callV (As := [.int r_13]) d_X12_isBlocked_29 o_X12_isOpen l_X12_121 ⟨Nat.le_of_ble_eq_true rfl, Nat.le_of_ble_eq_true rfl⟩ (c_m_isOpen hE C t r_13 _ h_29) (gm0 t C) rfl rfl rfl rfl rfl ?_ (Nat.zero_add _)
    refine g_if_eq (tgt := 54) d_X12_isBlocked_32 (by decide) (fun c_32 => ?_) (fun c_32 => ?_)
    · replace h := opos c_32 h
      refine g_iconst (v := 1) d_X12_isBlocked_54 (by decide) ?_
      obtain rfl := osome h
      exact g_retZ d_X12_isBlocked_55 rfl (by decide) rfl rfl
    · replace h := oneg c_32 h
      refine g_aload_n d_X12_isBlocked_35 rfl ?_
      refine g_getf d_X12_isBlocked_36 f_X12_42 (gm0 t C) rfl ?_
      refine g_iload_n d_X12_isBlocked_39 rfl ?_
      obtain ⟨i_40, h⟩ := ochk h
      refine g_zald d_X12_isBlocked_40 (gm_10 t C) (inB_in i_40) ?_
      refine g_if_ne (tgt := 54) d_X12_isBlocked_41 (by decide) (fun c_41 => ?_) (fun c_41 => ?_)
      · replace h := oneg c_41 h
        refine g_iconst (v := 1) d_X12_isBlocked_54 (by decide) ?_
        obtain rfl := osome h
        exact g_retZ d_X12_isBlocked_55 rfl (by decide) rfl rfl
      · replace h := opos c_41 h
        refine g_aload_n d_X12_isBlocked_44 rfl ?_
        refine g_getf d_X12_isBlocked_45 f_X12_42 (gm0 t C) rfl ?_
        refine g_iload d_X12_isBlocked_48 rfl ?_
        obtain ⟨i_50, h⟩ := ochk h
        refine g_zald d_X12_isBlocked_50 (gm_10 t C) (inB_in i_50) ?_
        refine g_if_eq (tgt := 56) d_X12_isBlocked_51 (by decide) (fun c_51 => ?_) (fun c_51 => ?_)
        · replace h := opos c_51 h
          refine g_aload_n d_X12_isBlocked_56 rfl ?_
          refine g_getf d_X12_isBlocked_57 f_X12_38 (gm0 t C) rfl ?_
          refine g_iload_n d_X12_isBlocked_60 rfl ?_
          obtain ⟨i_61, h⟩ := ochk h
          refine g_zald d_X12_isBlocked_61 (gm_9 t C) (inB_in i_61) ?_
          obtain ⟨r_62, h_62, hh_62⟩ := obind h
          refine Go.trans0 (S1 := (80, [none, none, none, none, none], [.int r_62], (mw t, C))) ?_ ?_
          · replace h := h_62
            clear hh_62
            refine g_if_eq (tgt := 79) d_X12_isBlocked_62 (by decide) (fun c_62 => ?_) (fun c_62 => ?_)
            · replace h := opos c_62 h
              refine g_iconst (v := 0) d_X12_isBlocked_79 (by decide) ?_
              obtain rfl := osome h
              exact g_drop [0, 1, 2, 3, 4] rfl (g_end rfl)
            · replace h := oneg c_62 h
              refine g_aload_n d_X12_isBlocked_65 rfl ?_
              refine g_getf d_X12_isBlocked_66 f_X12_38 (gm0 t C) rfl ?_
              refine g_iload d_X12_isBlocked_69 rfl ?_
              obtain ⟨i_71, h⟩ := ochk h
              refine g_zald d_X12_isBlocked_71 (gm_9 t C) (inB_in i_71) ?_
              refine g_if_eq (tgt := 79) d_X12_isBlocked_72 (by decide) (fun c_72 => ?_) (fun c_72 => ?_)
              · replace h := opos c_72 h
                refine g_iconst (v := 0) d_X12_isBlocked_79 (by decide) ?_
                obtain rfl := osome h
                exact g_drop [0, 1, 2, 3, 4] rfl (g_end rfl)
              · replace h := oneg c_72 h
                refine g_iconst (v := 1) d_X12_isBlocked_75 (by decide) ?_
                refine g_goto (tgt := 80) d_X12_isBlocked_76 (by decide) ?_
                obtain rfl := osome h
                exact g_drop [0, 1, 2, 3, 4] rfl (g_end rfl)
          replace h := hh_62
          obtain ⟨i_80, h⟩ := ochk h
          obtain rfl := osome h
          exact g_retZ d_X12_isBlocked_80 rfl i_80 rfl rfl
        · replace h := oneg c_51 h
          refine g_iconst (v := 1) d_X12_isBlocked_54 (by decide) ?_
          obtain rfl := osome h
          exact g_retZ d_X12_isBlocked_55 rfl (by decide) rfl rfl
def f_freezes_L (N : Nat) : Nat → Nat → Int32 → Int32 → xT → Option (xT)
  | 0, _, _, _, _ => none
  | n + 1, p, v1, v2, t =>
    if p = 2 then (if (f_size t) ≤ v1 then (f_freezes_L N n 29 1 0 t)
      else (Option.bind (f_isBox t v1) fun r_17 =>
        if inB v1 64 = true then (Option.bind (some (wa t 10 (upd (ra t 10) (Int32.toNatClampNeg v1) (vp_nar .boolean r_17)))) fun t_20 =>
        f_freezes_L N n 2 (v1 + 1) 0 t_20) else none))
    else if p = 29 then (if v1 = 0 then (some t)
      else (f_freezes_L N n 37 0 0 t))
    else if p = 37 then (if (f_size t) ≤ v2 then (f_freezes_L N n 29 v1 0 t)
      else (if inB v2 64 = true then (Option.bind (if ((ra t 10) (Int32.toNatClampNeg v2)) = 0 then (some (v1, t))
          else (Option.bind (f_isBlocked t v2 0) fun r_57 =>
            if r_57 = 0 then (if inB v2 64 = true then (Option.bind (some (wa t 10 (upd (ra t 10) (Int32.toNatClampNeg v2) (vp_nar .boolean 0)))) fun t_78 =>
              some ((1 : Int32), t_78)) else none)
            else (Option.bind (f_isBlocked t v2 1) fun r_66 =>
              if r_66 = 0 then (if inB v2 64 = true then (Option.bind (some (wa t 10 (upd (ra t 10) (Int32.toNatClampNeg v2) (vp_nar .boolean 0)))) fun t_78 =>
                some ((1 : Int32), t_78)) else none)
              else (some (v1, t))))) fun (r_51 : Int32 × xT) =>
        f_freezes_L N n 37 r_51.1 (v2 + 1) r_51.2) else none))
    else none
theorem u_freezes_2 (N n : Nat) (v1 : Int32) (t : xT) : f_freezes_L N (n + 1) 2 v1 0 t = (if (f_size t) ≤ v1 then (f_freezes_L N n 29 1 0 t)
    else (Option.bind (f_isBox t v1) fun r_17 =>
      if inB v1 64 = true then (Option.bind (some (wa t 10 (upd (ra t 10) (Int32.toNatClampNeg v1) (vp_nar .boolean r_17)))) fun t_20 =>
      f_freezes_L N n 2 (v1 + 1) 0 t_20) else none)) := rfl
theorem u_freezes_29 (N n : Nat) (v1 : Int32) (t : xT) : f_freezes_L N (n + 1) 29 v1 0 t = (if v1 = 0 then (some t)
    else (f_freezes_L N n 37 0 0 t)) := rfl
theorem u_freezes_37 (N n : Nat) (v1 : Int32) (v2 : Int32) (t : xT) : f_freezes_L N (n + 1) 37 v1 v2 t = (if (f_size t) ≤ v2 then (f_freezes_L N n 29 v1 0 t)
    else (if inB v2 64 = true then (Option.bind (if ((ra t 10) (Int32.toNatClampNeg v2)) = 0 then (some (v1, t))
        else (Option.bind (f_isBlocked t v2 0) fun r_57 =>
          if r_57 = 0 then (if inB v2 64 = true then (Option.bind (some (wa t 10 (upd (ra t 10) (Int32.toNatClampNeg v2) (vp_nar .boolean 0)))) fun t_78 =>
            some ((1 : Int32), t_78)) else none)
          else (Option.bind (f_isBlocked t v2 1) fun r_66 =>
            if r_66 = 0 then (if inB v2 64 = true then (Option.bind (some (wa t 10 (upd (ra t 10) (Int32.toNatClampNeg v2) (vp_nar .boolean 0)))) fun t_78 =>
              some ((1 : Int32), t_78)) else none)
            else (some (v1, t))))) fun (r_51 : Int32 × xT) =>
      f_freezes_L N n 37 r_51.1 (v2 + 1) r_51.2) else none)) := rfl
def f_freezes (N : Nat) (t : xT)  : Option (xT) :=
  f_freezes_L N N 2 0 0 t
theorem d_X12_freezes_0 : decode (mB M_X12_freezes) 0 = .ok (.iconst 0, 1) := by decide +kernel
theorem d_X12_freezes_1 : decode (mB M_X12_freezes) 1 = .ok (.istore_n 1, 1) := by decide +kernel
theorem d_X12_freezes_2 : decode (mB M_X12_freezes) 2 = .ok (.iload_n 1, 1) := by decide +kernel
theorem d_X12_freezes_3 : decode (mB M_X12_freezes) 3 = .ok (.aload_n 0, 1) := by decide +kernel
theorem d_X12_freezes_4 : decode (mB M_X12_freezes) 4 = .ok (.invokevirtual 130, 3) := by decide +kernel
theorem d_X12_freezes_7 : decode (mB M_X12_freezes) 7 = .ok (.if_icmp .ge 20, 3) := by decide +kernel
theorem d_X12_freezes_10 : decode (mB M_X12_freezes) 10 = .ok (.aload_n 0, 1) := by decide +kernel
theorem d_X12_freezes_11 : decode (mB M_X12_freezes) 11 = .ok (.getfield 42, 3) := by decide +kernel
theorem d_X12_freezes_14 : decode (mB M_X12_freezes) 14 = .ok (.iload_n 1, 1) := by decide +kernel
theorem d_X12_freezes_15 : decode (mB M_X12_freezes) 15 = .ok (.aload_n 0, 1) := by decide +kernel
theorem d_X12_freezes_16 : decode (mB M_X12_freezes) 16 = .ok (.iload_n 1, 1) := by decide +kernel
theorem d_X12_freezes_17 : decode (mB M_X12_freezes) 17 = .ok (.invokevirtual 124, 3) := by decide +kernel
theorem d_X12_freezes_20 : decode (mB M_X12_freezes) 20 = .ok (.bastore, 1) := by decide +kernel
theorem d_X12_freezes_21 : decode (mB M_X12_freezes) 21 = .ok (.iinc 1 1, 3) := by decide +kernel
theorem d_X12_freezes_24 : decode (mB M_X12_freezes) 24 = .ok (.goto (-22), 3) := by decide +kernel
theorem d_X12_freezes_27 : decode (mB M_X12_freezes) 27 = .ok (.iconst 1, 1) := by decide +kernel
theorem d_X12_freezes_28 : decode (mB M_X12_freezes) 28 = .ok (.istore_n 1, 1) := by decide +kernel
theorem d_X12_freezes_29 : decode (mB M_X12_freezes) 29 = .ok (.iload_n 1, 1) := by decide +kernel
theorem d_X12_freezes_30 : decode (mB M_X12_freezes) 30 = .ok (.ifCond .eq 60, 3) := by decide +kernel
theorem d_X12_freezes_33 : decode (mB M_X12_freezes) 33 = .ok (.iconst 0, 1) := by decide +kernel
theorem d_X12_freezes_34 : decode (mB M_X12_freezes) 34 = .ok (.istore_n 1, 1) := by decide +kernel
theorem d_X12_freezes_35 : decode (mB M_X12_freezes) 35 = .ok (.iconst 0, 1) := by decide +kernel
theorem d_X12_freezes_36 : decode (mB M_X12_freezes) 36 = .ok (.istore_n 2, 1) := by decide +kernel
theorem d_X12_freezes_37 : decode (mB M_X12_freezes) 37 = .ok (.iload_n 2, 1) := by decide +kernel
theorem d_X12_freezes_38 : decode (mB M_X12_freezes) 38 = .ok (.aload_n 0, 1) := by decide +kernel
theorem d_X12_freezes_39 : decode (mB M_X12_freezes) 39 = .ok (.invokevirtual 130, 3) := by decide +kernel
theorem d_X12_freezes_42 : decode (mB M_X12_freezes) 42 = .ok (.if_icmp .ge 45, 3) := by decide +kernel
theorem d_X12_freezes_45 : decode (mB M_X12_freezes) 45 = .ok (.aload_n 0, 1) := by decide +kernel
theorem d_X12_freezes_46 : decode (mB M_X12_freezes) 46 = .ok (.getfield 42, 3) := by decide +kernel
theorem d_X12_freezes_49 : decode (mB M_X12_freezes) 49 = .ok (.iload_n 2, 1) := by decide +kernel
theorem d_X12_freezes_50 : decode (mB M_X12_freezes) 50 = .ok (.baload, 1) := by decide +kernel
theorem d_X12_freezes_51 : decode (mB M_X12_freezes) 51 = .ok (.ifCond .eq 30, 3) := by decide +kernel
theorem d_X12_freezes_54 : decode (mB M_X12_freezes) 54 = .ok (.aload_n 0, 1) := by decide +kernel
theorem d_X12_freezes_55 : decode (mB M_X12_freezes) 55 = .ok (.iload_n 2, 1) := by decide +kernel
theorem d_X12_freezes_56 : decode (mB M_X12_freezes) 56 = .ok (.iconst 0, 1) := by decide +kernel
theorem d_X12_freezes_57 : decode (mB M_X12_freezes) 57 = .ok (.invokevirtual 147, 3) := by decide +kernel
theorem d_X12_freezes_60 : decode (mB M_X12_freezes) 60 = .ok (.ifCond .eq 12, 3) := by decide +kernel
theorem d_X12_freezes_63 : decode (mB M_X12_freezes) 63 = .ok (.aload_n 0, 1) := by decide +kernel
theorem d_X12_freezes_64 : decode (mB M_X12_freezes) 64 = .ok (.iload_n 2, 1) := by decide +kernel
theorem d_X12_freezes_65 : decode (mB M_X12_freezes) 65 = .ok (.iconst 1, 1) := by decide +kernel
theorem d_X12_freezes_66 : decode (mB M_X12_freezes) 66 = .ok (.invokevirtual 147, 3) := by decide +kernel
theorem d_X12_freezes_69 : decode (mB M_X12_freezes) 69 = .ok (.ifCond .ne 12, 3) := by decide +kernel
theorem d_X12_freezes_72 : decode (mB M_X12_freezes) 72 = .ok (.aload_n 0, 1) := by decide +kernel
theorem d_X12_freezes_73 : decode (mB M_X12_freezes) 73 = .ok (.getfield 42, 3) := by decide +kernel
theorem d_X12_freezes_76 : decode (mB M_X12_freezes) 76 = .ok (.iload_n 2, 1) := by decide +kernel
theorem d_X12_freezes_77 : decode (mB M_X12_freezes) 77 = .ok (.iconst 0, 1) := by decide +kernel
theorem d_X12_freezes_78 : decode (mB M_X12_freezes) 78 = .ok (.bastore, 1) := by decide +kernel
theorem d_X12_freezes_79 : decode (mB M_X12_freezes) 79 = .ok (.iconst 1, 1) := by decide +kernel
theorem d_X12_freezes_80 : decode (mB M_X12_freezes) 80 = .ok (.istore_n 1, 1) := by decide +kernel
theorem d_X12_freezes_81 : decode (mB M_X12_freezes) 81 = .ok (.iinc 2 1, 3) := by decide +kernel
theorem d_X12_freezes_84 : decode (mB M_X12_freezes) 84 = .ok (.goto (-47), 3) := by decide +kernel
theorem d_X12_freezes_87 : decode (mB M_X12_freezes) 87 = .ok (.goto (-58), 3) := by decide +kernel
theorem d_X12_freezes_90 : decode (mB M_X12_freezes) 90 = .ok (.return_, 1) := by decide +kernel
theorem l_m_freezes {E : mEnv} (hE : E.1.stackTraces = false) (C : List mE) (N : Nat) : ∀ n : Nat, (∀ (v1 : Int32) (t : xT) (r : xT), f_freezes_L N n 2 v1 0 t = some r → Go E M_X12_freezes 0 (2, [some (.ref 0), some (.int v1), none], [], (mw t, C)) (.inr (.inl (none, (mw r, C))))) ∧ (∀ (v1 : Int32) (t : xT) (r : xT), f_freezes_L N n 29 v1 0 t = some r → Go E M_X12_freezes 0 (29, [some (.ref 0), some (.int v1), none], [], (mw t, C)) (.inr (.inl (none, (mw r, C))))) ∧ (∀ (v1 : Int32) (v2 : Int32) (t : xT) (r : xT), f_freezes_L N n 37 v1 v2 t = some r → Go E M_X12_freezes 0 (37, [some (.ref 0), some (.int v1), some (.int v2)], [], (mw t, C)) (.inr (.inl (none, (mw r, C))))) := by
  intro n
  induction n with
  | zero => exact ⟨(fun v1 t r h => by cases h), (fun v1 t r h => by cases h), (fun v1 v2 t r h => by cases h)⟩
  | succ n ih =>
    refine ⟨?_, ?_, ?_⟩
    · intro v1 t r h
      rw [u_freezes_2] at h
      refine g_iload_n d_X12_freezes_2 rfl ?_
      refine g_aload_n d_X12_freezes_3 rfl ?_
      refine g_callV (As := []) d_X12_freezes_4 o_X12_size l_X12_130 ⟨Nat.le_of_ble_eq_true rfl, Nat.le_of_ble_eq_true rfl⟩ (c_m_size hE C t) (gm0 t C) rfl rfl rfl rfl rfl ?_ (Nat.zero_add _)
      refine g_icmp_ge (tgt := 27) d_X12_freezes_7 (by decide) (fun c_7 => ?_) (fun c_7 => ?_)
      · replace h := opos c_7 h
        refine g_iconst (v := 1) d_X12_freezes_27 (by decide) ?_
        refine g_istore_n (L' := [some (.ref 0), some (.int 1), none]) d_X12_freezes_28 rfl rfl ?_
        exact (ih).2.1 1 t _ h
      · replace h := oneg c_7 h
        refine g_aload_n d_X12_freezes_10 rfl ?_
        refine g_getf d_X12_freezes_11 f_X12_42 (gm0 t C) rfl ?_
        refine g_iload_n d_X12_freezes_14 rfl ?_
        refine g_aload_n d_X12_freezes_15 rfl ?_
        refine g_iload_n d_X12_freezes_16 rfl ?_
        obtain ⟨r_17, h_17, h⟩ := obind h
        refine g_callV (As := [.int v1]) d_X12_freezes_17 o_X12_isBox l_X12_124 ⟨Nat.le_of_ble_eq_true rfl, Nat.le_of_ble_eq_true rfl⟩ (c_m_isBox hE C t v1 _ h_17) (gm0 t C) rfl rfl rfl rfl rfl ?_ (Nat.zero_add _)
        obtain ⟨i_20, h⟩ := ochk h
        obtain ⟨t_20, e_20, h⟩ := olet h
        refine g_zast (w' := (mw t_20, C)) d_X12_freezes_20 (gm_10 t C) (inB_in i_20) (by rw [e_20]; exact st_10 t C _) ?_
        refine g_iinc (v := (v1 + 1)) (L' := [some (.ref 0), some (.int (v1 + 1)), none]) d_X12_freezes_21 rfl rfl rfl ?_
        refine g_goto (tgt := 2) d_X12_freezes_24 (by decide) ?_
        exact (ih).1 (v1 + 1) t_20 _ h
    · intro v1 t r h
      rw [u_freezes_29] at h
      refine g_iload_n d_X12_freezes_29 rfl ?_
      refine g_if_eq (tgt := 90) d_X12_freezes_30 (by decide) (fun c_30 => ?_) (fun c_30 => ?_)
      · replace h := opos c_30 h
        obtain rfl := osome h
        exact g_retV d_X12_freezes_90 rfl rfl
      · replace h := oneg c_30 h
        refine g_iconst (v := 0) d_X12_freezes_33 (by decide) ?_
        refine g_istore_n (L' := [some (.ref 0), some (.int 0), none]) d_X12_freezes_34 rfl rfl ?_
        refine g_iconst (v := 0) d_X12_freezes_35 (by decide) ?_
        refine g_istore_n (L' := [some (.ref 0), some (.int 0), some (.int 0)]) d_X12_freezes_36 rfl rfl ?_
        exact (ih).2.2 0 0 t _ h
    · intro v1 v2 t r h
      rw [u_freezes_37] at h
      refine g_iload_n d_X12_freezes_37 rfl ?_
      refine g_aload_n d_X12_freezes_38 rfl ?_
      refine g_callV (As := []) d_X12_freezes_39 o_X12_size l_X12_130 ⟨Nat.le_of_ble_eq_true rfl, Nat.le_of_ble_eq_true rfl⟩ (c_m_size hE C t) (gm0 t C) rfl rfl rfl rfl rfl ?_ (Nat.zero_add _)
      refine g_icmp_ge (tgt := 87) d_X12_freezes_42 (by decide) (fun c_42 => ?_) (fun c_42 => ?_)
      · replace h := opos c_42 h
        refine g_goto (tgt := 29) d_X12_freezes_87 (by decide) ?_
        refine g_drop [2] (L1 := [some (.ref 0), some (.int v1), none]) rfl ?_
        exact (ih).2.1 v1 t _ h
      · replace h := oneg c_42 h
        refine g_aload_n d_X12_freezes_45 rfl ?_
        refine g_getf d_X12_freezes_46 f_X12_42 (gm0 t C) rfl ?_
        refine g_iload_n d_X12_freezes_49 rfl ?_
        obtain ⟨i_50, h⟩ := ochk h
        refine g_zald d_X12_freezes_50 (gm_10 t C) (inB_in i_50) ?_
        obtain ⟨r_51, h_51, hh_51⟩ := obind h
        refine Go.trans0 (S1 := (81, [some (.ref 0), some (.int r_51.1), some (.int v2)], [], (mw r_51.2, C))) ?_ ?_
        · replace h := h_51
          clear hh_51
          refine g_if_eq (tgt := 81) d_X12_freezes_51 (by decide) (fun c_51 => ?_) (fun c_51 => ?_)
          · replace h := opos c_51 h
            obtain rfl := osome h
            exact g_end rfl
          · replace h := oneg c_51 h
            refine g_aload_n d_X12_freezes_54 rfl ?_
            refine g_iload_n d_X12_freezes_55 rfl ?_
            refine g_iconst (v := 0) d_X12_freezes_56 (by decide) ?_
            obtain ⟨r_57, h_57, h⟩ := obind h
            refine g_callV (As := [.int v2, .int 0]) d_X12_freezes_57 o_X12_isBlocked l_X12_147 ⟨Nat.le_of_ble_eq_true rfl, Nat.le_of_ble_eq_true rfl⟩ (c_m_isBlocked hE C t v2 0 _ h_57) (gm0 t C) rfl rfl rfl rfl rfl ?_ (Nat.zero_add _)
            refine g_if_eq (tgt := 72) d_X12_freezes_60 (by decide) (fun c_60 => ?_) (fun c_60 => ?_)
            · replace h := opos c_60 h
              refine g_aload_n d_X12_freezes_72 rfl ?_
              refine g_getf d_X12_freezes_73 f_X12_42 (gm0 t C) rfl ?_
              refine g_iload_n d_X12_freezes_76 rfl ?_
              refine g_iconst (v := 0) d_X12_freezes_77 (by decide) ?_
              obtain ⟨i_78, h⟩ := ochk h
              obtain ⟨t_78, e_78, h⟩ := olet h
              refine g_zast (w' := (mw t_78, C)) d_X12_freezes_78 (gm_10 t C) (inB_in i_78) (by rw [e_78]; exact st_10 t C _) ?_
              refine g_iconst (v := 1) d_X12_freezes_79 (by decide) ?_
              refine g_istore_n (L' := [some (.ref 0), some (.int 1), some (.int v2)]) d_X12_freezes_80 rfl rfl ?_
              obtain rfl := osome h
              exact g_end rfl
            · replace h := oneg c_60 h
              refine g_aload_n d_X12_freezes_63 rfl ?_
              refine g_iload_n d_X12_freezes_64 rfl ?_
              refine g_iconst (v := 1) d_X12_freezes_65 (by decide) ?_
              obtain ⟨r_66, h_66, h⟩ := obind h
              refine g_callV (As := [.int v2, .int 1]) d_X12_freezes_66 o_X12_isBlocked l_X12_147 ⟨Nat.le_of_ble_eq_true rfl, Nat.le_of_ble_eq_true rfl⟩ (c_m_isBlocked hE C t v2 1 _ h_66) (gm0 t C) rfl rfl rfl rfl rfl ?_ (Nat.zero_add _)
              refine g_if_ne (tgt := 81) d_X12_freezes_69 (by decide) (fun c_69 => ?_) (fun c_69 => ?_)
              · replace h := oneg c_69 h
                obtain rfl := osome h
                exact g_end rfl
              · replace h := opos c_69 h
                refine g_aload_n d_X12_freezes_72 rfl ?_
                refine g_getf d_X12_freezes_73 f_X12_42 (gm0 t C) rfl ?_
                refine g_iload_n d_X12_freezes_76 rfl ?_
                refine g_iconst (v := 0) d_X12_freezes_77 (by decide) ?_
                obtain ⟨i_78, h⟩ := ochk h
                obtain ⟨t_78, e_78, h⟩ := olet h
                refine g_zast (w' := (mw t_78, C)) d_X12_freezes_78 (gm_10 t C) (inB_in i_78) (by rw [e_78]; exact st_10 t C _) ?_
                refine g_iconst (v := 1) d_X12_freezes_79 (by decide) ?_
                refine g_istore_n (L' := [some (.ref 0), some (.int 1), some (.int v2)]) d_X12_freezes_80 rfl rfl ?_
                obtain rfl := osome h
                exact g_end rfl
        replace h := hh_51
        refine g_iinc (v := (v2 + 1)) (L' := [some (.ref 0), some (.int r_51.1), some (.int (v2 + 1))]) d_X12_freezes_81 rfl rfl rfl ?_
        refine g_goto (tgt := 37) d_X12_freezes_84 (by decide) ?_
        exact (ih).2.2 r_51.1 (v2 + 1) r_51.2 _ h
theorem c_m_freezes {E : mEnv} (hE : E.1.stackTraces = false) (C : List mE) (N : Nat) (t : xT)  (r : xT) (h : f_freezes N t = some r) : Rt E M_X12_freezes 0 [.ref 0] (mw t, C) none (mw r, C) := by
  unfold f_freezes at h
  refine Rt.of hE rfl pn_X12 (Nat.le_of_ble_eq_true rfl) ?_
  refine g_eq (S' := (0, [some (.ref 0), none, none], [], (mw t, C))) rfl ?_
  refine g_iconst (v := 0) d_X12_freezes_0 (by decide) ?_
  refine g_istore_n (L' := [some (.ref 0), some (.int 0), none]) d_X12_freezes_1 rfl rfl ?_
  exact (l_m_freezes hE C N N).1 0 t _ h
def f_isTunnel (t : xT) (a0 : Int32) (a1 : Int32) : Option (Int32) :=
  Option.bind (f_isOpen t a0) fun r_2 =>
  Option.bind (if r_2 = 0 then (some (0 : Int32))
    else (Option.bind (f_isGoal t a0) fun r_10 =>
      if r_10 = 0 then (Option.bind (f_beside t a0 (1 - a1)) fun r_22 =>
        Option.bind (f_isOpen t r_22) fun r_25 =>
        if r_25 = 0 then (Option.bind (f_beside t a0 (3 - a1)) fun r_37 =>
          Option.bind (f_isOpen t r_37) fun r_40 =>
          if r_40 = 0 then (some (1 : Int32))
          else (some (0 : Int32)))
        else (some (0 : Int32)))
      else (some (0 : Int32)))) fun (r_5 : Int32) =>
  if r_5 &&& 1 = r_5 then (some r_5) else none
theorem d_X12_isTunnel_0 : decode (mB M_X12_isTunnel) 0 = .ok (.aload_n 0, 1) := by decide +kernel
theorem d_X12_isTunnel_1 : decode (mB M_X12_isTunnel) 1 = .ok (.iload_n 1, 1) := by decide +kernel
theorem d_X12_isTunnel_2 : decode (mB M_X12_isTunnel) 2 = .ok (.invokevirtual 121, 3) := by decide +kernel
theorem d_X12_isTunnel_5 : decode (mB M_X12_isTunnel) 5 = .ok (.ifCond .eq 45, 3) := by decide +kernel
theorem d_X12_isTunnel_8 : decode (mB M_X12_isTunnel) 8 = .ok (.aload_n 0, 1) := by decide +kernel
theorem d_X12_isTunnel_9 : decode (mB M_X12_isTunnel) 9 = .ok (.iload_n 1, 1) := by decide +kernel
theorem d_X12_isTunnel_10 : decode (mB M_X12_isTunnel) 10 = .ok (.invokevirtual 127, 3) := by decide +kernel
theorem d_X12_isTunnel_13 : decode (mB M_X12_isTunnel) 13 = .ok (.ifCond .ne 37, 3) := by decide +kernel
theorem d_X12_isTunnel_16 : decode (mB M_X12_isTunnel) 16 = .ok (.aload_n 0, 1) := by decide +kernel
theorem d_X12_isTunnel_17 : decode (mB M_X12_isTunnel) 17 = .ok (.aload_n 0, 1) := by decide +kernel
theorem d_X12_isTunnel_18 : decode (mB M_X12_isTunnel) 18 = .ok (.iload_n 1, 1) := by decide +kernel
theorem d_X12_isTunnel_19 : decode (mB M_X12_isTunnel) 19 = .ok (.iconst 1, 1) := by decide +kernel
theorem d_X12_isTunnel_20 : decode (mB M_X12_isTunnel) 20 = .ok (.iload_n 2, 1) := by decide +kernel
theorem d_X12_isTunnel_21 : decode (mB M_X12_isTunnel) 21 = .ok (.isub, 1) := by decide +kernel
theorem d_X12_isTunnel_22 : decode (mB M_X12_isTunnel) 22 = .ok (.invokevirtual 136, 3) := by decide +kernel
theorem d_X12_isTunnel_25 : decode (mB M_X12_isTunnel) 25 = .ok (.invokevirtual 121, 3) := by decide +kernel
theorem d_X12_isTunnel_28 : decode (mB M_X12_isTunnel) 28 = .ok (.ifCond .ne 22, 3) := by decide +kernel
theorem d_X12_isTunnel_31 : decode (mB M_X12_isTunnel) 31 = .ok (.aload_n 0, 1) := by decide +kernel
theorem d_X12_isTunnel_32 : decode (mB M_X12_isTunnel) 32 = .ok (.aload_n 0, 1) := by decide +kernel
theorem d_X12_isTunnel_33 : decode (mB M_X12_isTunnel) 33 = .ok (.iload_n 1, 1) := by decide +kernel
theorem d_X12_isTunnel_34 : decode (mB M_X12_isTunnel) 34 = .ok (.iconst 3, 1) := by decide +kernel
theorem d_X12_isTunnel_35 : decode (mB M_X12_isTunnel) 35 = .ok (.iload_n 2, 1) := by decide +kernel
theorem d_X12_isTunnel_36 : decode (mB M_X12_isTunnel) 36 = .ok (.isub, 1) := by decide +kernel
theorem d_X12_isTunnel_37 : decode (mB M_X12_isTunnel) 37 = .ok (.invokevirtual 136, 3) := by decide +kernel
theorem d_X12_isTunnel_40 : decode (mB M_X12_isTunnel) 40 = .ok (.invokevirtual 121, 3) := by decide +kernel
theorem d_X12_isTunnel_43 : decode (mB M_X12_isTunnel) 43 = .ok (.ifCond .ne 7, 3) := by decide +kernel
theorem d_X12_isTunnel_46 : decode (mB M_X12_isTunnel) 46 = .ok (.iconst 1, 1) := by decide +kernel
theorem d_X12_isTunnel_47 : decode (mB M_X12_isTunnel) 47 = .ok (.goto 4, 3) := by decide +kernel
theorem d_X12_isTunnel_50 : decode (mB M_X12_isTunnel) 50 = .ok (.iconst 0, 1) := by decide +kernel
theorem d_X12_isTunnel_51 : decode (mB M_X12_isTunnel) 51 = .ok (.ireturn, 1) := by decide +kernel
theorem c_m_isTunnel {E : mEnv} (hE : E.1.stackTraces = false) (C : List mE) (t : xT) (a0 : Int32) (a1 : Int32) (r : Int32) (h : f_isTunnel t a0 a1 = some r) : Rt E M_X12_isTunnel 0 [.ref 0, .int a0, .int a1] (mw t, C) (some (.int r)) (mw t, C) := by
  unfold f_isTunnel at h
  refine Rt.of hE rfl pn_X12 (Nat.le_of_ble_eq_true rfl) ?_
  refine g_eq (S' := (0, [some (.ref 0), some (.int a0), some (.int a1)], [], (mw t, C))) rfl ?_
  refine g_aload_n d_X12_isTunnel_0 rfl ?_
  refine g_iload_n d_X12_isTunnel_1 rfl ?_
  obtain ⟨r_2, h_2, h⟩ := obind h
  refine g_callV (As := [.int a0]) d_X12_isTunnel_2 o_X12_isOpen l_X12_121 ⟨Nat.le_of_ble_eq_true rfl, Nat.le_of_ble_eq_true rfl⟩ (c_m_isOpen hE C t a0 _ h_2) (gm0 t C) rfl rfl rfl rfl rfl ?_ (Nat.zero_add _)
  obtain ⟨r_5, h_5, hh_5⟩ := obind h
  refine Go.trans0 (S1 := (51, [none, none, none], [.int r_5], (mw t, C))) ?_ ?_
  · replace h := h_5
    clear hh_5
    refine g_if_eq (tgt := 50) d_X12_isTunnel_5 (by decide) (fun c_5 => ?_) (fun c_5 => ?_)
    · replace h := opos c_5 h
      refine g_iconst (v := 0) d_X12_isTunnel_50 (by decide) ?_
      obtain rfl := osome h
      exact g_drop [0, 1, 2] rfl (g_end rfl)
    · replace h := oneg c_5 h
      refine g_aload_n d_X12_isTunnel_8 rfl ?_
      refine g_iload_n d_X12_isTunnel_9 rfl ?_
      obtain ⟨r_10, h_10, h⟩ := obind h
      refine g_callV (As := [.int a0]) d_X12_isTunnel_10 o_X12_isGoal l_X12_127 ⟨Nat.le_of_ble_eq_true rfl, Nat.le_of_ble_eq_true rfl⟩ (c_m_isGoal hE C t a0 _ h_10) (gm0 t C) rfl rfl rfl rfl rfl ?_ (Nat.zero_add _)
      refine g_if_ne (tgt := 50) d_X12_isTunnel_13 (by decide) (fun c_13 => ?_) (fun c_13 => ?_)
      · replace h := oneg c_13 h
        refine g_iconst (v := 0) d_X12_isTunnel_50 (by decide) ?_
        obtain rfl := osome h
        exact g_drop [0, 1, 2] rfl (g_end rfl)
      · replace h := opos c_13 h
        refine g_aload_n d_X12_isTunnel_16 rfl ?_
        refine g_aload_n d_X12_isTunnel_17 rfl ?_
        refine g_iload_n d_X12_isTunnel_18 rfl ?_
        refine g_iconst (v := 1) d_X12_isTunnel_19 (by decide) ?_
        refine g_iload_n d_X12_isTunnel_20 rfl ?_
        refine g_isub d_X12_isTunnel_21 ?_
        obtain ⟨r_22, h_22, h⟩ := obind h
        refine g_callV (As := [.int a0, .int (1 - a1)]) d_X12_isTunnel_22 o_X12_beside l_X12_136 ⟨Nat.le_of_ble_eq_true rfl, Nat.le_of_ble_eq_true rfl⟩ (c_m_beside hE C t a0 (1 - a1) _ h_22) (gm0 t C) rfl rfl rfl rfl rfl ?_ (Nat.zero_add _)
        obtain ⟨r_25, h_25, h⟩ := obind h
        refine g_callV (As := [.int r_22]) d_X12_isTunnel_25 o_X12_isOpen l_X12_121 ⟨Nat.le_of_ble_eq_true rfl, Nat.le_of_ble_eq_true rfl⟩ (c_m_isOpen hE C t r_22 _ h_25) (gm0 t C) rfl rfl rfl rfl rfl ?_ (Nat.zero_add _)
        refine g_if_ne (tgt := 50) d_X12_isTunnel_28 (by decide) (fun c_28 => ?_) (fun c_28 => ?_)
        · replace h := oneg c_28 h
          refine g_iconst (v := 0) d_X12_isTunnel_50 (by decide) ?_
          obtain rfl := osome h
          exact g_drop [0, 1, 2] rfl (g_end rfl)
        · replace h := opos c_28 h
          refine g_aload_n d_X12_isTunnel_31 rfl ?_
          refine g_aload_n d_X12_isTunnel_32 rfl ?_
          refine g_iload_n d_X12_isTunnel_33 rfl ?_
          refine g_iconst (v := 3) d_X12_isTunnel_34 (by decide) ?_
          refine g_iload_n d_X12_isTunnel_35 rfl ?_
          refine g_isub d_X12_isTunnel_36 ?_
          obtain ⟨r_37, h_37, h⟩ := obind h
          refine g_callV (As := [.int a0, .int (3 - a1)]) d_X12_isTunnel_37 o_X12_beside l_X12_136 ⟨Nat.le_of_ble_eq_true rfl, Nat.le_of_ble_eq_true rfl⟩ (c_m_beside hE C t a0 (3 - a1) _ h_37) (gm0 t C) rfl rfl rfl rfl rfl ?_ (Nat.zero_add _)
          obtain ⟨r_40, h_40, h⟩ := obind h
          refine g_callV (As := [.int r_37]) d_X12_isTunnel_40 o_X12_isOpen l_X12_121 ⟨Nat.le_of_ble_eq_true rfl, Nat.le_of_ble_eq_true rfl⟩ (c_m_isOpen hE C t r_37 _ h_40) (gm0 t C) rfl rfl rfl rfl rfl ?_ (Nat.zero_add _)
          refine g_if_ne (tgt := 50) d_X12_isTunnel_43 (by decide) (fun c_43 => ?_) (fun c_43 => ?_)
          · replace h := oneg c_43 h
            refine g_iconst (v := 0) d_X12_isTunnel_50 (by decide) ?_
            obtain rfl := osome h
            exact g_drop [0, 1, 2] rfl (g_end rfl)
          · replace h := opos c_43 h
            refine g_iconst (v := 1) d_X12_isTunnel_46 (by decide) ?_
            refine g_goto (tgt := 51) d_X12_isTunnel_47 (by decide) ?_
            obtain rfl := osome h
            exact g_drop [0, 1, 2] rfl (g_end rfl)
  replace h := hh_5
  obtain ⟨i_51, h⟩ := ochk h
  obtain rfl := osome h
  exact g_retZ d_X12_isTunnel_51 rfl i_51 rfl rfl
def f_isIn (t : xT) (a0 : Int32) (a1 : Int32) : Option (Int32) :=
  if a1 = 0 then (Option.bind (f_isOpen t a0) fun r_50 =>
    if r_50 &&& 1 = r_50 then (some r_50) else none)
  else (if a1 = 1 then (Option.bind (f_isGoal t a0) fun r_56 =>
      if r_56 &&& 1 = r_56 then (some r_56) else none)
    else (if a1 = 2 then (Option.bind (f_isBox t a0) fun r_62 =>
        if r_62 &&& 1 = r_62 then (some r_62) else none)
      else (if a1 = 3 then (if inB a0 64 = true then (Option.bind (if ((ra t 7) (Int32.toNatClampNeg a0)) < 0 then (some (0 : Int32))
            else (some (1 : Int32))) fun (r_72 : Int32) =>
          if r_72 &&& 1 = r_72 then (some r_72) else none) else none)
        else (if a1 = 4 then (if inB a0 64 = true then (if ((ra t 9) (Int32.toNatClampNeg a0)) &&& 1 = ((ra t 9) (Int32.toNatClampNeg a0)) then (some ((ra t 9) (Int32.toNatClampNeg a0))) else none) else none)
          else (if a1 = 5 then (if inB a0 64 = true then (if ((ra t 10) (Int32.toNatClampNeg a0)) &&& 1 = ((ra t 10) (Int32.toNatClampNeg a0)) then (some ((ra t 10) (Int32.toNatClampNeg a0))) else none) else none)
            else (if a1 = 6 then (Option.bind (f_isTunnel t a0 1) fun r_98 =>
                if r_98 &&& 1 = r_98 then (some r_98) else none)
              else (if a1 = 7 then (Option.bind (f_isTunnel t a0 0) fun r_105 =>
                  if r_105 &&& 1 = r_105 then (some r_105) else none)
                else (Option.bind (f_isBox t a0) fun r_111 =>
                  Option.bind (if r_111 = 0 then (some (0 : Int32))
                    else (Option.bind (f_isGoal t a0) fun r_119 =>
                      if r_119 = 0 then (some (0 : Int32))
                      else (some (1 : Int32)))) fun (r_114 : Int32) =>
                  if r_114 &&& 1 = r_114 then (some r_114) else none))))))))
theorem d_X12_isIn_0 : decode (mB M_X12_isIn) 0 = .ok (.iload_n 2, 1) := by decide +kernel
theorem d_X12_isIn_1 : decode (mB M_X12_isIn) 1 = .ok (.tableswitch 108 0 7 #[47, 53, 59, 65, 80, 87, 94, 101], 47) := by decide +kernel
theorem d_X12_isIn_48 : decode (mB M_X12_isIn) 48 = .ok (.aload_n 0, 1) := by decide +kernel
theorem d_X12_isIn_49 : decode (mB M_X12_isIn) 49 = .ok (.iload_n 1, 1) := by decide +kernel
theorem d_X12_isIn_50 : decode (mB M_X12_isIn) 50 = .ok (.invokevirtual 121, 3) := by decide +kernel
theorem d_X12_isIn_53 : decode (mB M_X12_isIn) 53 = .ok (.ireturn, 1) := by decide +kernel
theorem d_X12_isIn_54 : decode (mB M_X12_isIn) 54 = .ok (.aload_n 0, 1) := by decide +kernel
theorem d_X12_isIn_55 : decode (mB M_X12_isIn) 55 = .ok (.iload_n 1, 1) := by decide +kernel
theorem d_X12_isIn_56 : decode (mB M_X12_isIn) 56 = .ok (.invokevirtual 127, 3) := by decide +kernel
theorem d_X12_isIn_59 : decode (mB M_X12_isIn) 59 = .ok (.ireturn, 1) := by decide +kernel
theorem d_X12_isIn_60 : decode (mB M_X12_isIn) 60 = .ok (.aload_n 0, 1) := by decide +kernel
theorem d_X12_isIn_61 : decode (mB M_X12_isIn) 61 = .ok (.iload_n 1, 1) := by decide +kernel
theorem d_X12_isIn_62 : decode (mB M_X12_isIn) 62 = .ok (.invokevirtual 124, 3) := by decide +kernel
theorem d_X12_isIn_65 : decode (mB M_X12_isIn) 65 = .ok (.ireturn, 1) := by decide +kernel
theorem d_X12_isIn_66 : decode (mB M_X12_isIn) 66 = .ok (.aload_n 0, 1) := by decide +kernel
theorem d_X12_isIn_67 : decode (mB M_X12_isIn) 67 = .ok (.getfield 32, 3) := by decide +kernel
theorem d_X12_isIn_70 : decode (mB M_X12_isIn) 70 = .ok (.iload_n 1, 1) := by decide +kernel
theorem d_X12_isIn_71 : decode (mB M_X12_isIn) 71 = .ok (.iaload, 1) := by decide +kernel
theorem d_X12_isIn_72 : decode (mB M_X12_isIn) 72 = .ok (.ifCond .lt 7, 3) := by decide +kernel
theorem d_X12_isIn_75 : decode (mB M_X12_isIn) 75 = .ok (.iconst 1, 1) := by decide +kernel
theorem d_X12_isIn_76 : decode (mB M_X12_isIn) 76 = .ok (.goto 4, 3) := by decide +kernel
theorem d_X12_isIn_79 : decode (mB M_X12_isIn) 79 = .ok (.iconst 0, 1) := by decide +kernel
theorem d_X12_isIn_80 : decode (mB M_X12_isIn) 80 = .ok (.ireturn, 1) := by decide +kernel
theorem d_X12_isIn_81 : decode (mB M_X12_isIn) 81 = .ok (.aload_n 0, 1) := by decide +kernel
theorem d_X12_isIn_82 : decode (mB M_X12_isIn) 82 = .ok (.getfield 38, 3) := by decide +kernel
theorem d_X12_isIn_85 : decode (mB M_X12_isIn) 85 = .ok (.iload_n 1, 1) := by decide +kernel
theorem d_X12_isIn_86 : decode (mB M_X12_isIn) 86 = .ok (.baload, 1) := by decide +kernel
theorem d_X12_isIn_87 : decode (mB M_X12_isIn) 87 = .ok (.ireturn, 1) := by decide +kernel
theorem d_X12_isIn_88 : decode (mB M_X12_isIn) 88 = .ok (.aload_n 0, 1) := by decide +kernel
theorem d_X12_isIn_89 : decode (mB M_X12_isIn) 89 = .ok (.getfield 42, 3) := by decide +kernel
theorem d_X12_isIn_92 : decode (mB M_X12_isIn) 92 = .ok (.iload_n 1, 1) := by decide +kernel
theorem d_X12_isIn_93 : decode (mB M_X12_isIn) 93 = .ok (.baload, 1) := by decide +kernel
theorem d_X12_isIn_94 : decode (mB M_X12_isIn) 94 = .ok (.ireturn, 1) := by decide +kernel
theorem d_X12_isIn_95 : decode (mB M_X12_isIn) 95 = .ok (.aload_n 0, 1) := by decide +kernel
theorem d_X12_isIn_96 : decode (mB M_X12_isIn) 96 = .ok (.iload_n 1, 1) := by decide +kernel
theorem d_X12_isIn_97 : decode (mB M_X12_isIn) 97 = .ok (.iconst 1, 1) := by decide +kernel
theorem d_X12_isIn_98 : decode (mB M_X12_isIn) 98 = .ok (.invokevirtual 157, 3) := by decide +kernel
theorem d_X12_isIn_101 : decode (mB M_X12_isIn) 101 = .ok (.ireturn, 1) := by decide +kernel
theorem d_X12_isIn_102 : decode (mB M_X12_isIn) 102 = .ok (.aload_n 0, 1) := by decide +kernel
theorem d_X12_isIn_103 : decode (mB M_X12_isIn) 103 = .ok (.iload_n 1, 1) := by decide +kernel
theorem d_X12_isIn_104 : decode (mB M_X12_isIn) 104 = .ok (.iconst 0, 1) := by decide +kernel
theorem d_X12_isIn_105 : decode (mB M_X12_isIn) 105 = .ok (.invokevirtual 157, 3) := by decide +kernel
theorem d_X12_isIn_108 : decode (mB M_X12_isIn) 108 = .ok (.ireturn, 1) := by decide +kernel
theorem d_X12_isIn_109 : decode (mB M_X12_isIn) 109 = .ok (.aload_n 0, 1) := by decide +kernel
theorem d_X12_isIn_110 : decode (mB M_X12_isIn) 110 = .ok (.iload_n 1, 1) := by decide +kernel
theorem d_X12_isIn_111 : decode (mB M_X12_isIn) 111 = .ok (.invokevirtual 124, 3) := by decide +kernel
theorem d_X12_isIn_114 : decode (mB M_X12_isIn) 114 = .ok (.ifCond .eq 15, 3) := by decide +kernel
theorem d_X12_isIn_117 : decode (mB M_X12_isIn) 117 = .ok (.aload_n 0, 1) := by decide +kernel
theorem d_X12_isIn_118 : decode (mB M_X12_isIn) 118 = .ok (.iload_n 1, 1) := by decide +kernel
theorem d_X12_isIn_119 : decode (mB M_X12_isIn) 119 = .ok (.invokevirtual 127, 3) := by decide +kernel
theorem d_X12_isIn_122 : decode (mB M_X12_isIn) 122 = .ok (.ifCond .eq 7, 3) := by decide +kernel
theorem d_X12_isIn_125 : decode (mB M_X12_isIn) 125 = .ok (.iconst 1, 1) := by decide +kernel
theorem d_X12_isIn_126 : decode (mB M_X12_isIn) 126 = .ok (.goto 4, 3) := by decide +kernel
theorem d_X12_isIn_129 : decode (mB M_X12_isIn) 129 = .ok (.iconst 0, 1) := by decide +kernel
theorem d_X12_isIn_130 : decode (mB M_X12_isIn) 130 = .ok (.ireturn, 1) := by decide +kernel
theorem c_m_isIn {E : mEnv} (hE : E.1.stackTraces = false) (C : List mE) (t : xT) (a0 : Int32) (a1 : Int32) (r : Int32) (h : f_isIn t a0 a1 = some r) : Rt E M_X12_isIn 0 [.ref 0, .int a0, .int a1] (mw t, C) (some (.int r)) (mw t, C) := by
  unfold f_isIn at h
  refine Rt.of hE rfl pn_X12 (Nat.le_of_ble_eq_true rfl) ?_
  refine g_eq (S' := (0, [some (.ref 0), some (.int a0), some (.int a1)], [], (mw t, C))) rfl ?_
  refine g_iload_n d_X12_isIn_0 rfl ?_
  by_cases t_1_0 : a1 = 0
  · replace h := opos t_1_0 h
    refine g_tabIn (off := 47) (tgt := 48) d_X12_isIn_1 (by rw [t_1_0]; decide) (by rw [t_1_0]; decide) (by rw [t_1_0]; rfl) (by decide) ?_
    refine g_aload_n d_X12_isIn_48 rfl ?_
    refine g_iload_n d_X12_isIn_49 rfl ?_
    obtain ⟨r_50, h_50, h⟩ := obind h
    refine g_callV (As := [.int a0]) d_X12_isIn_50 o_X12_isOpen l_X12_121 ⟨Nat.le_of_ble_eq_true rfl, Nat.le_of_ble_eq_true rfl⟩ (c_m_isOpen hE C t a0 _ h_50) (gm0 t C) rfl rfl rfl rfl rfl ?_ (Nat.zero_add _)
    obtain ⟨i_53, h⟩ := ochk h
    obtain rfl := osome h
    exact g_retZ d_X12_isIn_53 rfl i_53 rfl rfl
  replace h := oneg t_1_0 h
  by_cases t_1_1 : a1 = 1
  · replace h := opos t_1_1 h
    refine g_tabIn (off := 53) (tgt := 54) d_X12_isIn_1 (by rw [t_1_1]; decide) (by rw [t_1_1]; decide) (by rw [t_1_1]; rfl) (by decide) ?_
    refine g_aload_n d_X12_isIn_54 rfl ?_
    refine g_iload_n d_X12_isIn_55 rfl ?_
    obtain ⟨r_56, h_56, h⟩ := obind h
    refine g_callV (As := [.int a0]) d_X12_isIn_56 o_X12_isGoal l_X12_127 ⟨Nat.le_of_ble_eq_true rfl, Nat.le_of_ble_eq_true rfl⟩ (c_m_isGoal hE C t a0 _ h_56) (gm0 t C) rfl rfl rfl rfl rfl ?_ (Nat.zero_add _)
    obtain ⟨i_59, h⟩ := ochk h
    obtain rfl := osome h
    exact g_retZ d_X12_isIn_59 rfl i_59 rfl rfl
  replace h := oneg t_1_1 h
  by_cases t_1_2 : a1 = 2
  · replace h := opos t_1_2 h
    refine g_tabIn (off := 59) (tgt := 60) d_X12_isIn_1 (by rw [t_1_2]; decide) (by rw [t_1_2]; decide) (by rw [t_1_2]; rfl) (by decide) ?_
    refine g_aload_n d_X12_isIn_60 rfl ?_
    refine g_iload_n d_X12_isIn_61 rfl ?_
    obtain ⟨r_62, h_62, h⟩ := obind h
    refine g_callV (As := [.int a0]) d_X12_isIn_62 o_X12_isBox l_X12_124 ⟨Nat.le_of_ble_eq_true rfl, Nat.le_of_ble_eq_true rfl⟩ (c_m_isBox hE C t a0 _ h_62) (gm0 t C) rfl rfl rfl rfl rfl ?_ (Nat.zero_add _)
    obtain ⟨i_65, h⟩ := ochk h
    obtain rfl := osome h
    exact g_retZ d_X12_isIn_65 rfl i_65 rfl rfl
  replace h := oneg t_1_2 h
  by_cases t_1_3 : a1 = 3
  · replace h := opos t_1_3 h
    refine g_tabIn (off := 65) (tgt := 66) d_X12_isIn_1 (by rw [t_1_3]; decide) (by rw [t_1_3]; decide) (by rw [t_1_3]; rfl) (by decide) ?_
    refine g_aload_n d_X12_isIn_66 rfl ?_
    refine g_getf d_X12_isIn_67 f_X12_32 (gm0 t C) rfl ?_
    refine g_iload_n d_X12_isIn_70 rfl ?_
    obtain ⟨i_71, h⟩ := ochk h
    refine g_iald d_X12_isIn_71 (gm_7 t C) (inB_in i_71) ?_
    obtain ⟨r_72, h_72, hh_72⟩ := obind h
    refine Go.trans0 (S1 := (80, [none, none, none], [.int r_72], (mw t, C))) ?_ ?_
    · replace h := h_72
      clear hh_72
      refine g_if_lt (tgt := 79) d_X12_isIn_72 (by decide) (fun c_72 => ?_) (fun c_72 => ?_)
      · replace h := opos c_72 h
        refine g_iconst (v := 0) d_X12_isIn_79 (by decide) ?_
        obtain rfl := osome h
        exact g_drop [0, 1, 2] rfl (g_end rfl)
      · replace h := oneg c_72 h
        refine g_iconst (v := 1) d_X12_isIn_75 (by decide) ?_
        refine g_goto (tgt := 80) d_X12_isIn_76 (by decide) ?_
        obtain rfl := osome h
        exact g_drop [0, 1, 2] rfl (g_end rfl)
    replace h := hh_72
    obtain ⟨i_80, h⟩ := ochk h
    obtain rfl := osome h
    exact g_retZ d_X12_isIn_80 rfl i_80 rfl rfl
  replace h := oneg t_1_3 h
  by_cases t_1_4 : a1 = 4
  · replace h := opos t_1_4 h
    refine g_tabIn (off := 80) (tgt := 81) d_X12_isIn_1 (by rw [t_1_4]; decide) (by rw [t_1_4]; decide) (by rw [t_1_4]; rfl) (by decide) ?_
    refine g_aload_n d_X12_isIn_81 rfl ?_
    refine g_getf d_X12_isIn_82 f_X12_38 (gm0 t C) rfl ?_
    refine g_iload_n d_X12_isIn_85 rfl ?_
    obtain ⟨i_86, h⟩ := ochk h
    refine g_zald d_X12_isIn_86 (gm_9 t C) (inB_in i_86) ?_
    obtain ⟨i_87, h⟩ := ochk h
    obtain rfl := osome h
    exact g_retZ d_X12_isIn_87 rfl i_87 rfl rfl
  replace h := oneg t_1_4 h
  by_cases t_1_5 : a1 = 5
  · replace h := opos t_1_5 h
    refine g_tabIn (off := 87) (tgt := 88) d_X12_isIn_1 (by rw [t_1_5]; decide) (by rw [t_1_5]; decide) (by rw [t_1_5]; rfl) (by decide) ?_
    refine g_aload_n d_X12_isIn_88 rfl ?_
    refine g_getf d_X12_isIn_89 f_X12_42 (gm0 t C) rfl ?_
    refine g_iload_n d_X12_isIn_92 rfl ?_
    obtain ⟨i_93, h⟩ := ochk h
    refine g_zald d_X12_isIn_93 (gm_10 t C) (inB_in i_93) ?_
    obtain ⟨i_94, h⟩ := ochk h
    obtain rfl := osome h
    exact g_retZ d_X12_isIn_94 rfl i_94 rfl rfl
  replace h := oneg t_1_5 h
  by_cases t_1_6 : a1 = 6
  · replace h := opos t_1_6 h
    refine g_tabIn (off := 94) (tgt := 95) d_X12_isIn_1 (by rw [t_1_6]; decide) (by rw [t_1_6]; decide) (by rw [t_1_6]; rfl) (by decide) ?_
    refine g_aload_n d_X12_isIn_95 rfl ?_
    refine g_iload_n d_X12_isIn_96 rfl ?_
    refine g_iconst (v := 1) d_X12_isIn_97 (by decide) ?_
    obtain ⟨r_98, h_98, h⟩ := obind h
    refine g_callV (As := [.int a0, .int 1]) d_X12_isIn_98 o_X12_isTunnel l_X12_157 ⟨Nat.le_of_ble_eq_true rfl, Nat.le_of_ble_eq_true rfl⟩ (c_m_isTunnel hE C t a0 1 _ h_98) (gm0 t C) rfl rfl rfl rfl rfl ?_ (Nat.zero_add _)
    obtain ⟨i_101, h⟩ := ochk h
    obtain rfl := osome h
    exact g_retZ d_X12_isIn_101 rfl i_101 rfl rfl
  replace h := oneg t_1_6 h
  by_cases t_1_7 : a1 = 7
  · replace h := opos t_1_7 h
    refine g_tabIn (off := 101) (tgt := 102) d_X12_isIn_1 (by rw [t_1_7]; decide) (by rw [t_1_7]; decide) (by rw [t_1_7]; rfl) (by decide) ?_
    refine g_aload_n d_X12_isIn_102 rfl ?_
    refine g_iload_n d_X12_isIn_103 rfl ?_
    refine g_iconst (v := 0) d_X12_isIn_104 (by decide) ?_
    obtain ⟨r_105, h_105, h⟩ := obind h
    refine g_callV (As := [.int a0, .int 0]) d_X12_isIn_105 o_X12_isTunnel l_X12_157 ⟨Nat.le_of_ble_eq_true rfl, Nat.le_of_ble_eq_true rfl⟩ (c_m_isTunnel hE C t a0 0 _ h_105) (gm0 t C) rfl rfl rfl rfl rfl ?_ (Nat.zero_add _)
    obtain ⟨i_108, h⟩ := ochk h
    obtain rfl := osome h
    exact g_retZ d_X12_isIn_108 rfl i_108 rfl rfl
  replace h := oneg t_1_7 h
  refine g_tabOut (tgt := 109) d_X12_isIn_1 (by have q0 : a1.toInt ≠ 0 := sw_ne t_1_0; have q1 : a1.toInt ≠ 1 := sw_ne t_1_1; have q2 : a1.toInt ≠ 2 := sw_ne t_1_2; have q3 : a1.toInt ≠ 3 := sw_ne t_1_3; have q4 : a1.toInt ≠ 4 := sw_ne t_1_4; have q5 : a1.toInt ≠ 5 := sw_ne t_1_5; have q6 : a1.toInt ≠ 6 := sw_ne t_1_6; have q7 : a1.toInt ≠ 7 := sw_ne t_1_7; omega) (by decide) ?_
  refine g_aload_n d_X12_isIn_109 rfl ?_
  refine g_iload_n d_X12_isIn_110 rfl ?_
  obtain ⟨r_111, h_111, h⟩ := obind h
  refine g_callV (As := [.int a0]) d_X12_isIn_111 o_X12_isBox l_X12_124 ⟨Nat.le_of_ble_eq_true rfl, Nat.le_of_ble_eq_true rfl⟩ (c_m_isBox hE C t a0 _ h_111) (gm0 t C) rfl rfl rfl rfl rfl ?_ (Nat.zero_add _)
  obtain ⟨r_114, h_114, hh_114⟩ := obind h
  refine Go.trans0 (S1 := (130, [none, none, none], [.int r_114], (mw t, C))) ?_ ?_
  · replace h := h_114
    clear hh_114
    refine g_if_eq (tgt := 129) d_X12_isIn_114 (by decide) (fun c_114 => ?_) (fun c_114 => ?_)
    · replace h := opos c_114 h
      refine g_iconst (v := 0) d_X12_isIn_129 (by decide) ?_
      obtain rfl := osome h
      exact g_drop [0, 1, 2] rfl (g_end rfl)
    · replace h := oneg c_114 h
      refine g_aload_n d_X12_isIn_117 rfl ?_
      refine g_iload_n d_X12_isIn_118 rfl ?_
      obtain ⟨r_119, h_119, h⟩ := obind h
      refine g_callV (As := [.int a0]) d_X12_isIn_119 o_X12_isGoal l_X12_127 ⟨Nat.le_of_ble_eq_true rfl, Nat.le_of_ble_eq_true rfl⟩ (c_m_isGoal hE C t a0 _ h_119) (gm0 t C) rfl rfl rfl rfl rfl ?_ (Nat.zero_add _)
      refine g_if_eq (tgt := 129) d_X12_isIn_122 (by decide) (fun c_122 => ?_) (fun c_122 => ?_)
      · replace h := opos c_122 h
        refine g_iconst (v := 0) d_X12_isIn_129 (by decide) ?_
        obtain rfl := osome h
        exact g_drop [0, 1, 2] rfl (g_end rfl)
      · replace h := oneg c_122 h
        refine g_iconst (v := 1) d_X12_isIn_125 (by decide) ?_
        refine g_goto (tgt := 130) d_X12_isIn_126 (by decide) ?_
        obtain rfl := osome h
        exact g_drop [0, 1, 2] rfl (g_end rfl)
  replace h := hh_114
  obtain ⟨i_130, h⟩ := ochk h
  obtain rfl := osome h
  exact g_retZ d_X12_isIn_130 rfl i_130 rfl rfl
