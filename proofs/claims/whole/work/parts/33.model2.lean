/-! the model, further -/
def f_cells_L (N : Nat) : Nat → Int32 → Int64 → Int32 → xT → Option (Int64 × xT)
  | 0, _, _, _, _ => none
  | n + 1, v1, v2, v4, t =>
    if (f_size t) ≤ v4 then (some (v2, t))
    else (Option.bind (f_isIn t v4 v1) fun r_76 =>
      Option.bind (if r_76 = 0 then (some (0 : Int64))
        else (some (jshl 1 v4))) fun (r_79 : Int64) =>
      f_cells_L N n v1 (v2 ||| r_79) (v4 + 1) t)
theorem u_cells_62 (N n : Nat) (v1 : Int32) (v2 : Int64) (v4 : Int32) (t : xT) : f_cells_L N (n + 1) v1 v2 v4 t = (if (f_size t) ≤ v4 then (some (v2, t))
    else (Option.bind (f_isIn t v4 v1) fun r_76 =>
      Option.bind (if r_76 = 0 then (some (0 : Int64))
        else (some (jshl 1 v4))) fun (r_79 : Int64) =>
      f_cells_L N n v1 (v2 ||| r_79) (v4 + 1) t)) := rfl
def f_cells (N : Nat) (t : xT) (a0 : Int32) : Option (Int64 × xT) :=
  Option.bind (f_hasRoom t) fun r_2 =>
  Option.bind (if r_2 = 0 then (some (1 : Int32))
    else (Option.bind (f_in a0 0 8) fun r_12 =>
      if r_12 = 0 then (some (2 : Int32))
      else (some (0 : Int32)))) fun (r_5 : Int32) =>
  Option.bind (some (ws t 9 r_5)) fun t_27 =>
  if (rs t_27 9) ≤ 0 then (Option.bind (f_dies N t_27) fun r_40 =>
    Option.bind (f_walksFrom N r_40 ((ra r_40 1) (Int32.toNatClampNeg 3))) fun r_50 =>
    Option.bind (f_freezes N r_50) fun r_54 =>
    f_cells_L N N a0 0 0 r_54)
  else (some ((0 : Int64), t_27))
theorem d_X12_cells_0 : decode (mB M_X12_cells) 0 = .ok (.aload_n 0, 1) := by decide +kernel
theorem d_X12_cells_1 : decode (mB M_X12_cells) 1 = .ok (.aload_n 0, 1) := by decide +kernel
theorem d_X12_cells_2 : decode (mB M_X12_cells) 2 = .ok (.invokevirtual 83, 3) := by decide +kernel
theorem d_X12_cells_5 : decode (mB M_X12_cells) 5 = .ok (.ifCond .eq 21, 3) := by decide +kernel
theorem d_X12_cells_8 : decode (mB M_X12_cells) 8 = .ok (.iload_n 1, 1) := by decide +kernel
theorem d_X12_cells_9 : decode (mB M_X12_cells) 9 = .ok (.iconst 0, 1) := by decide +kernel
theorem d_X12_cells_10 : decode (mB M_X12_cells) 10 = .ok (.bipush 8, 2) := by decide +kernel
theorem d_X12_cells_12 : decode (mB M_X12_cells) 12 = .ok (.invokestatic 76, 3) := by decide +kernel
theorem d_X12_cells_15 : decode (mB M_X12_cells) 15 = .ok (.ifCond .eq 7, 3) := by decide +kernel
theorem d_X12_cells_18 : decode (mB M_X12_cells) 18 = .ok (.iconst 0, 1) := by decide +kernel
theorem d_X12_cells_19 : decode (mB M_X12_cells) 19 = .ok (.goto 8, 3) := by decide +kernel
theorem d_X12_cells_22 : decode (mB M_X12_cells) 22 = .ok (.iconst 2, 1) := by decide +kernel
theorem d_X12_cells_23 : decode (mB M_X12_cells) 23 = .ok (.goto 4, 3) := by decide +kernel
theorem d_X12_cells_26 : decode (mB M_X12_cells) 26 = .ok (.iconst 1, 1) := by decide +kernel
theorem d_X12_cells_27 : decode (mB M_X12_cells) 27 = .ok (.putfield 73, 3) := by decide +kernel
theorem d_X12_cells_30 : decode (mB M_X12_cells) 30 = .ok (.aload_n 0, 1) := by decide +kernel
theorem d_X12_cells_31 : decode (mB M_X12_cells) 31 = .ok (.getfield 73, 3) := by decide +kernel
theorem d_X12_cells_34 : decode (mB M_X12_cells) 34 = .ok (.ifCond .le 5, 3) := by decide +kernel
theorem d_X12_cells_37 : decode (mB M_X12_cells) 37 = .ok (.lconst 0, 1) := by decide +kernel
theorem d_X12_cells_38 : decode (mB M_X12_cells) 38 = .ok (.lreturn, 1) := by decide +kernel
theorem d_X12_cells_39 : decode (mB M_X12_cells) 39 = .ok (.aload_n 0, 1) := by decide +kernel
theorem d_X12_cells_40 : decode (mB M_X12_cells) 40 = .ok (.invokevirtual 160, 3) := by decide +kernel
theorem d_X12_cells_43 : decode (mB M_X12_cells) 43 = .ok (.aload_n 0, 1) := by decide +kernel
theorem d_X12_cells_44 : decode (mB M_X12_cells) 44 = .ok (.aload_n 0, 1) := by decide +kernel
theorem d_X12_cells_45 : decode (mB M_X12_cells) 45 = .ok (.getfield 7, 3) := by decide +kernel
theorem d_X12_cells_48 : decode (mB M_X12_cells) 48 = .ok (.iconst 3, 1) := by decide +kernel
theorem d_X12_cells_49 : decode (mB M_X12_cells) 49 = .ok (.iaload, 1) := by decide +kernel
theorem d_X12_cells_50 : decode (mB M_X12_cells) 50 = .ok (.invokevirtual 163, 3) := by decide +kernel
theorem d_X12_cells_53 : decode (mB M_X12_cells) 53 = .ok (.aload_n 0, 1) := by decide +kernel
theorem d_X12_cells_54 : decode (mB M_X12_cells) 54 = .ok (.invokevirtual 151, 3) := by decide +kernel
theorem d_X12_cells_57 : decode (mB M_X12_cells) 57 = .ok (.lconst 0, 1) := by decide +kernel
theorem d_X12_cells_58 : decode (mB M_X12_cells) 58 = .ok (.lstore_n 2, 1) := by decide +kernel
theorem d_X12_cells_59 : decode (mB M_X12_cells) 59 = .ok (.iconst 0, 1) := by decide +kernel
theorem d_X12_cells_60 : decode (mB M_X12_cells) 60 = .ok (.istore 4, 2) := by decide +kernel
theorem d_X12_cells_62 : decode (mB M_X12_cells) 62 = .ok (.iload 4, 2) := by decide +kernel
theorem d_X12_cells_64 : decode (mB M_X12_cells) 64 = .ok (.aload_n 0, 1) := by decide +kernel
theorem d_X12_cells_65 : decode (mB M_X12_cells) 65 = .ok (.invokevirtual 130, 3) := by decide +kernel
theorem d_X12_cells_68 : decode (mB M_X12_cells) 68 = .ok (.if_icmp .ge 30, 3) := by decide +kernel
theorem d_X12_cells_71 : decode (mB M_X12_cells) 71 = .ok (.lload_n 2, 1) := by decide +kernel
theorem d_X12_cells_72 : decode (mB M_X12_cells) 72 = .ok (.aload_n 0, 1) := by decide +kernel
theorem d_X12_cells_73 : decode (mB M_X12_cells) 73 = .ok (.iload 4, 2) := by decide +kernel
theorem d_X12_cells_75 : decode (mB M_X12_cells) 75 = .ok (.iload_n 1, 1) := by decide +kernel
theorem d_X12_cells_76 : decode (mB M_X12_cells) 76 = .ok (.invokevirtual 166, 3) := by decide +kernel
theorem d_X12_cells_79 : decode (mB M_X12_cells) 79 = .ok (.ifCond .eq 10, 3) := by decide +kernel
theorem d_X12_cells_82 : decode (mB M_X12_cells) 82 = .ok (.lconst 1, 1) := by decide +kernel
theorem d_X12_cells_83 : decode (mB M_X12_cells) 83 = .ok (.iload 4, 2) := by decide +kernel
theorem d_X12_cells_85 : decode (mB M_X12_cells) 85 = .ok (.lshl, 1) := by decide +kernel
theorem d_X12_cells_86 : decode (mB M_X12_cells) 86 = .ok (.goto 4, 3) := by decide +kernel
theorem d_X12_cells_89 : decode (mB M_X12_cells) 89 = .ok (.lconst 0, 1) := by decide +kernel
theorem d_X12_cells_90 : decode (mB M_X12_cells) 90 = .ok (.lor, 1) := by decide +kernel
theorem d_X12_cells_91 : decode (mB M_X12_cells) 91 = .ok (.lstore_n 2, 1) := by decide +kernel
theorem d_X12_cells_92 : decode (mB M_X12_cells) 92 = .ok (.iinc 4 1, 3) := by decide +kernel
theorem d_X12_cells_95 : decode (mB M_X12_cells) 95 = .ok (.goto (-33), 3) := by decide +kernel
theorem d_X12_cells_98 : decode (mB M_X12_cells) 98 = .ok (.lload_n 2, 1) := by decide +kernel
theorem d_X12_cells_99 : decode (mB M_X12_cells) 99 = .ok (.lreturn, 1) := by decide +kernel
theorem l_m_cells {E : mEnv} (hE : E.1.stackTraces = false) (C : List mE) (N : Nat) : ∀ n : Nat, (∀ (v1 : Int32) (v2 : Int64) (v4 : Int32) (t : xT) (r : Int64 × xT), f_cells_L N n v1 v2 v4 t = some r → Go E M_X12_cells 0 (62, [some (.ref 0), some (.int v1), some (.long v2), none, some (.int v4)], [], (mw t, C)) (.inr (.inl (some (.long r.1), (mw r.2, C))))) := by
  intro n
  induction n with
  | zero => exact fun v1 v2 v4 t r h => by cases h
  | succ n ih =>
    intro v1 v2 v4 t r h
    rw [u_cells_62] at h
    refine g_iload d_X12_cells_62 rfl ?_
    refine g_aload_n d_X12_cells_64 rfl ?_
    refine g_callV (As := []) d_X12_cells_65 o_X12_size l_X12_130 ⟨Nat.le_of_ble_eq_true rfl, Nat.le_of_ble_eq_true rfl⟩ (c_m_size hE C t) (gm0 t C) rfl rfl rfl rfl rfl ?_ (Nat.zero_add _)
    refine g_icmp_ge (tgt := 98) d_X12_cells_68 (by decide) (fun c_68 => ?_) (fun c_68 => ?_)
    · replace h := opos c_68 h
      refine g_lload_n d_X12_cells_98 rfl ?_
      obtain rfl := osome h
      exact g_retL d_X12_cells_99 rfl rfl rfl
    · replace h := oneg c_68 h
      refine g_lload_n d_X12_cells_71 rfl ?_
      refine g_aload_n d_X12_cells_72 rfl ?_
      refine g_iload d_X12_cells_73 rfl ?_
      refine g_iload_n d_X12_cells_75 rfl ?_
      obtain ⟨r_76, h_76, h⟩ := obind h
      refine g_callV (As := [.int v4, .int v1]) d_X12_cells_76 o_X12_isIn l_X12_166 ⟨Nat.le_of_ble_eq_true rfl, Nat.le_of_ble_eq_true rfl⟩ (c_m_isIn hE C t v4 v1 _ h_76) (gm0 t C) rfl rfl rfl rfl rfl ?_ (Nat.zero_add _)
      obtain ⟨r_79, h_79, hh_79⟩ := obind h
      refine Go.trans0 (S1 := (90, [some (.ref 0), some (.int v1), none, none, some (.int v4)], [.long r_79, .long v2], (mw t, C))) ?_ ?_
      · replace h := h_79
        clear hh_79
        refine g_if_eq (tgt := 89) d_X12_cells_79 (by decide) (fun c_79 => ?_) (fun c_79 => ?_)
        · replace h := opos c_79 h
          refine g_lconst (v := 0) d_X12_cells_89 (by decide) ?_
          obtain rfl := osome h
          exact g_drop [2] rfl (g_end rfl)
        · replace h := oneg c_79 h
          refine g_lconst (v := 1) d_X12_cells_82 (by decide) ?_
          refine g_iload d_X12_cells_83 rfl ?_
          refine g_lshl (v := (jshl 1 v4)) d_X12_cells_85 rfl ?_
          refine g_goto (tgt := 90) d_X12_cells_86 (by decide) ?_
          obtain rfl := osome h
          exact g_drop [2] rfl (g_end rfl)
      replace h := hh_79
      refine g_lor d_X12_cells_90 ?_
      refine g_lstore_n (L' := [some (.ref 0), some (.int v1), some (.long (v2 ||| r_79)), none, some (.int v4)]) d_X12_cells_91 rfl rfl ?_
      refine g_iinc (v := (v4 + 1)) (L' := [some (.ref 0), some (.int v1), some (.long (v2 ||| r_79)), none, some (.int (v4 + 1))]) d_X12_cells_92 rfl rfl rfl ?_
      refine g_goto (tgt := 62) d_X12_cells_95 (by decide) ?_
      exact (ih) v1 (v2 ||| r_79) (v4 + 1) t _ h
theorem c_m_cells {E : mEnv} (hE : E.1.stackTraces = false) (C : List mE) (N : Nat) (t : xT) (a0 : Int32) (r : Int64 × xT) (h : f_cells N t a0 = some r) : Rt E M_X12_cells 0 [.ref 0, .int a0] (mw t, C) (some (.long r.1)) (mw r.2, C) := by
  unfold f_cells at h
  refine Rt.of hE rfl pn_X12 (Nat.le_of_ble_eq_true rfl) ?_
  refine g_eq (S' := (0, [some (.ref 0), some (.int a0), none, none, none], [], (mw t, C))) rfl ?_
  refine g_aload_n d_X12_cells_0 rfl ?_
  refine g_aload_n d_X12_cells_1 rfl ?_
  obtain ⟨r_2, h_2, h⟩ := obind h
  refine g_callV (As := []) d_X12_cells_2 o_X12_hasRoom l_X12_83 ⟨Nat.le_of_ble_eq_true rfl, Nat.le_of_ble_eq_true rfl⟩ (c_m_hasRoom hE C t _ h_2) (gm0 t C) rfl rfl rfl rfl rfl ?_ (Nat.zero_add _)
  obtain ⟨r_5, h_5, hh_5⟩ := obind h
  refine Go.trans0 (S1 := (27, [some (.ref 0), some (.int a0), none, none, none], [.int r_5, .ref 0], (mw t, C))) ?_ ?_
  · replace h := h_5
    clear hh_5
    refine g_if_eq (tgt := 26) d_X12_cells_5 (by decide) (fun c_5 => ?_) (fun c_5 => ?_)
    · replace h := opos c_5 h
      refine g_iconst (v := 1) d_X12_cells_26 (by decide) ?_
      obtain rfl := osome h
      exact g_end rfl
    · replace h := oneg c_5 h
      refine g_iload_n d_X12_cells_8 rfl ?_
      refine g_iconst (v := 0) d_X12_cells_9 (by decide) ?_
      refine g_bipush (v := 8) d_X12_cells_10 (by decide) ?_
      obtain ⟨r_12, h_12, h⟩ := obind h
      refine g_callS (As := [.int a0, .int 0, .int 8]) d_X12_cells_12 o_X12_in l_X12_76 ⟨Nat.le_of_ble_eq_true rfl, Nat.le_of_ble_eq_true rfl⟩ (c_m_in hE C t a0 0 8 _ h_12) rfl rfl ?_ (Nat.zero_add _)
      refine g_if_eq (tgt := 22) d_X12_cells_15 (by decide) (fun c_15 => ?_) (fun c_15 => ?_)
      · replace h := opos c_15 h
        refine g_iconst (v := 2) d_X12_cells_22 (by decide) ?_
        refine g_goto (tgt := 27) d_X12_cells_23 (by decide) ?_
        obtain rfl := osome h
        exact g_end rfl
      · replace h := oneg c_15 h
        refine g_iconst (v := 0) d_X12_cells_18 (by decide) ?_
        refine g_goto (tgt := 27) d_X12_cells_19 (by decide) ?_
        obtain rfl := osome h
        exact g_end rfl
  replace h := hh_5
  obtain ⟨t_27, e_27, h⟩ := olet h
  refine g_putI (w' := (mw t_27, C)) d_X12_cells_27 p_X12_73 rfl rfl (gm0 t C) (Nat.le_of_ble_eq_true rfl) (by rw [e_27]; exact sc_9 t C _) ?_
  refine g_aload_n d_X12_cells_30 rfl ?_
  refine g_getf d_X12_cells_31 f_X12_73 (gm0 t_27 C) rfl ?_
  refine g_if_le (tgt := 39) d_X12_cells_34 (by decide) (fun c_34 => ?_) (fun c_34 => ?_)
  · replace h := opos c_34 h
    refine g_aload_n d_X12_cells_39 rfl ?_
    obtain ⟨r_40, h_40, h⟩ := obind h
    refine g_callV (As := []) d_X12_cells_40 o_X12_dies l_X12_160 ⟨Nat.le_of_ble_eq_true rfl, Nat.le_of_ble_eq_true rfl⟩ (c_m_dies hE C N t_27 _ h_40) (gm0 t_27 C) rfl rfl rfl rfl rfl ?_ (Nat.zero_add _)
    refine g_aload_n d_X12_cells_43 rfl ?_
    refine g_aload_n d_X12_cells_44 rfl ?_
    refine g_getf d_X12_cells_45 f_X12_7 (gm0 r_40 C) rfl ?_
    refine g_iconst (v := 3) d_X12_cells_48 (by decide) ?_
    refine g_iald d_X12_cells_49 (gm_1 r_40 C) (inB_in (by decide)) ?_
    obtain ⟨r_50, h_50, h⟩ := obind h
    refine g_callV (As := [.int ((ra r_40 1) (Int32.toNatClampNeg 3))]) d_X12_cells_50 o_X12_walksFrom l_X12_163 ⟨Nat.le_of_ble_eq_true rfl, Nat.le_of_ble_eq_true rfl⟩ (c_m_walksFrom hE C N r_40 ((ra r_40 1) (Int32.toNatClampNeg 3)) _ h_50) (gm0 r_40 C) rfl rfl rfl rfl rfl ?_ (Nat.zero_add _)
    refine g_aload_n d_X12_cells_53 rfl ?_
    obtain ⟨r_54, h_54, h⟩ := obind h
    refine g_callV (As := []) d_X12_cells_54 o_X12_freezes l_X12_151 ⟨Nat.le_of_ble_eq_true rfl, Nat.le_of_ble_eq_true rfl⟩ (c_m_freezes hE C N r_50 _ h_54) (gm0 r_50 C) rfl rfl rfl rfl rfl ?_ (Nat.zero_add _)
    refine g_lconst (v := 0) d_X12_cells_57 (by decide) ?_
    refine g_lstore_n (L' := [some (.ref 0), some (.int a0), some (.long 0), none, none]) d_X12_cells_58 rfl rfl ?_
    refine g_iconst (v := 0) d_X12_cells_59 (by decide) ?_
    refine g_istore (L' := [some (.ref 0), some (.int a0), some (.long 0), none, some (.int 0)]) d_X12_cells_60 rfl rfl ?_
    exact (l_m_cells hE C N N) a0 0 0 r_54 _ h
  · replace h := oneg c_34 h
    refine g_lconst (v := 0) d_X12_cells_37 (by decide) ?_
    obtain rfl := osome h
    exact g_retL d_X12_cells_38 rfl rfl rfl
def f_counted_L (N : Nat) : Nat → Int32 → Int32 → Int32 → xT → Option (Int32)
  | 0, _, _, _, _ => none
  | n + 1, v1, v2, v3, t =>
    if (f_size t) ≤ v3 then (some v2)
    else (Option.bind (if v1 = 0 then (Option.bind (f_isGoal t v3) fun r_31 =>
          if r_31 = 0 then (some (0 : Int32))
          else (some (1 : Int32)))
        else (if inB (74 + v3) 602 = true then (some ((ra t 1) (Int32.toNatClampNeg (74 + v3)))) else none)) fun (r_14 : Int32) =>
      f_counted_L N n v1 (v2 + r_14) (v3 + 1) t)
theorem u_counted_4 (N n : Nat) (v1 : Int32) (v2 : Int32) (v3 : Int32) (t : xT) : f_counted_L N (n + 1) v1 v2 v3 t = (if (f_size t) ≤ v3 then (some v2)
    else (Option.bind (if v1 = 0 then (Option.bind (f_isGoal t v3) fun r_31 =>
          if r_31 = 0 then (some (0 : Int32))
          else (some (1 : Int32)))
        else (if inB (74 + v3) 602 = true then (some ((ra t 1) (Int32.toNatClampNeg (74 + v3)))) else none)) fun (r_14 : Int32) =>
      f_counted_L N n v1 (v2 + r_14) (v3 + 1) t)) := rfl
def f_counted (N : Nat) (t : xT) (a0 : Int32) : Option (Int32) :=
  f_counted_L N N a0 0 0 t
theorem d_X12_counted_0 : decode (mB M_X12_counted) 0 = .ok (.iconst 0, 1) := by decide +kernel
theorem d_X12_counted_1 : decode (mB M_X12_counted) 1 = .ok (.istore_n 2, 1) := by decide +kernel
theorem d_X12_counted_2 : decode (mB M_X12_counted) 2 = .ok (.iconst 0, 1) := by decide +kernel
theorem d_X12_counted_3 : decode (mB M_X12_counted) 3 = .ok (.istore_n 3, 1) := by decide +kernel
theorem d_X12_counted_4 : decode (mB M_X12_counted) 4 = .ok (.iload_n 3, 1) := by decide +kernel
theorem d_X12_counted_5 : decode (mB M_X12_counted) 5 = .ok (.aload_n 0, 1) := by decide +kernel
theorem d_X12_counted_6 : decode (mB M_X12_counted) 6 = .ok (.invokevirtual 130, 3) := by decide +kernel
theorem d_X12_counted_9 : decode (mB M_X12_counted) 9 = .ok (.if_icmp .ge 41, 3) := by decide +kernel
theorem d_X12_counted_12 : decode (mB M_X12_counted) 12 = .ok (.iload_n 2, 1) := by decide +kernel
theorem d_X12_counted_13 : decode (mB M_X12_counted) 13 = .ok (.iload_n 1, 1) := by decide +kernel
theorem d_X12_counted_14 : decode (mB M_X12_counted) 14 = .ok (.ifCond .eq 15, 3) := by decide +kernel
theorem d_X12_counted_17 : decode (mB M_X12_counted) 17 = .ok (.aload_n 0, 1) := by decide +kernel
theorem d_X12_counted_18 : decode (mB M_X12_counted) 18 = .ok (.getfield 7, 3) := by decide +kernel
theorem d_X12_counted_21 : decode (mB M_X12_counted) 21 = .ok (.bipush 74, 2) := by decide +kernel
theorem d_X12_counted_23 : decode (mB M_X12_counted) 23 = .ok (.iload_n 3, 1) := by decide +kernel
theorem d_X12_counted_24 : decode (mB M_X12_counted) 24 = .ok (.iadd, 1) := by decide +kernel
theorem d_X12_counted_25 : decode (mB M_X12_counted) 25 = .ok (.iaload, 1) := by decide +kernel
theorem d_X12_counted_26 : decode (mB M_X12_counted) 26 = .ok (.goto 16, 3) := by decide +kernel
theorem d_X12_counted_29 : decode (mB M_X12_counted) 29 = .ok (.aload_n 0, 1) := by decide +kernel
theorem d_X12_counted_30 : decode (mB M_X12_counted) 30 = .ok (.iload_n 3, 1) := by decide +kernel
theorem d_X12_counted_31 : decode (mB M_X12_counted) 31 = .ok (.invokevirtual 127, 3) := by decide +kernel
theorem d_X12_counted_34 : decode (mB M_X12_counted) 34 = .ok (.ifCond .eq 7, 3) := by decide +kernel
theorem d_X12_counted_37 : decode (mB M_X12_counted) 37 = .ok (.iconst 1, 1) := by decide +kernel
theorem d_X12_counted_38 : decode (mB M_X12_counted) 38 = .ok (.goto 4, 3) := by decide +kernel
theorem d_X12_counted_41 : decode (mB M_X12_counted) 41 = .ok (.iconst 0, 1) := by decide +kernel
theorem d_X12_counted_42 : decode (mB M_X12_counted) 42 = .ok (.iadd, 1) := by decide +kernel
theorem d_X12_counted_43 : decode (mB M_X12_counted) 43 = .ok (.istore_n 2, 1) := by decide +kernel
theorem d_X12_counted_44 : decode (mB M_X12_counted) 44 = .ok (.iinc 3 1, 3) := by decide +kernel
theorem d_X12_counted_47 : decode (mB M_X12_counted) 47 = .ok (.goto (-43), 3) := by decide +kernel
theorem d_X12_counted_50 : decode (mB M_X12_counted) 50 = .ok (.iload_n 2, 1) := by decide +kernel
theorem d_X12_counted_51 : decode (mB M_X12_counted) 51 = .ok (.ireturn, 1) := by decide +kernel
theorem l_m_counted {E : mEnv} (hE : E.1.stackTraces = false) (C : List mE) (N : Nat) : ∀ n : Nat, (∀ (v1 : Int32) (v2 : Int32) (v3 : Int32) (t : xT) (r : Int32), f_counted_L N n v1 v2 v3 t = some r → Go E M_X12_counted 0 (4, [some (.ref 0), some (.int v1), some (.int v2), some (.int v3)], [], (mw t, C)) (.inr (.inl (some (.int r), (mw t, C))))) := by
  intro n
  induction n with
  | zero => exact fun v1 v2 v3 t r h => by cases h
  | succ n ih =>
    intro v1 v2 v3 t r h
    rw [u_counted_4] at h
    refine g_iload_n d_X12_counted_4 rfl ?_
    refine g_aload_n d_X12_counted_5 rfl ?_
    refine g_callV (As := []) d_X12_counted_6 o_X12_size l_X12_130 ⟨Nat.le_of_ble_eq_true rfl, Nat.le_of_ble_eq_true rfl⟩ (c_m_size hE C t) (gm0 t C) rfl rfl rfl rfl rfl ?_ (Nat.zero_add _)
    refine g_icmp_ge (tgt := 50) d_X12_counted_9 (by decide) (fun c_9 => ?_) (fun c_9 => ?_)
    · replace h := opos c_9 h
      refine g_iload_n d_X12_counted_50 rfl ?_
      obtain rfl := osome h
      exact g_retI d_X12_counted_51 rfl rfl rfl
    · replace h := oneg c_9 h
      refine g_iload_n d_X12_counted_12 rfl ?_
      refine g_iload_n d_X12_counted_13 rfl ?_
      obtain ⟨r_14, h_14, hh_14⟩ := obind h
      refine Go.trans0 (S1 := (42, [some (.ref 0), some (.int v1), none, some (.int v3)], [.int r_14, .int v2], (mw t, C))) ?_ ?_
      · replace h := h_14
        clear hh_14
        refine g_if_eq (tgt := 29) d_X12_counted_14 (by decide) (fun c_14 => ?_) (fun c_14 => ?_)
        · replace h := opos c_14 h
          refine g_aload_n d_X12_counted_29 rfl ?_
          refine g_iload_n d_X12_counted_30 rfl ?_
          obtain ⟨r_31, h_31, h⟩ := obind h
          refine g_callV (As := [.int v3]) d_X12_counted_31 o_X12_isGoal l_X12_127 ⟨Nat.le_of_ble_eq_true rfl, Nat.le_of_ble_eq_true rfl⟩ (c_m_isGoal hE C t v3 _ h_31) (gm0 t C) rfl rfl rfl rfl rfl ?_ (Nat.zero_add _)
          refine g_if_eq (tgt := 41) d_X12_counted_34 (by decide) (fun c_34 => ?_) (fun c_34 => ?_)
          · replace h := opos c_34 h
            refine g_iconst (v := 0) d_X12_counted_41 (by decide) ?_
            obtain rfl := osome h
            exact g_drop [2] rfl (g_end rfl)
          · replace h := oneg c_34 h
            refine g_iconst (v := 1) d_X12_counted_37 (by decide) ?_
            refine g_goto (tgt := 42) d_X12_counted_38 (by decide) ?_
            obtain rfl := osome h
            exact g_drop [2] rfl (g_end rfl)
        · replace h := oneg c_14 h
          refine g_aload_n d_X12_counted_17 rfl ?_
          refine g_getf d_X12_counted_18 f_X12_7 (gm0 t C) rfl ?_
          refine g_bipush (v := 74) d_X12_counted_21 (by decide) ?_
          refine g_iload_n d_X12_counted_23 rfl ?_
          refine g_iadd d_X12_counted_24 ?_
          obtain ⟨i_25, h⟩ := ochk h
          refine g_iald d_X12_counted_25 (gm_1 t C) (inB_in i_25) ?_
          refine g_goto (tgt := 42) d_X12_counted_26 (by decide) ?_
          obtain rfl := osome h
          exact g_drop [2] rfl (g_end rfl)
      replace h := hh_14
      refine g_iadd d_X12_counted_42 ?_
      refine g_istore_n (L' := [some (.ref 0), some (.int v1), some (.int (v2 + r_14)), some (.int v3)]) d_X12_counted_43 rfl rfl ?_
      refine g_iinc (v := (v3 + 1)) (L' := [some (.ref 0), some (.int v1), some (.int (v2 + r_14)), some (.int (v3 + 1))]) d_X12_counted_44 rfl rfl rfl ?_
      refine g_goto (tgt := 4) d_X12_counted_47 (by decide) ?_
      exact (ih) v1 (v2 + r_14) (v3 + 1) t _ h
theorem c_m_counted {E : mEnv} (hE : E.1.stackTraces = false) (C : List mE) (N : Nat) (t : xT) (a0 : Int32) (r : Int32) (h : f_counted N t a0 = some r) : Rt E M_X12_counted 0 [.ref 0, .int a0] (mw t, C) (some (.int r)) (mw t, C) := by
  unfold f_counted at h
  refine Rt.of hE rfl pn_X12 (Nat.le_of_ble_eq_true rfl) ?_
  refine g_eq (S' := (0, [some (.ref 0), some (.int a0), none, none], [], (mw t, C))) rfl ?_
  refine g_iconst (v := 0) d_X12_counted_0 (by decide) ?_
  refine g_istore_n (L' := [some (.ref 0), some (.int a0), some (.int 0), none]) d_X12_counted_1 rfl rfl ?_
  refine g_iconst (v := 0) d_X12_counted_2 (by decide) ?_
  refine g_istore_n (L' := [some (.ref 0), some (.int a0), some (.int 0), some (.int 0)]) d_X12_counted_3 rfl rfl ?_
  exact (l_m_counted hE C N N) a0 0 0 t _ h
def f_recordedPushes_L (N : Nat) : Nat → Int32 → Int32 → xT → Option (Int32)
  | 0, _, _, _ => none
  | n + 1, v1, v2, t =>
    if ((ra t 1) (Int32.toNatClampNeg 4)) ≤ v2 then (some v1)
    else (if inB (202 + v2) 602 = true then (Option.bind (if ((ra t 1) (Int32.toNatClampNeg (202 + v2))) < 4 then (some (0 : Int32))
        else (some (1 : Int32))) fun (r_26 : Int32) =>
      f_recordedPushes_L N n (v1 + r_26) (v2 + 1) t) else none)
theorem u_recordedPushes_4 (N n : Nat) (v1 : Int32) (v2 : Int32) (t : xT) : f_recordedPushes_L N (n + 1) v1 v2 t = (if ((ra t 1) (Int32.toNatClampNeg 4)) ≤ v2 then (some v1)
    else (if inB (202 + v2) 602 = true then (Option.bind (if ((ra t 1) (Int32.toNatClampNeg (202 + v2))) < 4 then (some (0 : Int32))
        else (some (1 : Int32))) fun (r_26 : Int32) =>
      f_recordedPushes_L N n (v1 + r_26) (v2 + 1) t) else none)) := rfl
def f_recordedPushes (N : Nat) (t : xT)  : Option (Int32) :=
  f_recordedPushes_L N N 0 0 t
theorem d_X12_recordedPushes_0 : decode (mB M_X12_recordedPushes) 0 = .ok (.iconst 0, 1) := by decide +kernel
theorem d_X12_recordedPushes_1 : decode (mB M_X12_recordedPushes) 1 = .ok (.istore_n 1, 1) := by decide +kernel
theorem d_X12_recordedPushes_2 : decode (mB M_X12_recordedPushes) 2 = .ok (.iconst 0, 1) := by decide +kernel
theorem d_X12_recordedPushes_3 : decode (mB M_X12_recordedPushes) 3 = .ok (.istore_n 2, 1) := by decide +kernel
theorem d_X12_recordedPushes_4 : decode (mB M_X12_recordedPushes) 4 = .ok (.iload_n 2, 1) := by decide +kernel
theorem d_X12_recordedPushes_5 : decode (mB M_X12_recordedPushes) 5 = .ok (.aload_n 0, 1) := by decide +kernel
theorem d_X12_recordedPushes_6 : decode (mB M_X12_recordedPushes) 6 = .ok (.getfield 7, 3) := by decide +kernel
theorem d_X12_recordedPushes_9 : decode (mB M_X12_recordedPushes) 9 = .ok (.iconst 4, 1) := by decide +kernel
theorem d_X12_recordedPushes_10 : decode (mB M_X12_recordedPushes) 10 = .ok (.iaload, 1) := by decide +kernel
theorem d_X12_recordedPushes_11 : decode (mB M_X12_recordedPushes) 11 = .ok (.if_icmp .ge 31, 3) := by decide +kernel
theorem d_X12_recordedPushes_14 : decode (mB M_X12_recordedPushes) 14 = .ok (.iload_n 1, 1) := by decide +kernel
theorem d_X12_recordedPushes_15 : decode (mB M_X12_recordedPushes) 15 = .ok (.aload_n 0, 1) := by decide +kernel
theorem d_X12_recordedPushes_16 : decode (mB M_X12_recordedPushes) 16 = .ok (.getfield 7, 3) := by decide +kernel
theorem d_X12_recordedPushes_19 : decode (mB M_X12_recordedPushes) 19 = .ok (.sipush 202, 3) := by decide +kernel
theorem d_X12_recordedPushes_22 : decode (mB M_X12_recordedPushes) 22 = .ok (.iload_n 2, 1) := by decide +kernel
theorem d_X12_recordedPushes_23 : decode (mB M_X12_recordedPushes) 23 = .ok (.iadd, 1) := by decide +kernel
theorem d_X12_recordedPushes_24 : decode (mB M_X12_recordedPushes) 24 = .ok (.iaload, 1) := by decide +kernel
theorem d_X12_recordedPushes_25 : decode (mB M_X12_recordedPushes) 25 = .ok (.iconst 4, 1) := by decide +kernel
theorem d_X12_recordedPushes_26 : decode (mB M_X12_recordedPushes) 26 = .ok (.if_icmp .lt 7, 3) := by decide +kernel
theorem d_X12_recordedPushes_29 : decode (mB M_X12_recordedPushes) 29 = .ok (.iconst 1, 1) := by decide +kernel
theorem d_X12_recordedPushes_30 : decode (mB M_X12_recordedPushes) 30 = .ok (.goto 4, 3) := by decide +kernel
theorem d_X12_recordedPushes_33 : decode (mB M_X12_recordedPushes) 33 = .ok (.iconst 0, 1) := by decide +kernel
theorem d_X12_recordedPushes_34 : decode (mB M_X12_recordedPushes) 34 = .ok (.iadd, 1) := by decide +kernel
theorem d_X12_recordedPushes_35 : decode (mB M_X12_recordedPushes) 35 = .ok (.istore_n 1, 1) := by decide +kernel
theorem d_X12_recordedPushes_36 : decode (mB M_X12_recordedPushes) 36 = .ok (.iinc 2 1, 3) := by decide +kernel
theorem d_X12_recordedPushes_39 : decode (mB M_X12_recordedPushes) 39 = .ok (.goto (-35), 3) := by decide +kernel
theorem d_X12_recordedPushes_42 : decode (mB M_X12_recordedPushes) 42 = .ok (.iload_n 1, 1) := by decide +kernel
theorem d_X12_recordedPushes_43 : decode (mB M_X12_recordedPushes) 43 = .ok (.ireturn, 1) := by decide +kernel
theorem l_m_recordedPushes {E : mEnv} (hE : E.1.stackTraces = false) (C : List mE) (N : Nat) : ∀ n : Nat, (∀ (v1 : Int32) (v2 : Int32) (t : xT) (r : Int32), f_recordedPushes_L N n v1 v2 t = some r → Go E M_X12_recordedPushes 0 (4, [some (.ref 0), some (.int v1), some (.int v2)], [], (mw t, C)) (.inr (.inl (some (.int r), (mw t, C))))) := by
  intro n
  induction n with
  | zero => exact fun v1 v2 t r h => by cases h
  | succ n ih =>
    intro v1 v2 t r h
    rw [u_recordedPushes_4] at h
    refine g_iload_n d_X12_recordedPushes_4 rfl ?_
    refine g_aload_n d_X12_recordedPushes_5 rfl ?_
    refine g_getf d_X12_recordedPushes_6 f_X12_7 (gm0 t C) rfl ?_
    refine g_iconst (v := 4) d_X12_recordedPushes_9 (by decide) ?_
    refine g_iald d_X12_recordedPushes_10 (gm_1 t C) (inB_in (by decide)) ?_
    refine g_icmp_ge (tgt := 42) d_X12_recordedPushes_11 (by decide) (fun c_11 => ?_) (fun c_11 => ?_)
    · replace h := opos c_11 h
      refine g_iload_n d_X12_recordedPushes_42 rfl ?_
      obtain rfl := osome h
      exact g_retI d_X12_recordedPushes_43 rfl rfl rfl
    · replace h := oneg c_11 h
      refine g_iload_n d_X12_recordedPushes_14 rfl ?_
      refine g_aload_n d_X12_recordedPushes_15 rfl ?_
      refine g_getf d_X12_recordedPushes_16 f_X12_7 (gm0 t C) rfl ?_
      refine g_sipush (v := 202) d_X12_recordedPushes_19 (by decide) ?_
      refine g_iload_n d_X12_recordedPushes_22 rfl ?_
      refine g_iadd d_X12_recordedPushes_23 ?_
      obtain ⟨i_24, h⟩ := ochk h
      refine g_iald d_X12_recordedPushes_24 (gm_1 t C) (inB_in i_24) ?_
      refine g_iconst (v := 4) d_X12_recordedPushes_25 (by decide) ?_
      obtain ⟨r_26, h_26, hh_26⟩ := obind h
      refine Go.trans0 (S1 := (34, [some (.ref 0), none, some (.int v2)], [.int r_26, .int v1], (mw t, C))) ?_ ?_
      · replace h := h_26
        clear hh_26
        refine g_icmp_lt (tgt := 33) d_X12_recordedPushes_26 (by decide) (fun c_26 => ?_) (fun c_26 => ?_)
        · replace h := opos c_26 h
          refine g_iconst (v := 0) d_X12_recordedPushes_33 (by decide) ?_
          obtain rfl := osome h
          exact g_drop [1] rfl (g_end rfl)
        · replace h := oneg c_26 h
          refine g_iconst (v := 1) d_X12_recordedPushes_29 (by decide) ?_
          refine g_goto (tgt := 34) d_X12_recordedPushes_30 (by decide) ?_
          obtain rfl := osome h
          exact g_drop [1] rfl (g_end rfl)
      replace h := hh_26
      refine g_iadd d_X12_recordedPushes_34 ?_
      refine g_istore_n (L' := [some (.ref 0), some (.int (v1 + r_26)), some (.int v2)]) d_X12_recordedPushes_35 rfl rfl ?_
      refine g_iinc (v := (v2 + 1)) (L' := [some (.ref 0), some (.int (v1 + r_26)), some (.int (v2 + 1))]) d_X12_recordedPushes_36 rfl rfl rfl ?_
      refine g_goto (tgt := 4) d_X12_recordedPushes_39 (by decide) ?_
      exact (ih) (v1 + r_26) (v2 + 1) t _ h
theorem c_m_recordedPushes {E : mEnv} (hE : E.1.stackTraces = false) (C : List mE) (N : Nat) (t : xT)  (r : Int32) (h : f_recordedPushes N t = some r) : Rt E M_X12_recordedPushes 0 [.ref 0] (mw t, C) (some (.int r)) (mw t, C) := by
  unfold f_recordedPushes at h
  refine Rt.of hE rfl pn_X12 (Nat.le_of_ble_eq_true rfl) ?_
  refine g_eq (S' := (0, [some (.ref 0), none, none], [], (mw t, C))) rfl ?_
  refine g_iconst (v := 0) d_X12_recordedPushes_0 (by decide) ?_
  refine g_istore_n (L' := [some (.ref 0), some (.int 0), none]) d_X12_recordedPushes_1 rfl rfl ?_
  refine g_iconst (v := 0) d_X12_recordedPushes_2 (by decide) ?_
  refine g_istore_n (L' := [some (.ref 0), some (.int 0), some (.int 0)]) d_X12_recordedPushes_3 rfl rfl ?_
  exact (l_m_recordedPushes hE C N N) 0 0 t _ h
def f_groups_L (N : Nat) : Nat → Nat → Int32 → Int32 → Int32 → xT → Option (Int32 × xT)
  | 0, _, _, _, _, _ => none
  | n + 1, p, v1, v2, v3, t =>
    if p = 4 then (if (f_size t) ≤ v2 then (f_groups_L N n 27 v1 0 0 t)
      else (if inB v2 64 = true then (Option.bind (some (wa t 11 (upd (ra t 11) (Int32.toNatClampNeg v2) (vp_nar .boolean 0)))) fun t_18 =>
        f_groups_L N n 4 v1 (v2 + 1) 0 t_18) else none))
    else if p = 27 then (if (f_size t) ≤ v2 then (some (v1, t))
      else (Option.bind (f_isOpen t v2) fun r_37 =>
        if r_37 = 0 then (f_groups_L N n 27 v1 (v2 + 1) 0 t)
        else (Option.bind (f_isBox t v2) fun r_45 =>
          if r_45 = 0 then (if inB v2 64 = true then (if ((ra t 11) (Int32.toNatClampNeg v2)) = 0 then (Option.bind (f_walksFrom N t v2) fun r_68 =>
              f_groups_L N n 73 (v1 + 1) v2 0 r_68)
            else (f_groups_L N n 27 v1 (v2 + 1) 0 t)) else none)
          else (f_groups_L N n 27 v1 (v2 + 1) 0 t))))
    else if p = 73 then (if (rs t 16) ≤ v3 then (f_groups_L N n 27 v1 (v2 + 1) 0 t)
      else (if inB v3 64 = true then (if inB ((ra t 6) (Int32.toNatClampNeg v3)) 64 = true then (Option.bind (some (wa t 11 (upd (ra t 11) (Int32.toNatClampNeg ((ra t 6) (Int32.toNatClampNeg v3))) (vp_nar .boolean 1)))) fun t_92 =>
        f_groups_L N n 73 v1 v2 (v3 + 1) t_92) else none) else none))
    else none
theorem u_groups_4 (N n : Nat) (v1 : Int32) (v2 : Int32) (t : xT) : f_groups_L N (n + 1) 4 v1 v2 0 t = (if (f_size t) ≤ v2 then (f_groups_L N n 27 v1 0 0 t)
    else (if inB v2 64 = true then (Option.bind (some (wa t 11 (upd (ra t 11) (Int32.toNatClampNeg v2) (vp_nar .boolean 0)))) fun t_18 =>
      f_groups_L N n 4 v1 (v2 + 1) 0 t_18) else none)) := rfl
theorem u_groups_27 (N n : Nat) (v1 : Int32) (v2 : Int32) (t : xT) : f_groups_L N (n + 1) 27 v1 v2 0 t = (if (f_size t) ≤ v2 then (some (v1, t))
    else (Option.bind (f_isOpen t v2) fun r_37 =>
      if r_37 = 0 then (f_groups_L N n 27 v1 (v2 + 1) 0 t)
      else (Option.bind (f_isBox t v2) fun r_45 =>
        if r_45 = 0 then (if inB v2 64 = true then (if ((ra t 11) (Int32.toNatClampNeg v2)) = 0 then (Option.bind (f_walksFrom N t v2) fun r_68 =>
            f_groups_L N n 73 (v1 + 1) v2 0 r_68)
          else (f_groups_L N n 27 v1 (v2 + 1) 0 t)) else none)
        else (f_groups_L N n 27 v1 (v2 + 1) 0 t)))) := rfl
theorem u_groups_73 (N n : Nat) (v1 : Int32) (v2 : Int32) (v3 : Int32) (t : xT) : f_groups_L N (n + 1) 73 v1 v2 v3 t = (if (rs t 16) ≤ v3 then (f_groups_L N n 27 v1 (v2 + 1) 0 t)
    else (if inB v3 64 = true then (if inB ((ra t 6) (Int32.toNatClampNeg v3)) 64 = true then (Option.bind (some (wa t 11 (upd (ra t 11) (Int32.toNatClampNeg ((ra t 6) (Int32.toNatClampNeg v3))) (vp_nar .boolean 1)))) fun t_92 =>
      f_groups_L N n 73 v1 v2 (v3 + 1) t_92) else none) else none)) := rfl
def f_groups (N : Nat) (t : xT)  : Option (Int32 × xT) :=
  f_groups_L N N 4 0 0 0 t
theorem d_X12_groups_0 : decode (mB M_X12_groups) 0 = .ok (.iconst 0, 1) := by decide +kernel
theorem d_X12_groups_1 : decode (mB M_X12_groups) 1 = .ok (.istore_n 1, 1) := by decide +kernel
theorem d_X12_groups_2 : decode (mB M_X12_groups) 2 = .ok (.iconst 0, 1) := by decide +kernel
theorem d_X12_groups_3 : decode (mB M_X12_groups) 3 = .ok (.istore_n 2, 1) := by decide +kernel
theorem d_X12_groups_4 : decode (mB M_X12_groups) 4 = .ok (.iload_n 2, 1) := by decide +kernel
theorem d_X12_groups_5 : decode (mB M_X12_groups) 5 = .ok (.aload_n 0, 1) := by decide +kernel
theorem d_X12_groups_6 : decode (mB M_X12_groups) 6 = .ok (.invokevirtual 130, 3) := by decide +kernel
theorem d_X12_groups_9 : decode (mB M_X12_groups) 9 = .ok (.if_icmp .ge 16, 3) := by decide +kernel
theorem d_X12_groups_12 : decode (mB M_X12_groups) 12 = .ok (.aload_n 0, 1) := by decide +kernel
theorem d_X12_groups_13 : decode (mB M_X12_groups) 13 = .ok (.getfield 45, 3) := by decide +kernel
theorem d_X12_groups_16 : decode (mB M_X12_groups) 16 = .ok (.iload_n 2, 1) := by decide +kernel
theorem d_X12_groups_17 : decode (mB M_X12_groups) 17 = .ok (.iconst 0, 1) := by decide +kernel
theorem d_X12_groups_18 : decode (mB M_X12_groups) 18 = .ok (.bastore, 1) := by decide +kernel
theorem d_X12_groups_19 : decode (mB M_X12_groups) 19 = .ok (.iinc 2 1, 3) := by decide +kernel
theorem d_X12_groups_22 : decode (mB M_X12_groups) 22 = .ok (.goto (-18), 3) := by decide +kernel
theorem d_X12_groups_25 : decode (mB M_X12_groups) 25 = .ok (.iconst 0, 1) := by decide +kernel
theorem d_X12_groups_26 : decode (mB M_X12_groups) 26 = .ok (.istore_n 2, 1) := by decide +kernel
theorem d_X12_groups_27 : decode (mB M_X12_groups) 27 = .ok (.iload_n 2, 1) := by decide +kernel
theorem d_X12_groups_28 : decode (mB M_X12_groups) 28 = .ok (.aload_n 0, 1) := by decide +kernel
theorem d_X12_groups_29 : decode (mB M_X12_groups) 29 = .ok (.invokevirtual 130, 3) := by decide +kernel
theorem d_X12_groups_32 : decode (mB M_X12_groups) 32 = .ok (.if_icmp .ge 73, 3) := by decide +kernel
theorem d_X12_groups_35 : decode (mB M_X12_groups) 35 = .ok (.aload_n 0, 1) := by decide +kernel
theorem d_X12_groups_36 : decode (mB M_X12_groups) 36 = .ok (.iload_n 2, 1) := by decide +kernel
theorem d_X12_groups_37 : decode (mB M_X12_groups) 37 = .ok (.invokevirtual 121, 3) := by decide +kernel
theorem d_X12_groups_40 : decode (mB M_X12_groups) 40 = .ok (.ifCond .eq 59, 3) := by decide +kernel
theorem d_X12_groups_43 : decode (mB M_X12_groups) 43 = .ok (.aload_n 0, 1) := by decide +kernel
theorem d_X12_groups_44 : decode (mB M_X12_groups) 44 = .ok (.iload_n 2, 1) := by decide +kernel
theorem d_X12_groups_45 : decode (mB M_X12_groups) 45 = .ok (.invokevirtual 124, 3) := by decide +kernel
theorem d_X12_groups_48 : decode (mB M_X12_groups) 48 = .ok (.ifCond .ne 51, 3) := by decide +kernel
theorem d_X12_groups_51 : decode (mB M_X12_groups) 51 = .ok (.aload_n 0, 1) := by decide +kernel
theorem d_X12_groups_52 : decode (mB M_X12_groups) 52 = .ok (.getfield 45, 3) := by decide +kernel
theorem d_X12_groups_55 : decode (mB M_X12_groups) 55 = .ok (.iload_n 2, 1) := by decide +kernel
theorem d_X12_groups_56 : decode (mB M_X12_groups) 56 = .ok (.baload, 1) := by decide +kernel
theorem d_X12_groups_57 : decode (mB M_X12_groups) 57 = .ok (.ifCond .eq 6, 3) := by decide +kernel
theorem d_X12_groups_60 : decode (mB M_X12_groups) 60 = .ok (.goto 39, 3) := by decide +kernel
theorem d_X12_groups_63 : decode (mB M_X12_groups) 63 = .ok (.iinc 1 1, 3) := by decide +kernel
theorem d_X12_groups_66 : decode (mB M_X12_groups) 66 = .ok (.aload_n 0, 1) := by decide +kernel
theorem d_X12_groups_67 : decode (mB M_X12_groups) 67 = .ok (.iload_n 2, 1) := by decide +kernel
theorem d_X12_groups_68 : decode (mB M_X12_groups) 68 = .ok (.invokevirtual 163, 3) := by decide +kernel
theorem d_X12_groups_71 : decode (mB M_X12_groups) 71 = .ok (.iconst 0, 1) := by decide +kernel
theorem d_X12_groups_72 : decode (mB M_X12_groups) 72 = .ok (.istore_n 3, 1) := by decide +kernel
theorem d_X12_groups_73 : decode (mB M_X12_groups) 73 = .ok (.iload_n 3, 1) := by decide +kernel
theorem d_X12_groups_74 : decode (mB M_X12_groups) 74 = .ok (.aload_n 0, 1) := by decide +kernel
theorem d_X12_groups_75 : decode (mB M_X12_groups) 75 = .ok (.getfield 133, 3) := by decide +kernel
theorem d_X12_groups_78 : decode (mB M_X12_groups) 78 = .ok (.if_icmp .ge 21, 3) := by decide +kernel
theorem d_X12_groups_81 : decode (mB M_X12_groups) 81 = .ok (.aload_n 0, 1) := by decide +kernel
theorem d_X12_groups_82 : decode (mB M_X12_groups) 82 = .ok (.getfield 45, 3) := by decide +kernel
theorem d_X12_groups_85 : decode (mB M_X12_groups) 85 = .ok (.aload_n 0, 1) := by decide +kernel
theorem d_X12_groups_86 : decode (mB M_X12_groups) 86 = .ok (.getfield 29, 3) := by decide +kernel
theorem d_X12_groups_89 : decode (mB M_X12_groups) 89 = .ok (.iload_n 3, 1) := by decide +kernel
theorem d_X12_groups_90 : decode (mB M_X12_groups) 90 = .ok (.iaload, 1) := by decide +kernel
theorem d_X12_groups_91 : decode (mB M_X12_groups) 91 = .ok (.iconst 1, 1) := by decide +kernel
theorem d_X12_groups_92 : decode (mB M_X12_groups) 92 = .ok (.bastore, 1) := by decide +kernel
theorem d_X12_groups_93 : decode (mB M_X12_groups) 93 = .ok (.iinc 3 1, 3) := by decide +kernel
theorem d_X12_groups_96 : decode (mB M_X12_groups) 96 = .ok (.goto (-23), 3) := by decide +kernel
theorem d_X12_groups_99 : decode (mB M_X12_groups) 99 = .ok (.iinc 2 1, 3) := by decide +kernel
theorem d_X12_groups_102 : decode (mB M_X12_groups) 102 = .ok (.goto (-75), 3) := by decide +kernel
theorem d_X12_groups_105 : decode (mB M_X12_groups) 105 = .ok (.iload_n 1, 1) := by decide +kernel
theorem d_X12_groups_106 : decode (mB M_X12_groups) 106 = .ok (.ireturn, 1) := by decide +kernel
theorem l_m_groups {E : mEnv} (hE : E.1.stackTraces = false) (C : List mE) (N : Nat) : ∀ n : Nat, (∀ (v1 : Int32) (v2 : Int32) (t : xT) (r : Int32 × xT), f_groups_L N n 4 v1 v2 0 t = some r → Go E M_X12_groups 0 (4, [some (.ref 0), some (.int v1), some (.int v2), none], [], (mw t, C)) (.inr (.inl (some (.int r.1), (mw r.2, C))))) ∧ (∀ (v1 : Int32) (v2 : Int32) (t : xT) (r : Int32 × xT), f_groups_L N n 27 v1 v2 0 t = some r → Go E M_X12_groups 0 (27, [some (.ref 0), some (.int v1), some (.int v2), none], [], (mw t, C)) (.inr (.inl (some (.int r.1), (mw r.2, C))))) ∧ (∀ (v1 : Int32) (v2 : Int32) (v3 : Int32) (t : xT) (r : Int32 × xT), f_groups_L N n 73 v1 v2 v3 t = some r → Go E M_X12_groups 0 (73, [some (.ref 0), some (.int v1), some (.int v2), some (.int v3)], [], (mw t, C)) (.inr (.inl (some (.int r.1), (mw r.2, C))))) := by
  intro n
  induction n with
  | zero => exact ⟨(fun v1 v2 t r h => by cases h), (fun v1 v2 t r h => by cases h), (fun v1 v2 v3 t r h => by cases h)⟩
  | succ n ih =>
    refine ⟨?_, ?_, ?_⟩
    · intro v1 v2 t r h
      rw [u_groups_4] at h
      refine g_iload_n d_X12_groups_4 rfl ?_
      refine g_aload_n d_X12_groups_5 rfl ?_
      refine g_callV (As := []) d_X12_groups_6 o_X12_size l_X12_130 ⟨Nat.le_of_ble_eq_true rfl, Nat.le_of_ble_eq_true rfl⟩ (c_m_size hE C t) (gm0 t C) rfl rfl rfl rfl rfl ?_ (Nat.zero_add _)
      refine g_icmp_ge (tgt := 25) d_X12_groups_9 (by decide) (fun c_9 => ?_) (fun c_9 => ?_)
      · replace h := opos c_9 h
        refine g_iconst (v := 0) d_X12_groups_25 (by decide) ?_
        refine g_istore_n (L' := [some (.ref 0), some (.int v1), some (.int 0), none]) d_X12_groups_26 rfl rfl ?_
        exact (ih).2.1 v1 0 t _ h
      · replace h := oneg c_9 h
        refine g_aload_n d_X12_groups_12 rfl ?_
        refine g_getf d_X12_groups_13 f_X12_45 (gm0 t C) rfl ?_
        refine g_iload_n d_X12_groups_16 rfl ?_
        refine g_iconst (v := 0) d_X12_groups_17 (by decide) ?_
        obtain ⟨i_18, h⟩ := ochk h
        obtain ⟨t_18, e_18, h⟩ := olet h
        refine g_zast (w' := (mw t_18, C)) d_X12_groups_18 (gm_11 t C) (inB_in i_18) (by rw [e_18]; exact st_11 t C _) ?_
        refine g_iinc (v := (v2 + 1)) (L' := [some (.ref 0), some (.int v1), some (.int (v2 + 1)), none]) d_X12_groups_19 rfl rfl rfl ?_
        refine g_goto (tgt := 4) d_X12_groups_22 (by decide) ?_
        exact (ih).1 v1 (v2 + 1) t_18 _ h
    · intro v1 v2 t r h
      rw [u_groups_27] at h
      refine g_iload_n d_X12_groups_27 rfl ?_
      refine g_aload_n d_X12_groups_28 rfl ?_
      refine g_callV (As := []) d_X12_groups_29 o_X12_size l_X12_130 ⟨Nat.le_of_ble_eq_true rfl, Nat.le_of_ble_eq_true rfl⟩ (c_m_size hE C t) (gm0 t C) rfl rfl rfl rfl rfl ?_ (Nat.zero_add _)
      refine g_icmp_ge (tgt := 105) d_X12_groups_32 (by decide) (fun c_32 => ?_) (fun c_32 => ?_)
      · replace h := opos c_32 h
        refine g_iload_n d_X12_groups_105 rfl ?_
        obtain rfl := osome h
        exact g_retI d_X12_groups_106 rfl rfl rfl
      · replace h := oneg c_32 h
        refine g_aload_n d_X12_groups_35 rfl ?_
        refine g_iload_n d_X12_groups_36 rfl ?_
        obtain ⟨r_37, h_37, h⟩ := obind h
        refine g_callV (As := [.int v2]) d_X12_groups_37 o_X12_isOpen l_X12_121 ⟨Nat.le_of_ble_eq_true rfl, Nat.le_of_ble_eq_true rfl⟩ (c_m_isOpen hE C t v2 _ h_37) (gm0 t C) rfl rfl rfl rfl rfl ?_ (Nat.zero_add _)
        refine g_if_eq (tgt := 99) d_X12_groups_40 (by decide) (fun c_40 => ?_) (fun c_40 => ?_)
        · replace h := opos c_40 h
          refine g_iinc (v := (v2 + 1)) (L' := [some (.ref 0), some (.int v1), some (.int (v2 + 1)), none]) d_X12_groups_99 rfl rfl rfl ?_
          refine g_goto (tgt := 27) d_X12_groups_102 (by decide) ?_
          exact (ih).2.1 v1 (v2 + 1) t _ h
        · replace h := oneg c_40 h
          refine g_aload_n d_X12_groups_43 rfl ?_
          refine g_iload_n d_X12_groups_44 rfl ?_
          obtain ⟨r_45, h_45, h⟩ := obind h
          refine g_callV (As := [.int v2]) d_X12_groups_45 o_X12_isBox l_X12_124 ⟨Nat.le_of_ble_eq_true rfl, Nat.le_of_ble_eq_true rfl⟩ (c_m_isBox hE C t v2 _ h_45) (gm0 t C) rfl rfl rfl rfl rfl ?_ (Nat.zero_add _)
          refine g_if_ne (tgt := 99) d_X12_groups_48 (by decide) (fun c_48 => ?_) (fun c_48 => ?_)
          · replace h := oneg c_48 h
            refine g_iinc (v := (v2 + 1)) (L' := [some (.ref 0), some (.int v1), some (.int (v2 + 1)), none]) d_X12_groups_99 rfl rfl rfl ?_
            refine g_goto (tgt := 27) d_X12_groups_102 (by decide) ?_
            exact (ih).2.1 v1 (v2 + 1) t _ h
          · replace h := opos c_48 h
            refine g_aload_n d_X12_groups_51 rfl ?_
            refine g_getf d_X12_groups_52 f_X12_45 (gm0 t C) rfl ?_
            refine g_iload_n d_X12_groups_55 rfl ?_
            obtain ⟨i_56, h⟩ := ochk h
            refine g_zald d_X12_groups_56 (gm_11 t C) (inB_in i_56) ?_
            refine g_if_eq (tgt := 63) d_X12_groups_57 (by decide) (fun c_57 => ?_) (fun c_57 => ?_)
            · replace h := opos c_57 h
              refine g_iinc (v := (v1 + 1)) (L' := [some (.ref 0), some (.int (v1 + 1)), some (.int v2), none]) d_X12_groups_63 rfl rfl rfl ?_
              refine g_aload_n d_X12_groups_66 rfl ?_
              refine g_iload_n d_X12_groups_67 rfl ?_
              obtain ⟨r_68, h_68, h⟩ := obind h
              refine g_callV (As := [.int v2]) d_X12_groups_68 o_X12_walksFrom l_X12_163 ⟨Nat.le_of_ble_eq_true rfl, Nat.le_of_ble_eq_true rfl⟩ (c_m_walksFrom hE C N t v2 _ h_68) (gm0 t C) rfl rfl rfl rfl rfl ?_ (Nat.zero_add _)
              refine g_iconst (v := 0) d_X12_groups_71 (by decide) ?_
              refine g_istore_n (L' := [some (.ref 0), some (.int (v1 + 1)), some (.int v2), some (.int 0)]) d_X12_groups_72 rfl rfl ?_
              exact (ih).2.2 (v1 + 1) v2 0 r_68 _ h
            · replace h := oneg c_57 h
              refine g_goto (tgt := 99) d_X12_groups_60 (by decide) ?_
              refine g_iinc (v := (v2 + 1)) (L' := [some (.ref 0), some (.int v1), some (.int (v2 + 1)), none]) d_X12_groups_99 rfl rfl rfl ?_
              refine g_goto (tgt := 27) d_X12_groups_102 (by decide) ?_
              exact (ih).2.1 v1 (v2 + 1) t _ h
    · intro v1 v2 v3 t r h
      rw [u_groups_73] at h
      refine g_iload_n d_X12_groups_73 rfl ?_
      refine g_aload_n d_X12_groups_74 rfl ?_
      refine g_getf d_X12_groups_75 f_X12_133 (gm0 t C) rfl ?_
      refine g_icmp_ge (tgt := 99) d_X12_groups_78 (by decide) (fun c_78 => ?_) (fun c_78 => ?_)
      · replace h := opos c_78 h
        refine g_iinc (v := (v2 + 1)) (L' := [some (.ref 0), some (.int v1), some (.int (v2 + 1)), some (.int v3)]) d_X12_groups_99 rfl rfl rfl ?_
        refine g_goto (tgt := 27) d_X12_groups_102 (by decide) ?_
        refine g_drop [3] (L1 := [some (.ref 0), some (.int v1), some (.int (v2 + 1)), none]) rfl ?_
        exact (ih).2.1 v1 (v2 + 1) t _ h
      · replace h := oneg c_78 h
        refine g_aload_n d_X12_groups_81 rfl ?_
        refine g_getf d_X12_groups_82 f_X12_45 (gm0 t C) rfl ?_
        refine g_aload_n d_X12_groups_85 rfl ?_
        refine g_getf d_X12_groups_86 f_X12_29 (gm0 t C) rfl ?_
        refine g_iload_n d_X12_groups_89 rfl ?_
        obtain ⟨i_90, h⟩ := ochk h
        refine g_iald d_X12_groups_90 (gm_6 t C) (inB_in i_90) ?_
        refine g_iconst (v := 1) d_X12_groups_91 (by decide) ?_
        obtain ⟨i_92, h⟩ := ochk h
        obtain ⟨t_92, e_92, h⟩ := olet h
        refine g_zast (w' := (mw t_92, C)) d_X12_groups_92 (gm_11 t C) (inB_in i_92) (by rw [e_92]; exact st_11 t C _) ?_
        refine g_iinc (v := (v3 + 1)) (L' := [some (.ref 0), some (.int v1), some (.int v2), some (.int (v3 + 1))]) d_X12_groups_93 rfl rfl rfl ?_
        refine g_goto (tgt := 73) d_X12_groups_96 (by decide) ?_
        exact (ih).2.2 v1 v2 (v3 + 1) t_92 _ h
theorem c_m_groups {E : mEnv} (hE : E.1.stackTraces = false) (C : List mE) (N : Nat) (t : xT)  (r : Int32 × xT) (h : f_groups N t = some r) : Rt E M_X12_groups 0 [.ref 0] (mw t, C) (some (.int r.1)) (mw r.2, C) := by
  unfold f_groups at h
  refine Rt.of hE rfl pn_X12 (Nat.le_of_ble_eq_true rfl) ?_
  refine g_eq (S' := (0, [some (.ref 0), none, none, none], [], (mw t, C))) rfl ?_
  refine g_iconst (v := 0) d_X12_groups_0 (by decide) ?_
  refine g_istore_n (L' := [some (.ref 0), some (.int 0), none, none]) d_X12_groups_1 rfl rfl ?_
  refine g_iconst (v := 0) d_X12_groups_2 (by decide) ?_
  refine g_istore_n (L' := [some (.ref 0), some (.int 0), some (.int 0), none]) d_X12_groups_3 rfl rfl ?_
  exact (l_m_groups hE C N N).1 0 0 t _ h
def f_gathers_L (N : Nat) : Nat → Nat → Int32 → Int32 → Int32 → xT → Option (Int32 × xT)
  | 0, _, _, _, _, _ => none
  | n + 1, p, v2, v3, v4, t =>
    if p = 28 then (if (rs t 16) ≤ v3 then (Option.bind (if (rs t 24) < 0 then (some (0 : Int32))
          else (if v2 = 0 then (some (1 : Int32))
            else (some (0 : Int32)))) fun (r_168 : Int32) =>
        if r_168 &&& 1 = r_168 then (some (r_168, t)) else none)
      else (f_gathers_L N n 39 v2 v3 0 t))
    else if p = 39 then (if 4 ≤ v4 then (f_gathers_L N n 28 v2 (v3 + 1) 0 t)
      else (if inB v3 64 = true then (Option.bind (f_beside t ((ra t 6) (Int32.toNatClampNeg v3)) v4) fun r_54 =>
        Option.bind (f_isOpen t r_54) fun r_62 =>
        Option.bind (if r_62 = 0 then (some (v2, t))
          else (Option.bind (f_isGoal t r_54) fun r_74 =>
            if r_74 = 0 then (Option.bind (if (rs t 24) < 0 then (some (0 : Int32))
                else (if (rs t 24) = r_54 then (some (0 : Int32))
                  else (some (1 : Int32)))) fun (r_85 : Int32) =>
              Option.bind (some (ws t 24 r_54)) fun t_107 =>
              some ((v2 + r_85), t_107))
            else (if inB r_54 64 = true then (if ((ra t 11) (Int32.toNatClampNeg r_54)) = 0 then (if inB r_54 64 = true then (Option.bind (some (wa t 11 (upd (ra t 11) (Int32.toNatClampNeg r_54) (vp_nar .boolean 1)))) fun t_130 =>
                if inB (rs t_130 16) 64 = true then (Option.bind (some (wa t_130 6 (upd (ra t_130 6) (Int32.toNatClampNeg (rs t_130 16)) r_54))) fun t_141 =>
                Option.bind (some (ws t_141 16 ((rs t_141 16) + 1))) fun t_149 =>
                some (v2, t_149)) else none) else none)
              else (some (v2, t))) else none))) fun (r_65 : Int32 × xT) =>
        f_gathers_L N n 39 r_65.1 v3 (v4 + 1) r_65.2) else none))
    else none
theorem u_gathers_28 (N n : Nat) (v2 : Int32) (v3 : Int32) (t : xT) : f_gathers_L N (n + 1) 28 v2 v3 0 t = (if (rs t 16) ≤ v3 then (Option.bind (if (rs t 24) < 0 then (some (0 : Int32))
        else (if v2 = 0 then (some (1 : Int32))
          else (some (0 : Int32)))) fun (r_168 : Int32) =>
      if r_168 &&& 1 = r_168 then (some (r_168, t)) else none)
    else (f_gathers_L N n 39 v2 v3 0 t)) := rfl
theorem u_gathers_39 (N n : Nat) (v2 : Int32) (v3 : Int32) (v4 : Int32) (t : xT) : f_gathers_L N (n + 1) 39 v2 v3 v4 t = (if 4 ≤ v4 then (f_gathers_L N n 28 v2 (v3 + 1) 0 t)
    else (if inB v3 64 = true then (Option.bind (f_beside t ((ra t 6) (Int32.toNatClampNeg v3)) v4) fun r_54 =>
      Option.bind (f_isOpen t r_54) fun r_62 =>
      Option.bind (if r_62 = 0 then (some (v2, t))
        else (Option.bind (f_isGoal t r_54) fun r_74 =>
          if r_74 = 0 then (Option.bind (if (rs t 24) < 0 then (some (0 : Int32))
              else (if (rs t 24) = r_54 then (some (0 : Int32))
                else (some (1 : Int32)))) fun (r_85 : Int32) =>
            Option.bind (some (ws t 24 r_54)) fun t_107 =>
            some ((v2 + r_85), t_107))
          else (if inB r_54 64 = true then (if ((ra t 11) (Int32.toNatClampNeg r_54)) = 0 then (if inB r_54 64 = true then (Option.bind (some (wa t 11 (upd (ra t 11) (Int32.toNatClampNeg r_54) (vp_nar .boolean 1)))) fun t_130 =>
              if inB (rs t_130 16) 64 = true then (Option.bind (some (wa t_130 6 (upd (ra t_130 6) (Int32.toNatClampNeg (rs t_130 16)) r_54))) fun t_141 =>
              Option.bind (some (ws t_141 16 ((rs t_141 16) + 1))) fun t_149 =>
              some (v2, t_149)) else none) else none)
            else (some (v2, t))) else none))) fun (r_65 : Int32 × xT) =>
      f_gathers_L N n 39 r_65.1 v3 (v4 + 1) r_65.2) else none)) := rfl
def f_gathers (N : Nat) (t : xT) (a0 : Int32) : Option (Int32 × xT) :=
  Option.bind (some (ws t 24 (-1))) fun t_2 =>
  Option.bind (some (wa t_2 6 (upd (ra t_2 6) (Int32.toNatClampNeg 0) a0))) fun t_13 =>
  Option.bind (some (ws t_13 16 1)) fun t_16 =>
  if inB a0 64 = true then (Option.bind (some (wa t_16 11 (upd (ra t_16 11) (Int32.toNatClampNeg a0) (vp_nar .boolean 1)))) fun t_25 =>
  f_gathers_L N N 28 0 0 0 t_25) else none
theorem d_X12_gathers_0 : decode (mB M_X12_gathers) 0 = .ok (.aload_n 0, 1) := by decide +kernel
theorem d_X12_gathers_1 : decode (mB M_X12_gathers) 1 = .ok (.iconst (-1), 1) := by decide +kernel
theorem d_X12_gathers_2 : decode (mB M_X12_gathers) 2 = .ok (.putfield 191, 3) := by decide +kernel
theorem d_X12_gathers_5 : decode (mB M_X12_gathers) 5 = .ok (.iconst 0, 1) := by decide +kernel
theorem d_X12_gathers_6 : decode (mB M_X12_gathers) 6 = .ok (.istore_n 2, 1) := by decide +kernel
theorem d_X12_gathers_7 : decode (mB M_X12_gathers) 7 = .ok (.aload_n 0, 1) := by decide +kernel
theorem d_X12_gathers_8 : decode (mB M_X12_gathers) 8 = .ok (.getfield 29, 3) := by decide +kernel
theorem d_X12_gathers_11 : decode (mB M_X12_gathers) 11 = .ok (.iconst 0, 1) := by decide +kernel
theorem d_X12_gathers_12 : decode (mB M_X12_gathers) 12 = .ok (.iload_n 1, 1) := by decide +kernel
theorem d_X12_gathers_13 : decode (mB M_X12_gathers) 13 = .ok (.iastore, 1) := by decide +kernel
theorem d_X12_gathers_14 : decode (mB M_X12_gathers) 14 = .ok (.aload_n 0, 1) := by decide +kernel
theorem d_X12_gathers_15 : decode (mB M_X12_gathers) 15 = .ok (.iconst 1, 1) := by decide +kernel
theorem d_X12_gathers_16 : decode (mB M_X12_gathers) 16 = .ok (.putfield 133, 3) := by decide +kernel
theorem d_X12_gathers_19 : decode (mB M_X12_gathers) 19 = .ok (.aload_n 0, 1) := by decide +kernel
theorem d_X12_gathers_20 : decode (mB M_X12_gathers) 20 = .ok (.getfield 45, 3) := by decide +kernel
theorem d_X12_gathers_23 : decode (mB M_X12_gathers) 23 = .ok (.iload_n 1, 1) := by decide +kernel
theorem d_X12_gathers_24 : decode (mB M_X12_gathers) 24 = .ok (.iconst 1, 1) := by decide +kernel
theorem d_X12_gathers_25 : decode (mB M_X12_gathers) 25 = .ok (.bastore, 1) := by decide +kernel
theorem d_X12_gathers_26 : decode (mB M_X12_gathers) 26 = .ok (.iconst 0, 1) := by decide +kernel
theorem d_X12_gathers_27 : decode (mB M_X12_gathers) 27 = .ok (.istore_n 3, 1) := by decide +kernel
theorem d_X12_gathers_28 : decode (mB M_X12_gathers) 28 = .ok (.iload_n 3, 1) := by decide +kernel
theorem d_X12_gathers_29 : decode (mB M_X12_gathers) 29 = .ok (.aload_n 0, 1) := by decide +kernel
theorem d_X12_gathers_30 : decode (mB M_X12_gathers) 30 = .ok (.getfield 133, 3) := by decide +kernel
theorem d_X12_gathers_33 : decode (mB M_X12_gathers) 33 = .ok (.if_icmp .ge 131, 3) := by decide +kernel
theorem d_X12_gathers_36 : decode (mB M_X12_gathers) 36 = .ok (.iconst 0, 1) := by decide +kernel
theorem d_X12_gathers_37 : decode (mB M_X12_gathers) 37 = .ok (.istore 4, 2) := by decide +kernel
theorem d_X12_gathers_39 : decode (mB M_X12_gathers) 39 = .ok (.iload 4, 2) := by decide +kernel
theorem d_X12_gathers_41 : decode (mB M_X12_gathers) 41 = .ok (.iconst 4, 1) := by decide +kernel
theorem d_X12_gathers_42 : decode (mB M_X12_gathers) 42 = .ok (.if_icmp .ge 116, 3) := by decide +kernel
theorem d_X12_gathers_45 : decode (mB M_X12_gathers) 45 = .ok (.aload_n 0, 1) := by decide +kernel
theorem d_X12_gathers_46 : decode (mB M_X12_gathers) 46 = .ok (.aload_n 0, 1) := by decide +kernel
theorem d_X12_gathers_47 : decode (mB M_X12_gathers) 47 = .ok (.getfield 29, 3) := by decide +kernel
theorem d_X12_gathers_50 : decode (mB M_X12_gathers) 50 = .ok (.iload_n 3, 1) := by decide +kernel
theorem d_X12_gathers_51 : decode (mB M_X12_gathers) 51 = .ok (.iaload, 1) := by decide +kernel
theorem d_X12_gathers_52 : decode (mB M_X12_gathers) 52 = .ok (.iload 4, 2) := by decide +kernel
theorem d_X12_gathers_54 : decode (mB M_X12_gathers) 54 = .ok (.invokevirtual 136, 3) := by decide +kernel
theorem d_X12_gathers_57 : decode (mB M_X12_gathers) 57 = .ok (.istore 5, 2) := by decide +kernel
theorem d_X12_gathers_59 : decode (mB M_X12_gathers) 59 = .ok (.aload_n 0, 1) := by decide +kernel
theorem d_X12_gathers_60 : decode (mB M_X12_gathers) 60 = .ok (.iload 5, 2) := by decide +kernel
theorem d_X12_gathers_62 : decode (mB M_X12_gathers) 62 = .ok (.invokevirtual 121, 3) := by decide +kernel
theorem d_X12_gathers_65 : decode (mB M_X12_gathers) 65 = .ok (.ifCond .ne 6, 3) := by decide +kernel
theorem d_X12_gathers_68 : decode (mB M_X12_gathers) 68 = .ok (.goto 84, 3) := by decide +kernel
theorem d_X12_gathers_71 : decode (mB M_X12_gathers) 71 = .ok (.aload_n 0, 1) := by decide +kernel
theorem d_X12_gathers_72 : decode (mB M_X12_gathers) 72 = .ok (.iload 5, 2) := by decide +kernel
theorem d_X12_gathers_74 : decode (mB M_X12_gathers) 74 = .ok (.invokevirtual 127, 3) := by decide +kernel
theorem d_X12_gathers_77 : decode (mB M_X12_gathers) 77 = .ok (.ifCond .ne 36, 3) := by decide +kernel
theorem d_X12_gathers_80 : decode (mB M_X12_gathers) 80 = .ok (.iload_n 2, 1) := by decide +kernel
theorem d_X12_gathers_81 : decode (mB M_X12_gathers) 81 = .ok (.aload_n 0, 1) := by decide +kernel
theorem d_X12_gathers_82 : decode (mB M_X12_gathers) 82 = .ok (.getfield 191, 3) := by decide +kernel
theorem d_X12_gathers_85 : decode (mB M_X12_gathers) 85 = .ok (.ifCond .lt 16, 3) := by decide +kernel
theorem d_X12_gathers_88 : decode (mB M_X12_gathers) 88 = .ok (.aload_n 0, 1) := by decide +kernel
theorem d_X12_gathers_89 : decode (mB M_X12_gathers) 89 = .ok (.getfield 191, 3) := by decide +kernel
theorem d_X12_gathers_92 : decode (mB M_X12_gathers) 92 = .ok (.iload 5, 2) := by decide +kernel
theorem d_X12_gathers_94 : decode (mB M_X12_gathers) 94 = .ok (.if_icmp .eq 7, 3) := by decide +kernel
theorem d_X12_gathers_97 : decode (mB M_X12_gathers) 97 = .ok (.iconst 1, 1) := by decide +kernel
theorem d_X12_gathers_98 : decode (mB M_X12_gathers) 98 = .ok (.goto 4, 3) := by decide +kernel
theorem d_X12_gathers_101 : decode (mB M_X12_gathers) 101 = .ok (.iconst 0, 1) := by decide +kernel
theorem d_X12_gathers_102 : decode (mB M_X12_gathers) 102 = .ok (.iadd, 1) := by decide +kernel
theorem d_X12_gathers_103 : decode (mB M_X12_gathers) 103 = .ok (.istore_n 2, 1) := by decide +kernel
theorem d_X12_gathers_104 : decode (mB M_X12_gathers) 104 = .ok (.aload_n 0, 1) := by decide +kernel
theorem d_X12_gathers_105 : decode (mB M_X12_gathers) 105 = .ok (.iload 5, 2) := by decide +kernel
theorem d_X12_gathers_107 : decode (mB M_X12_gathers) 107 = .ok (.putfield 191, 3) := by decide +kernel
theorem d_X12_gathers_110 : decode (mB M_X12_gathers) 110 = .ok (.goto 42, 3) := by decide +kernel
theorem d_X12_gathers_113 : decode (mB M_X12_gathers) 113 = .ok (.aload_n 0, 1) := by decide +kernel
theorem d_X12_gathers_114 : decode (mB M_X12_gathers) 114 = .ok (.getfield 45, 3) := by decide +kernel
theorem d_X12_gathers_117 : decode (mB M_X12_gathers) 117 = .ok (.iload 5, 2) := by decide +kernel
theorem d_X12_gathers_119 : decode (mB M_X12_gathers) 119 = .ok (.baload, 1) := by decide +kernel
theorem d_X12_gathers_120 : decode (mB M_X12_gathers) 120 = .ok (.ifCond .ne 32, 3) := by decide +kernel
theorem d_X12_gathers_123 : decode (mB M_X12_gathers) 123 = .ok (.aload_n 0, 1) := by decide +kernel
theorem d_X12_gathers_124 : decode (mB M_X12_gathers) 124 = .ok (.getfield 45, 3) := by decide +kernel
theorem d_X12_gathers_127 : decode (mB M_X12_gathers) 127 = .ok (.iload 5, 2) := by decide +kernel
theorem d_X12_gathers_129 : decode (mB M_X12_gathers) 129 = .ok (.iconst 1, 1) := by decide +kernel
theorem d_X12_gathers_130 : decode (mB M_X12_gathers) 130 = .ok (.bastore, 1) := by decide +kernel
theorem d_X12_gathers_131 : decode (mB M_X12_gathers) 131 = .ok (.aload_n 0, 1) := by decide +kernel
theorem d_X12_gathers_132 : decode (mB M_X12_gathers) 132 = .ok (.getfield 29, 3) := by decide +kernel
theorem d_X12_gathers_135 : decode (mB M_X12_gathers) 135 = .ok (.aload_n 0, 1) := by decide +kernel
theorem d_X12_gathers_136 : decode (mB M_X12_gathers) 136 = .ok (.getfield 133, 3) := by decide +kernel
theorem d_X12_gathers_139 : decode (mB M_X12_gathers) 139 = .ok (.iload 5, 2) := by decide +kernel
theorem d_X12_gathers_141 : decode (mB M_X12_gathers) 141 = .ok (.iastore, 1) := by decide +kernel
theorem d_X12_gathers_142 : decode (mB M_X12_gathers) 142 = .ok (.aload_n 0, 1) := by decide +kernel
theorem d_X12_gathers_143 : decode (mB M_X12_gathers) 143 = .ok (.dup, 1) := by decide +kernel
theorem d_X12_gathers_144 : decode (mB M_X12_gathers) 144 = .ok (.getfield 133, 3) := by decide +kernel
theorem d_X12_gathers_147 : decode (mB M_X12_gathers) 147 = .ok (.iconst 1, 1) := by decide +kernel
theorem d_X12_gathers_148 : decode (mB M_X12_gathers) 148 = .ok (.iadd, 1) := by decide +kernel
theorem d_X12_gathers_149 : decode (mB M_X12_gathers) 149 = .ok (.putfield 133, 3) := by decide +kernel
theorem d_X12_gathers_152 : decode (mB M_X12_gathers) 152 = .ok (.iinc 4 1, 3) := by decide +kernel
theorem d_X12_gathers_155 : decode (mB M_X12_gathers) 155 = .ok (.goto (-116), 3) := by decide +kernel
theorem d_X12_gathers_158 : decode (mB M_X12_gathers) 158 = .ok (.iinc 3 1, 3) := by decide +kernel
theorem d_X12_gathers_161 : decode (mB M_X12_gathers) 161 = .ok (.goto (-133), 3) := by decide +kernel
theorem d_X12_gathers_164 : decode (mB M_X12_gathers) 164 = .ok (.aload_n 0, 1) := by decide +kernel
theorem d_X12_gathers_165 : decode (mB M_X12_gathers) 165 = .ok (.getfield 191, 3) := by decide +kernel
theorem d_X12_gathers_168 : decode (mB M_X12_gathers) 168 = .ok (.ifCond .lt 11, 3) := by decide +kernel
theorem d_X12_gathers_171 : decode (mB M_X12_gathers) 171 = .ok (.iload_n 2, 1) := by decide +kernel
theorem d_X12_gathers_172 : decode (mB M_X12_gathers) 172 = .ok (.ifCond .ne 7, 3) := by decide +kernel
theorem d_X12_gathers_175 : decode (mB M_X12_gathers) 175 = .ok (.iconst 1, 1) := by decide +kernel
theorem d_X12_gathers_176 : decode (mB M_X12_gathers) 176 = .ok (.goto 4, 3) := by decide +kernel
theorem d_X12_gathers_179 : decode (mB M_X12_gathers) 179 = .ok (.iconst 0, 1) := by decide +kernel
theorem d_X12_gathers_180 : decode (mB M_X12_gathers) 180 = .ok (.ireturn, 1) := by decide +kernel
theorem l_m_gathers {E : mEnv} (hE : E.1.stackTraces = false) (C : List mE) (N : Nat) : ∀ n : Nat, (∀ (v2 : Int32) (v3 : Int32) (t : xT) (r : Int32 × xT), f_gathers_L N n 28 v2 v3 0 t = some r → Go E M_X12_gathers 0 (28, [some (.ref 0), none, some (.int v2), some (.int v3), none, none], [], (mw t, C)) (.inr (.inl (some (.int r.1), (mw r.2, C))))) ∧ (∀ (v2 : Int32) (v3 : Int32) (v4 : Int32) (t : xT) (r : Int32 × xT), f_gathers_L N n 39 v2 v3 v4 t = some r → Go E M_X12_gathers 0 (39, [some (.ref 0), none, some (.int v2), some (.int v3), some (.int v4), none], [], (mw t, C)) (.inr (.inl (some (.int r.1), (mw r.2, C))))) := by
  intro n
  induction n with
  | zero => exact ⟨(fun v2 v3 t r h => by cases h), (fun v2 v3 v4 t r h => by cases h)⟩
  | succ n ih =>
    refine ⟨?_, ?_⟩
    · intro v2 v3 t r h
      rw [u_gathers_28] at h
      refine g_iload_n d_X12_gathers_28 rfl ?_
      refine g_aload_n d_X12_gathers_29 rfl ?_
      refine g_getf d_X12_gathers_30 f_X12_133 (gm0 t C) rfl ?_
      refine g_icmp_ge (tgt := 164) d_X12_gathers_33 (by decide) (fun c_33 => ?_) (fun c_33 => ?_)
      · replace h := opos c_33 h
        refine g_aload_n d_X12_gathers_164 rfl ?_
        refine g_getf d_X12_gathers_165 f_X12_191 (gm0 t C) rfl ?_
        obtain ⟨r_168, h_168, hh_168⟩ := obind h
        refine Go.trans0 (S1 := (180, [none, none, none, none, none, none], [.int r_168], (mw t, C))) ?_ ?_
        · replace h := h_168
          clear hh_168
          refine g_if_lt (tgt := 179) d_X12_gathers_168 (by decide) (fun c_168 => ?_) (fun c_168 => ?_)
          · replace h := opos c_168 h
            refine g_iconst (v := 0) d_X12_gathers_179 (by decide) ?_
            obtain rfl := osome h
            exact g_drop [0, 2, 3] rfl (g_end rfl)
          · replace h := oneg c_168 h
            refine g_iload_n d_X12_gathers_171 rfl ?_
            refine g_if_ne (tgt := 179) d_X12_gathers_172 (by decide) (fun c_172 => ?_) (fun c_172 => ?_)
            · replace h := oneg c_172 h
              refine g_iconst (v := 0) d_X12_gathers_179 (by decide) ?_
              obtain rfl := osome h
              exact g_drop [0, 2, 3] rfl (g_end rfl)
            · replace h := opos c_172 h
              refine g_iconst (v := 1) d_X12_gathers_175 (by decide) ?_
              refine g_goto (tgt := 180) d_X12_gathers_176 (by decide) ?_
              obtain rfl := osome h
              exact g_drop [0, 2, 3] rfl (g_end rfl)
        replace h := hh_168
        obtain ⟨i_180, h⟩ := ochk h
        obtain rfl := osome h
        exact g_retZ d_X12_gathers_180 rfl i_180 rfl rfl
      · replace h := oneg c_33 h
        refine g_iconst (v := 0) d_X12_gathers_36 (by decide) ?_
        refine g_istore (L' := [some (.ref 0), none, some (.int v2), some (.int v3), some (.int 0), none]) d_X12_gathers_37 rfl rfl ?_
        exact (ih).2 v2 v3 0 t _ h
    · intro v2 v3 v4 t r h
      rw [u_gathers_39] at h
      refine g_iload d_X12_gathers_39 rfl ?_
      refine g_iconst (v := 4) d_X12_gathers_41 (by decide) ?_
      refine g_icmp_ge (tgt := 158) d_X12_gathers_42 (by decide) (fun c_42 => ?_) (fun c_42 => ?_)
      · replace h := opos c_42 h
        refine g_iinc (v := (v3 + 1)) (L' := [some (.ref 0), none, some (.int v2), some (.int (v3 + 1)), some (.int v4), none]) d_X12_gathers_158 rfl rfl rfl ?_
        refine g_goto (tgt := 28) d_X12_gathers_161 (by decide) ?_
        refine g_drop [4] (L1 := [some (.ref 0), none, some (.int v2), some (.int (v3 + 1)), none, none]) rfl ?_
        exact (ih).1 v2 (v3 + 1) t _ h
      · replace h := oneg c_42 h
        refine g_aload_n d_X12_gathers_45 rfl ?_
        refine g_aload_n d_X12_gathers_46 rfl ?_
        refine g_getf d_X12_gathers_47 f_X12_29 (gm0 t C) rfl ?_
        refine g_iload_n d_X12_gathers_50 rfl ?_
        obtain ⟨i_51, h⟩ := ochk h
        refine g_iald d_X12_gathers_51 (gm_6 t C) (inB_in i_51) ?_
        refine g_iload d_X12_gathers_52 rfl ?_
        obtain ⟨r_54, h_54, h⟩ := obind h
        refine g_callV (As := [.int ((ra t 6) (Int32.toNatClampNeg v3)), .int v4]) d_X12_gathers_54 o_X12_beside l_X12_136 ⟨Nat.le_of_ble_eq_true rfl, Nat.le_of_ble_eq_true rfl⟩ (c_m_beside hE C t ((ra t 6) (Int32.toNatClampNeg v3)) v4 _ h_54) (gm0 t C) rfl rfl rfl rfl rfl ?_ (Nat.zero_add _)
        refine g_istore (L' := [some (.ref 0), none, some (.int v2), some (.int v3), some (.int v4), some (.int r_54)]) d_X12_gathers_57 rfl rfl ?_
        refine g_aload_n d_X12_gathers_59 rfl ?_
        refine g_iload d_X12_gathers_60 rfl ?_
        obtain ⟨r_62, h_62, h⟩ := obind h
        refine g_callV (As := [.int r_54]) d_X12_gathers_62 o_X12_isOpen l_X12_121 ⟨Nat.le_of_ble_eq_true rfl, Nat.le_of_ble_eq_true rfl⟩ (c_m_isOpen hE C t r_54 _ h_62) (gm0 t C) rfl rfl rfl rfl rfl ?_ (Nat.zero_add _)
        obtain ⟨r_65, h_65, hh_65⟩ := obind h
        refine Go.trans0 (S1 := (152, [some (.ref 0), none, some (.int r_65.1), some (.int v3), some (.int v4), none], [], (mw r_65.2, C))) ?_ ?_
        · replace h := h_65
          clear hh_65
          refine g_if_ne (tgt := 71) d_X12_gathers_65 (by decide) (fun c_65 => ?_) (fun c_65 => ?_)
          · replace h := oneg c_65 h
            refine g_aload_n d_X12_gathers_71 rfl ?_
            refine g_iload d_X12_gathers_72 rfl ?_
            obtain ⟨r_74, h_74, h⟩ := obind h
            refine g_callV (As := [.int r_54]) d_X12_gathers_74 o_X12_isGoal l_X12_127 ⟨Nat.le_of_ble_eq_true rfl, Nat.le_of_ble_eq_true rfl⟩ (c_m_isGoal hE C t r_54 _ h_74) (gm0 t C) rfl rfl rfl rfl rfl ?_ (Nat.zero_add _)
            refine g_if_ne (tgt := 113) d_X12_gathers_77 (by decide) (fun c_77 => ?_) (fun c_77 => ?_)
            · replace h := oneg c_77 h
              refine g_aload_n d_X12_gathers_113 rfl ?_
              refine g_getf d_X12_gathers_114 f_X12_45 (gm0 t C) rfl ?_
              refine g_iload d_X12_gathers_117 rfl ?_
              obtain ⟨i_119, h⟩ := ochk h
              refine g_zald d_X12_gathers_119 (gm_11 t C) (inB_in i_119) ?_
              refine g_if_ne (tgt := 152) d_X12_gathers_120 (by decide) (fun c_120 => ?_) (fun c_120 => ?_)
              · replace h := oneg c_120 h
                obtain rfl := osome h
                exact g_drop [5] rfl (g_end rfl)
              · replace h := opos c_120 h
                refine g_aload_n d_X12_gathers_123 rfl ?_
                refine g_getf d_X12_gathers_124 f_X12_45 (gm0 t C) rfl ?_
                refine g_iload d_X12_gathers_127 rfl ?_
                refine g_iconst (v := 1) d_X12_gathers_129 (by decide) ?_
                obtain ⟨i_130, h⟩ := ochk h
                obtain ⟨t_130, e_130, h⟩ := olet h
                refine g_zast (w' := (mw t_130, C)) d_X12_gathers_130 (gm_11 t C) (inB_in i_130) (by rw [e_130]; exact st_11 t C _) ?_
                refine g_aload_n d_X12_gathers_131 rfl ?_
                refine g_getf d_X12_gathers_132 f_X12_29 (gm0 t_130 C) rfl ?_
                refine g_aload_n d_X12_gathers_135 rfl ?_
                refine g_getf d_X12_gathers_136 f_X12_133 (gm0 t_130 C) rfl ?_
                refine g_iload d_X12_gathers_139 rfl ?_
                obtain ⟨i_141, h⟩ := ochk h
                obtain ⟨t_141, e_141, h⟩ := olet h
                refine g_iast (w' := (mw t_141, C)) d_X12_gathers_141 (gm_6 t_130 C) (inB_in i_141) (by rw [e_141]; exact st_6 t_130 C _) ?_
                refine g_aload_n d_X12_gathers_142 rfl ?_
                refine g_dup d_X12_gathers_143 rfl ?_
                refine g_getf d_X12_gathers_144 f_X12_133 (gm0 t_141 C) rfl ?_
                refine g_iconst (v := 1) d_X12_gathers_147 (by decide) ?_
                refine g_iadd d_X12_gathers_148 ?_
                obtain ⟨t_149, e_149, h⟩ := olet h
                refine g_putI (w' := (mw t_149, C)) d_X12_gathers_149 p_X12_133 rfl rfl (gm0 t_141 C) (Nat.le_of_ble_eq_true rfl) (by rw [e_149]; exact sc_16 t_141 C _) ?_
                obtain rfl := osome h
                exact g_drop [5] rfl (g_end rfl)
            · replace h := opos c_77 h
              refine g_iload_n d_X12_gathers_80 rfl ?_
              refine g_aload_n d_X12_gathers_81 rfl ?_
              refine g_getf d_X12_gathers_82 f_X12_191 (gm0 t C) rfl ?_
              obtain ⟨r_85, h_85, hh_85⟩ := obind h
              refine Go.trans0 (S1 := (102, [some (.ref 0), none, none, some (.int v3), some (.int v4), some (.int r_54)], [.int r_85, .int v2], (mw t, C))) ?_ ?_
              · replace h := h_85
                clear hh_85
                refine g_if_lt (tgt := 101) d_X12_gathers_85 (by decide) (fun c_85 => ?_) (fun c_85 => ?_)
                · replace h := opos c_85 h
                  refine g_iconst (v := 0) d_X12_gathers_101 (by decide) ?_
                  obtain rfl := osome h
                  exact g_drop [2] rfl (g_end rfl)
                · replace h := oneg c_85 h
                  refine g_aload_n d_X12_gathers_88 rfl ?_
                  refine g_getf d_X12_gathers_89 f_X12_191 (gm0 t C) rfl ?_
                  refine g_iload d_X12_gathers_92 rfl ?_
                  refine g_icmp_eq (tgt := 101) d_X12_gathers_94 (by decide) (fun c_94 => ?_) (fun c_94 => ?_)
                  · replace h := opos c_94 h
                    refine g_iconst (v := 0) d_X12_gathers_101 (by decide) ?_
                    obtain rfl := osome h
                    exact g_drop [2] rfl (g_end rfl)
                  · replace h := oneg c_94 h
                    refine g_iconst (v := 1) d_X12_gathers_97 (by decide) ?_
                    refine g_goto (tgt := 102) d_X12_gathers_98 (by decide) ?_
                    obtain rfl := osome h
                    exact g_drop [2] rfl (g_end rfl)
              replace h := hh_85
              refine g_iadd d_X12_gathers_102 ?_
              refine g_istore_n (L' := [some (.ref 0), none, some (.int (v2 + r_85)), some (.int v3), some (.int v4), some (.int r_54)]) d_X12_gathers_103 rfl rfl ?_
              refine g_aload_n d_X12_gathers_104 rfl ?_
              refine g_iload d_X12_gathers_105 rfl ?_
              obtain ⟨t_107, e_107, h⟩ := olet h
              refine g_putI (w' := (mw t_107, C)) d_X12_gathers_107 p_X12_191 rfl rfl (gm0 t C) (Nat.le_of_ble_eq_true rfl) (by rw [e_107]; exact sc_24 t C _) ?_
              refine g_goto (tgt := 152) d_X12_gathers_110 (by decide) ?_
              obtain rfl := osome h
              exact g_drop [5] rfl (g_end rfl)
          · replace h := opos c_65 h
            refine g_goto (tgt := 152) d_X12_gathers_68 (by decide) ?_
            obtain rfl := osome h
            exact g_drop [5] rfl (g_end rfl)
        replace h := hh_65
        refine g_iinc (v := (v4 + 1)) (L' := [some (.ref 0), none, some (.int r_65.1), some (.int v3), some (.int (v4 + 1)), none]) d_X12_gathers_152 rfl rfl rfl ?_
        refine g_goto (tgt := 39) d_X12_gathers_155 (by decide) ?_
        exact (ih).2 r_65.1 v3 (v4 + 1) r_65.2 _ h
theorem c_m_gathers {E : mEnv} (hE : E.1.stackTraces = false) (C : List mE) (N : Nat) (t : xT) (a0 : Int32) (r : Int32 × xT) (h : f_gathers N t a0 = some r) : Rt E M_X12_gathers 0 [.ref 0, .int a0] (mw t, C) (some (.int r.1)) (mw r.2, C) := by
  unfold f_gathers at h
  refine Rt.of hE rfl pn_X12 (Nat.le_of_ble_eq_true rfl) ?_
  refine g_eq (S' := (0, [some (.ref 0), some (.int a0), none, none, none, none], [], (mw t, C))) rfl ?_
  refine g_aload_n d_X12_gathers_0 rfl ?_
  refine g_iconst (v := (-1)) d_X12_gathers_1 (by decide) ?_
  obtain ⟨t_2, e_2, h⟩ := olet h
  refine g_putI (w' := (mw t_2, C)) d_X12_gathers_2 p_X12_191 rfl rfl (gm0 t C) (Nat.le_of_ble_eq_true rfl) (by rw [e_2]; exact sc_24 t C _) ?_
  refine g_iconst (v := 0) d_X12_gathers_5 (by decide) ?_
  refine g_istore_n (L' := [some (.ref 0), some (.int a0), some (.int 0), none, none, none]) d_X12_gathers_6 rfl rfl ?_
  refine g_aload_n d_X12_gathers_7 rfl ?_
  refine g_getf d_X12_gathers_8 f_X12_29 (gm0 t_2 C) rfl ?_
  refine g_iconst (v := 0) d_X12_gathers_11 (by decide) ?_
  refine g_iload_n d_X12_gathers_12 rfl ?_
  obtain ⟨t_13, e_13, h⟩ := olet h
  refine g_iast (w' := (mw t_13, C)) d_X12_gathers_13 (gm_6 t_2 C) (inB_in (by decide)) (by rw [e_13]; exact st_6 t_2 C _) ?_
  refine g_aload_n d_X12_gathers_14 rfl ?_
  refine g_iconst (v := 1) d_X12_gathers_15 (by decide) ?_
  obtain ⟨t_16, e_16, h⟩ := olet h
  refine g_putI (w' := (mw t_16, C)) d_X12_gathers_16 p_X12_133 rfl rfl (gm0 t_13 C) (Nat.le_of_ble_eq_true rfl) (by rw [e_16]; exact sc_16 t_13 C _) ?_
  refine g_aload_n d_X12_gathers_19 rfl ?_
  refine g_getf d_X12_gathers_20 f_X12_45 (gm0 t_16 C) rfl ?_
  refine g_iload_n d_X12_gathers_23 rfl ?_
  refine g_iconst (v := 1) d_X12_gathers_24 (by decide) ?_
  obtain ⟨i_25, h⟩ := ochk h
  obtain ⟨t_25, e_25, h⟩ := olet h
  refine g_zast (w' := (mw t_25, C)) d_X12_gathers_25 (gm_11 t_16 C) (inB_in i_25) (by rw [e_25]; exact st_11 t_16 C _) ?_
  refine g_iconst (v := 0) d_X12_gathers_26 (by decide) ?_
  refine g_istore_n (L' := [some (.ref 0), some (.int a0), some (.int 0), some (.int 0), none, none]) d_X12_gathers_27 rfl rfl ?_
  refine g_drop [1] (L1 := [some (.ref 0), none, some (.int 0), some (.int 0), none, none]) rfl ?_
  exact (l_m_gathers hE C N N).1 0 0 t_25 _ h
def f_goalRooms_L (N : Nat) : Nat → Nat → Int32 → Int32 → Int32 → xT → Option (Int32 × xT)
  | 0, _, _, _, _, _ => none
  | n + 1, p, v1, v2, v3, t =>
    if p = 4 then (if (f_size t) ≤ v3 then (f_goalRooms_L N n 27 v1 v2 0 t)
      else (if inB v3 64 = true then (Option.bind (some (wa t 11 (upd (ra t 11) (Int32.toNatClampNeg v3) (vp_nar .boolean 0)))) fun t_18 =>
        f_goalRooms_L N n 4 v1 v2 (v3 + 1) t_18) else none))
    else if p = 27 then (if (f_size t) ≤ v3 then (some (v2, t))
      else (Option.bind (f_isGoal t v3) fun r_37 =>
        if r_37 = 0 then (f_goalRooms_L N n 27 v1 v2 (v3 + 1) t)
        else (if inB v3 64 = true then (if ((ra t 11) (Int32.toNatClampNeg v3)) = 0 then (Option.bind (f_gathers N t v3) fun r_54 =>
            if r_54.1 = 0 then (f_goalRooms_L N n 27 v1 v2 (v3 + 1) r_54.2)
            else (if v2 = v1 then (some (v2, r_54.2))
              else (f_goalRooms_L N n 27 v1 (v2 + 1) (v3 + 1) r_54.2)))
          else (f_goalRooms_L N n 27 v1 v2 (v3 + 1) t)) else none)))
    else none
theorem u_goalRooms_4 (N n : Nat) (v1 : Int32) (v2 : Int32) (v3 : Int32) (t : xT) : f_goalRooms_L N (n + 1) 4 v1 v2 v3 t = (if (f_size t) ≤ v3 then (f_goalRooms_L N n 27 v1 v2 0 t)
    else (if inB v3 64 = true then (Option.bind (some (wa t 11 (upd (ra t 11) (Int32.toNatClampNeg v3) (vp_nar .boolean 0)))) fun t_18 =>
      f_goalRooms_L N n 4 v1 v2 (v3 + 1) t_18) else none)) := rfl
theorem u_goalRooms_27 (N n : Nat) (v1 : Int32) (v2 : Int32) (v3 : Int32) (t : xT) : f_goalRooms_L N (n + 1) 27 v1 v2 v3 t = (if (f_size t) ≤ v3 then (some (v2, t))
    else (Option.bind (f_isGoal t v3) fun r_37 =>
      if r_37 = 0 then (f_goalRooms_L N n 27 v1 v2 (v3 + 1) t)
      else (if inB v3 64 = true then (if ((ra t 11) (Int32.toNatClampNeg v3)) = 0 then (Option.bind (f_gathers N t v3) fun r_54 =>
          if r_54.1 = 0 then (f_goalRooms_L N n 27 v1 v2 (v3 + 1) r_54.2)
          else (if v2 = v1 then (some (v2, r_54.2))
            else (f_goalRooms_L N n 27 v1 (v2 + 1) (v3 + 1) r_54.2)))
        else (f_goalRooms_L N n 27 v1 v2 (v3 + 1) t)) else none))) := rfl
def f_goalRooms (N : Nat) (t : xT) (a0 : Int32) : Option (Int32 × xT) :=
  f_goalRooms_L N N 4 a0 0 0 t
theorem d_X12_goalRooms_0 : decode (mB M_X12_goalRooms) 0 = .ok (.iconst 0, 1) := by decide +kernel
theorem d_X12_goalRooms_1 : decode (mB M_X12_goalRooms) 1 = .ok (.istore_n 2, 1) := by decide +kernel
theorem d_X12_goalRooms_2 : decode (mB M_X12_goalRooms) 2 = .ok (.iconst 0, 1) := by decide +kernel
theorem d_X12_goalRooms_3 : decode (mB M_X12_goalRooms) 3 = .ok (.istore_n 3, 1) := by decide +kernel
theorem d_X12_goalRooms_4 : decode (mB M_X12_goalRooms) 4 = .ok (.iload_n 3, 1) := by decide +kernel
theorem d_X12_goalRooms_5 : decode (mB M_X12_goalRooms) 5 = .ok (.aload_n 0, 1) := by decide +kernel
theorem d_X12_goalRooms_6 : decode (mB M_X12_goalRooms) 6 = .ok (.invokevirtual 130, 3) := by decide +kernel
theorem d_X12_goalRooms_9 : decode (mB M_X12_goalRooms) 9 = .ok (.if_icmp .ge 16, 3) := by decide +kernel
theorem d_X12_goalRooms_12 : decode (mB M_X12_goalRooms) 12 = .ok (.aload_n 0, 1) := by decide +kernel
theorem d_X12_goalRooms_13 : decode (mB M_X12_goalRooms) 13 = .ok (.getfield 45, 3) := by decide +kernel
theorem d_X12_goalRooms_16 : decode (mB M_X12_goalRooms) 16 = .ok (.iload_n 3, 1) := by decide +kernel
theorem d_X12_goalRooms_17 : decode (mB M_X12_goalRooms) 17 = .ok (.iconst 0, 1) := by decide +kernel
theorem d_X12_goalRooms_18 : decode (mB M_X12_goalRooms) 18 = .ok (.bastore, 1) := by decide +kernel
theorem d_X12_goalRooms_19 : decode (mB M_X12_goalRooms) 19 = .ok (.iinc 3 1, 3) := by decide +kernel
theorem d_X12_goalRooms_22 : decode (mB M_X12_goalRooms) 22 = .ok (.goto (-18), 3) := by decide +kernel
theorem d_X12_goalRooms_25 : decode (mB M_X12_goalRooms) 25 = .ok (.iconst 0, 1) := by decide +kernel
theorem d_X12_goalRooms_26 : decode (mB M_X12_goalRooms) 26 = .ok (.istore_n 3, 1) := by decide +kernel
theorem d_X12_goalRooms_27 : decode (mB M_X12_goalRooms) 27 = .ok (.iload_n 3, 1) := by decide +kernel
theorem d_X12_goalRooms_28 : decode (mB M_X12_goalRooms) 28 = .ok (.aload_n 0, 1) := by decide +kernel
theorem d_X12_goalRooms_29 : decode (mB M_X12_goalRooms) 29 = .ok (.invokevirtual 130, 3) := by decide +kernel
theorem d_X12_goalRooms_32 : decode (mB M_X12_goalRooms) 32 = .ok (.if_icmp .ge 44, 3) := by decide +kernel
theorem d_X12_goalRooms_35 : decode (mB M_X12_goalRooms) 35 = .ok (.aload_n 0, 1) := by decide +kernel
theorem d_X12_goalRooms_36 : decode (mB M_X12_goalRooms) 36 = .ok (.iload_n 3, 1) := by decide +kernel
theorem d_X12_goalRooms_37 : decode (mB M_X12_goalRooms) 37 = .ok (.invokevirtual 127, 3) := by decide +kernel
theorem d_X12_goalRooms_40 : decode (mB M_X12_goalRooms) 40 = .ok (.ifCond .eq 30, 3) := by decide +kernel
theorem d_X12_goalRooms_43 : decode (mB M_X12_goalRooms) 43 = .ok (.aload_n 0, 1) := by decide +kernel
theorem d_X12_goalRooms_44 : decode (mB M_X12_goalRooms) 44 = .ok (.getfield 45, 3) := by decide +kernel
theorem d_X12_goalRooms_47 : decode (mB M_X12_goalRooms) 47 = .ok (.iload_n 3, 1) := by decide +kernel
theorem d_X12_goalRooms_48 : decode (mB M_X12_goalRooms) 48 = .ok (.baload, 1) := by decide +kernel
theorem d_X12_goalRooms_49 : decode (mB M_X12_goalRooms) 49 = .ok (.ifCond .ne 21, 3) := by decide +kernel
theorem d_X12_goalRooms_52 : decode (mB M_X12_goalRooms) 52 = .ok (.aload_n 0, 1) := by decide +kernel
theorem d_X12_goalRooms_53 : decode (mB M_X12_goalRooms) 53 = .ok (.iload_n 3, 1) := by decide +kernel
theorem d_X12_goalRooms_54 : decode (mB M_X12_goalRooms) 54 = .ok (.invokevirtual 194, 3) := by decide +kernel
theorem d_X12_goalRooms_57 : decode (mB M_X12_goalRooms) 57 = .ok (.ifCond .eq 13, 3) := by decide +kernel
theorem d_X12_goalRooms_60 : decode (mB M_X12_goalRooms) 60 = .ok (.iload_n 2, 1) := by decide +kernel
theorem d_X12_goalRooms_61 : decode (mB M_X12_goalRooms) 61 = .ok (.iload_n 1, 1) := by decide +kernel
theorem d_X12_goalRooms_62 : decode (mB M_X12_goalRooms) 62 = .ok (.if_icmp .ne 5, 3) := by decide +kernel
theorem d_X12_goalRooms_65 : decode (mB M_X12_goalRooms) 65 = .ok (.iload_n 2, 1) := by decide +kernel
theorem d_X12_goalRooms_66 : decode (mB M_X12_goalRooms) 66 = .ok (.ireturn, 1) := by decide +kernel
theorem d_X12_goalRooms_67 : decode (mB M_X12_goalRooms) 67 = .ok (.iinc 2 1, 3) := by decide +kernel
theorem d_X12_goalRooms_70 : decode (mB M_X12_goalRooms) 70 = .ok (.iinc 3 1, 3) := by decide +kernel
theorem d_X12_goalRooms_73 : decode (mB M_X12_goalRooms) 73 = .ok (.goto (-46), 3) := by decide +kernel
theorem d_X12_goalRooms_76 : decode (mB M_X12_goalRooms) 76 = .ok (.iload_n 2, 1) := by decide +kernel
theorem d_X12_goalRooms_77 : decode (mB M_X12_goalRooms) 77 = .ok (.ireturn, 1) := by decide +kernel
theorem l_m_goalRooms {E : mEnv} (hE : E.1.stackTraces = false) (C : List mE) (N : Nat) : ∀ n : Nat, (∀ (v1 : Int32) (v2 : Int32) (v3 : Int32) (t : xT) (r : Int32 × xT), f_goalRooms_L N n 4 v1 v2 v3 t = some r → Go E M_X12_goalRooms 0 (4, [some (.ref 0), some (.int v1), some (.int v2), some (.int v3)], [], (mw t, C)) (.inr (.inl (some (.int r.1), (mw r.2, C))))) ∧ (∀ (v1 : Int32) (v2 : Int32) (v3 : Int32) (t : xT) (r : Int32 × xT), f_goalRooms_L N n 27 v1 v2 v3 t = some r → Go E M_X12_goalRooms 0 (27, [some (.ref 0), some (.int v1), some (.int v2), some (.int v3)], [], (mw t, C)) (.inr (.inl (some (.int r.1), (mw r.2, C))))) := by
  intro n
  induction n with
  | zero => exact ⟨(fun v1 v2 v3 t r h => by cases h), (fun v1 v2 v3 t r h => by cases h)⟩
  | succ n ih =>
    refine ⟨?_, ?_⟩
    · intro v1 v2 v3 t r h
      rw [u_goalRooms_4] at h
      refine g_iload_n d_X12_goalRooms_4 rfl ?_
      refine g_aload_n d_X12_goalRooms_5 rfl ?_
      refine g_callV (As := []) d_X12_goalRooms_6 o_X12_size l_X12_130 ⟨Nat.le_of_ble_eq_true rfl, Nat.le_of_ble_eq_true rfl⟩ (c_m_size hE C t) (gm0 t C) rfl rfl rfl rfl rfl ?_ (Nat.zero_add _)
      refine g_icmp_ge (tgt := 25) d_X12_goalRooms_9 (by decide) (fun c_9 => ?_) (fun c_9 => ?_)
      · replace h := opos c_9 h
        refine g_iconst (v := 0) d_X12_goalRooms_25 (by decide) ?_
        refine g_istore_n (L' := [some (.ref 0), some (.int v1), some (.int v2), some (.int 0)]) d_X12_goalRooms_26 rfl rfl ?_
        exact (ih).2 v1 v2 0 t _ h
      · replace h := oneg c_9 h
        refine g_aload_n d_X12_goalRooms_12 rfl ?_
        refine g_getf d_X12_goalRooms_13 f_X12_45 (gm0 t C) rfl ?_
        refine g_iload_n d_X12_goalRooms_16 rfl ?_
        refine g_iconst (v := 0) d_X12_goalRooms_17 (by decide) ?_
        obtain ⟨i_18, h⟩ := ochk h
        obtain ⟨t_18, e_18, h⟩ := olet h
        refine g_zast (w' := (mw t_18, C)) d_X12_goalRooms_18 (gm_11 t C) (inB_in i_18) (by rw [e_18]; exact st_11 t C _) ?_
        refine g_iinc (v := (v3 + 1)) (L' := [some (.ref 0), some (.int v1), some (.int v2), some (.int (v3 + 1))]) d_X12_goalRooms_19 rfl rfl rfl ?_
        refine g_goto (tgt := 4) d_X12_goalRooms_22 (by decide) ?_
        exact (ih).1 v1 v2 (v3 + 1) t_18 _ h
    · intro v1 v2 v3 t r h
      rw [u_goalRooms_27] at h
      refine g_iload_n d_X12_goalRooms_27 rfl ?_
      refine g_aload_n d_X12_goalRooms_28 rfl ?_
      refine g_callV (As := []) d_X12_goalRooms_29 o_X12_size l_X12_130 ⟨Nat.le_of_ble_eq_true rfl, Nat.le_of_ble_eq_true rfl⟩ (c_m_size hE C t) (gm0 t C) rfl rfl rfl rfl rfl ?_ (Nat.zero_add _)
      refine g_icmp_ge (tgt := 76) d_X12_goalRooms_32 (by decide) (fun c_32 => ?_) (fun c_32 => ?_)
      · replace h := opos c_32 h
        refine g_iload_n d_X12_goalRooms_76 rfl ?_
        obtain rfl := osome h
        exact g_retI d_X12_goalRooms_77 rfl rfl rfl
      · replace h := oneg c_32 h
        refine g_aload_n d_X12_goalRooms_35 rfl ?_
        refine g_iload_n d_X12_goalRooms_36 rfl ?_
        obtain ⟨r_37, h_37, h⟩ := obind h
        refine g_callV (As := [.int v3]) d_X12_goalRooms_37 o_X12_isGoal l_X12_127 ⟨Nat.le_of_ble_eq_true rfl, Nat.le_of_ble_eq_true rfl⟩ (c_m_isGoal hE C t v3 _ h_37) (gm0 t C) rfl rfl rfl rfl rfl ?_ (Nat.zero_add _)
        refine g_if_eq (tgt := 70) d_X12_goalRooms_40 (by decide) (fun c_40 => ?_) (fun c_40 => ?_)
        · replace h := opos c_40 h
          refine g_iinc (v := (v3 + 1)) (L' := [some (.ref 0), some (.int v1), some (.int v2), some (.int (v3 + 1))]) d_X12_goalRooms_70 rfl rfl rfl ?_
          refine g_goto (tgt := 27) d_X12_goalRooms_73 (by decide) ?_
          exact (ih).2 v1 v2 (v3 + 1) t _ h
        · replace h := oneg c_40 h
          refine g_aload_n d_X12_goalRooms_43 rfl ?_
          refine g_getf d_X12_goalRooms_44 f_X12_45 (gm0 t C) rfl ?_
          refine g_iload_n d_X12_goalRooms_47 rfl ?_
          obtain ⟨i_48, h⟩ := ochk h
          refine g_zald d_X12_goalRooms_48 (gm_11 t C) (inB_in i_48) ?_
          refine g_if_ne (tgt := 70) d_X12_goalRooms_49 (by decide) (fun c_49 => ?_) (fun c_49 => ?_)
          · replace h := oneg c_49 h
            refine g_iinc (v := (v3 + 1)) (L' := [some (.ref 0), some (.int v1), some (.int v2), some (.int (v3 + 1))]) d_X12_goalRooms_70 rfl rfl rfl ?_
            refine g_goto (tgt := 27) d_X12_goalRooms_73 (by decide) ?_
            exact (ih).2 v1 v2 (v3 + 1) t _ h
          · replace h := opos c_49 h
            refine g_aload_n d_X12_goalRooms_52 rfl ?_
            refine g_iload_n d_X12_goalRooms_53 rfl ?_
            obtain ⟨r_54, h_54, h⟩ := obind h
            refine g_callV (As := [.int v3]) d_X12_goalRooms_54 o_X12_gathers l_X12_194 ⟨Nat.le_of_ble_eq_true rfl, Nat.le_of_ble_eq_true rfl⟩ (c_m_gathers hE C N t v3 _ h_54) (gm0 t C) rfl rfl rfl rfl rfl ?_ (Nat.zero_add _)
            refine g_if_eq (tgt := 70) d_X12_goalRooms_57 (by decide) (fun c_57 => ?_) (fun c_57 => ?_)
            · replace h := opos c_57 h
              refine g_iinc (v := (v3 + 1)) (L' := [some (.ref 0), some (.int v1), some (.int v2), some (.int (v3 + 1))]) d_X12_goalRooms_70 rfl rfl rfl ?_
              refine g_goto (tgt := 27) d_X12_goalRooms_73 (by decide) ?_
              exact (ih).2 v1 v2 (v3 + 1) r_54.2 _ h
            · replace h := oneg c_57 h
              refine g_iload_n d_X12_goalRooms_60 rfl ?_
              refine g_iload_n d_X12_goalRooms_61 rfl ?_
              refine g_icmp_ne (tgt := 67) d_X12_goalRooms_62 (by decide) (fun c_62 => ?_) (fun c_62 => ?_)
              · replace h := oneg c_62 h
                refine g_iinc (v := (v2 + 1)) (L' := [some (.ref 0), some (.int v1), some (.int (v2 + 1)), some (.int v3)]) d_X12_goalRooms_67 rfl rfl rfl ?_
                refine g_iinc (v := (v3 + 1)) (L' := [some (.ref 0), some (.int v1), some (.int (v2 + 1)), some (.int (v3 + 1))]) d_X12_goalRooms_70 rfl rfl rfl ?_
                refine g_goto (tgt := 27) d_X12_goalRooms_73 (by decide) ?_
                exact (ih).2 v1 (v2 + 1) (v3 + 1) r_54.2 _ h
              · replace h := opos c_62 h
                refine g_iload_n d_X12_goalRooms_65 rfl ?_
                obtain rfl := osome h
                exact g_retI d_X12_goalRooms_66 rfl rfl rfl
theorem c_m_goalRooms {E : mEnv} (hE : E.1.stackTraces = false) (C : List mE) (N : Nat) (t : xT) (a0 : Int32) (r : Int32 × xT) (h : f_goalRooms N t a0 = some r) : Rt E M_X12_goalRooms 0 [.ref 0, .int a0] (mw t, C) (some (.int r.1)) (mw r.2, C) := by
  unfold f_goalRooms at h
  refine Rt.of hE rfl pn_X12 (Nat.le_of_ble_eq_true rfl) ?_
  refine g_eq (S' := (0, [some (.ref 0), some (.int a0), none, none], [], (mw t, C))) rfl ?_
  refine g_iconst (v := 0) d_X12_goalRooms_0 (by decide) ?_
  refine g_istore_n (L' := [some (.ref 0), some (.int a0), some (.int 0), none]) d_X12_goalRooms_1 rfl rfl ?_
  refine g_iconst (v := 0) d_X12_goalRooms_2 (by decide) ?_
  refine g_istore_n (L' := [some (.ref 0), some (.int a0), some (.int 0), some (.int 0)]) d_X12_goalRooms_3 rfl rfl ?_
  exact (l_m_goalRooms hE C N N).1 a0 0 0 t _ h
def f_isSolved_L (N : Nat) : Nat → Int32 → xT → Option (Int32)
  | 0, _, _ => none
  | n + 1, v1, t =>
    if (f_size t) ≤ v1 then (some (1 : Int32))
    else (Option.bind (f_isBox t v1) fun r_12 =>
      if r_12 = 0 then (f_isSolved_L N n (v1 + 1) t)
      else (Option.bind (f_isGoal t v1) fun r_20 =>
        if r_20 = 0 then (some (0 : Int32))
        else (f_isSolved_L N n (v1 + 1) t)))
theorem u_isSolved_2 (N n : Nat) (v1 : Int32) (t : xT) : f_isSolved_L N (n + 1) v1 t = (if (f_size t) ≤ v1 then (some (1 : Int32))
    else (Option.bind (f_isBox t v1) fun r_12 =>
      if r_12 = 0 then (f_isSolved_L N n (v1 + 1) t)
      else (Option.bind (f_isGoal t v1) fun r_20 =>
        if r_20 = 0 then (some (0 : Int32))
        else (f_isSolved_L N n (v1 + 1) t)))) := rfl
def f_isSolved (N : Nat) (t : xT)  : Option (Int32) :=
  f_isSolved_L N N 0 t
theorem d_X12_isSolved_0 : decode (mB M_X12_isSolved) 0 = .ok (.iconst 0, 1) := by decide +kernel
theorem d_X12_isSolved_1 : decode (mB M_X12_isSolved) 1 = .ok (.istore_n 1, 1) := by decide +kernel
theorem d_X12_isSolved_2 : decode (mB M_X12_isSolved) 2 = .ok (.iload_n 1, 1) := by decide +kernel
theorem d_X12_isSolved_3 : decode (mB M_X12_isSolved) 3 = .ok (.aload_n 0, 1) := by decide +kernel
theorem d_X12_isSolved_4 : decode (mB M_X12_isSolved) 4 = .ok (.invokevirtual 130, 3) := by decide +kernel
theorem d_X12_isSolved_7 : decode (mB M_X12_isSolved) 7 = .ok (.if_icmp .ge 27, 3) := by decide +kernel
theorem d_X12_isSolved_10 : decode (mB M_X12_isSolved) 10 = .ok (.aload_n 0, 1) := by decide +kernel
theorem d_X12_isSolved_11 : decode (mB M_X12_isSolved) 11 = .ok (.iload_n 1, 1) := by decide +kernel
theorem d_X12_isSolved_12 : decode (mB M_X12_isSolved) 12 = .ok (.invokevirtual 124, 3) := by decide +kernel
theorem d_X12_isSolved_15 : decode (mB M_X12_isSolved) 15 = .ok (.ifCond .eq 13, 3) := by decide +kernel
theorem d_X12_isSolved_18 : decode (mB M_X12_isSolved) 18 = .ok (.aload_n 0, 1) := by decide +kernel
theorem d_X12_isSolved_19 : decode (mB M_X12_isSolved) 19 = .ok (.iload_n 1, 1) := by decide +kernel
theorem d_X12_isSolved_20 : decode (mB M_X12_isSolved) 20 = .ok (.invokevirtual 127, 3) := by decide +kernel
theorem d_X12_isSolved_23 : decode (mB M_X12_isSolved) 23 = .ok (.ifCond .ne 5, 3) := by decide +kernel
theorem d_X12_isSolved_26 : decode (mB M_X12_isSolved) 26 = .ok (.iconst 0, 1) := by decide +kernel
theorem d_X12_isSolved_27 : decode (mB M_X12_isSolved) 27 = .ok (.ireturn, 1) := by decide +kernel
theorem d_X12_isSolved_28 : decode (mB M_X12_isSolved) 28 = .ok (.iinc 1 1, 3) := by decide +kernel
theorem d_X12_isSolved_31 : decode (mB M_X12_isSolved) 31 = .ok (.goto (-29), 3) := by decide +kernel
theorem d_X12_isSolved_34 : decode (mB M_X12_isSolved) 34 = .ok (.iconst 1, 1) := by decide +kernel
theorem d_X12_isSolved_35 : decode (mB M_X12_isSolved) 35 = .ok (.ireturn, 1) := by decide +kernel
theorem l_m_isSolved {E : mEnv} (hE : E.1.stackTraces = false) (C : List mE) (N : Nat) : ∀ n : Nat, (∀ (v1 : Int32) (t : xT) (r : Int32), f_isSolved_L N n v1 t = some r → Go E M_X12_isSolved 0 (2, [some (.ref 0), some (.int v1)], [], (mw t, C)) (.inr (.inl (some (.int r), (mw t, C))))) := by
  intro n
  induction n with
  | zero => exact fun v1 t r h => by cases h
  | succ n ih =>
    intro v1 t r h
    rw [u_isSolved_2] at h
    refine g_iload_n d_X12_isSolved_2 rfl ?_
    refine g_aload_n d_X12_isSolved_3 rfl ?_
    refine g_callV (As := []) d_X12_isSolved_4 o_X12_size l_X12_130 ⟨Nat.le_of_ble_eq_true rfl, Nat.le_of_ble_eq_true rfl⟩ (c_m_size hE C t) (gm0 t C) rfl rfl rfl rfl rfl ?_ (Nat.zero_add _)
    refine g_icmp_ge (tgt := 34) d_X12_isSolved_7 (by decide) (fun c_7 => ?_) (fun c_7 => ?_)
    · replace h := opos c_7 h
      refine g_iconst (v := 1) d_X12_isSolved_34 (by decide) ?_
      obtain rfl := osome h
      exact g_retZ d_X12_isSolved_35 rfl (by decide) rfl rfl
    · replace h := oneg c_7 h
      refine g_aload_n d_X12_isSolved_10 rfl ?_
      refine g_iload_n d_X12_isSolved_11 rfl ?_
      obtain ⟨r_12, h_12, h⟩ := obind h
      refine g_callV (As := [.int v1]) d_X12_isSolved_12 o_X12_isBox l_X12_124 ⟨Nat.le_of_ble_eq_true rfl, Nat.le_of_ble_eq_true rfl⟩ (c_m_isBox hE C t v1 _ h_12) (gm0 t C) rfl rfl rfl rfl rfl ?_ (Nat.zero_add _)
      refine g_if_eq (tgt := 28) d_X12_isSolved_15 (by decide) (fun c_15 => ?_) (fun c_15 => ?_)
      · replace h := opos c_15 h
        refine g_iinc (v := (v1 + 1)) (L' := [some (.ref 0), some (.int (v1 + 1))]) d_X12_isSolved_28 rfl rfl rfl ?_
        refine g_goto (tgt := 2) d_X12_isSolved_31 (by decide) ?_
        exact (ih) (v1 + 1) t _ h
      · replace h := oneg c_15 h
        refine g_aload_n d_X12_isSolved_18 rfl ?_
        refine g_iload_n d_X12_isSolved_19 rfl ?_
        obtain ⟨r_20, h_20, h⟩ := obind h
        refine g_callV (As := [.int v1]) d_X12_isSolved_20 o_X12_isGoal l_X12_127 ⟨Nat.le_of_ble_eq_true rfl, Nat.le_of_ble_eq_true rfl⟩ (c_m_isGoal hE C t v1 _ h_20) (gm0 t C) rfl rfl rfl rfl rfl ?_ (Nat.zero_add _)
        refine g_if_ne (tgt := 28) d_X12_isSolved_23 (by decide) (fun c_23 => ?_) (fun c_23 => ?_)
        · replace h := oneg c_23 h
          refine g_iinc (v := (v1 + 1)) (L' := [some (.ref 0), some (.int (v1 + 1))]) d_X12_isSolved_28 rfl rfl rfl ?_
          refine g_goto (tgt := 2) d_X12_isSolved_31 (by decide) ?_
          exact (ih) (v1 + 1) t _ h
        · replace h := opos c_23 h
          refine g_iconst (v := 0) d_X12_isSolved_26 (by decide) ?_
          obtain rfl := osome h
          exact g_retZ d_X12_isSolved_27 rfl (by decide) rfl rfl
theorem c_m_isSolved {E : mEnv} (hE : E.1.stackTraces = false) (C : List mE) (N : Nat) (t : xT)  (r : Int32) (h : f_isSolved N t = some r) : Rt E M_X12_isSolved 0 [.ref 0] (mw t, C) (some (.int r)) (mw t, C) := by
  unfold f_isSolved at h
  refine Rt.of hE rfl pn_X12 (Nat.le_of_ble_eq_true rfl) ?_
  refine g_eq (S' := (0, [some (.ref 0), none], [], (mw t, C))) rfl ?_
  refine g_iconst (v := 0) d_X12_isSolved_0 (by decide) ?_
  refine g_istore_n (L' := [some (.ref 0), some (.int 0)]) d_X12_isSolved_1 rfl rfl ?_
  exact (l_m_isSolved hE C N N) 0 t _ h
def f_count (N : Nat) (t : xT) (a0 : Int32) : Option (Int32 × xT) :=
  Option.bind (f_in a0 0 11) fun r_5 =>
  Option.bind (if r_5 = 0 then (some (1 : Int32))
    else (some (0 : Int32))) fun (r_8 : Int32) =>
  Option.bind (some (ws t 9 r_8)) fun t_16 =>
  if 0 < (rs t_16 9) then (some ((0 : Int32), t_16))
  else (if 11 ≤ a0 then (if a0 = 0 then (some (((ra t_16 1) (Int32.toNatClampNeg 1)), t_16))
      else (if a0 = 1 then (some (((ra t_16 1) (Int32.toNatClampNeg 2)), t_16))
        else (if a0 = 2 then (Option.bind (f_counted N t_16 1) fun r_116 =>
            some (r_116, t_16))
          else (if a0 = 3 then (Option.bind (f_counted N t_16 0) fun r_122 =>
              some (r_122, t_16))
            else (if a0 = 4 then (some (((ra t_16 1) (Int32.toNatClampNeg 3)), t_16))
              else (if a0 = 5 then (some (((ra t_16 1) (Int32.toNatClampNeg 4)), t_16))
                else (if a0 = 6 then (Option.bind (f_recordedPushes N t_16) fun r_141 =>
                    some (r_141, t_16))
                  else (if a0 = 7 then (some ((rs t_16 5), t_16))
                    else (if a0 = 8 then (Option.bind (f_groups N t_16) fun r_151 =>
                        some (r_151.1, r_151.2))
                      else (if a0 = 9 then (Option.bind (f_goalRooms N t_16 (-1)) fun r_157 =>
                          some (r_157.1, r_157.2))
                        else (if a0 = 10 then (Option.bind (f_isSolved N t_16) fun r_162 =>
                            Option.bind (if r_162 = 0 then (some (0 : Int32))
                              else (some (1 : Int32))) fun (r_165 : Int32) =>
                            some (r_165, t_16))
                          else (some ((rs t_16 11), t_16)))))))))))))
    else (Option.bind (f_hasRoom t_16) fun r_33 =>
      if r_33 = 0 then (some ((0 : Int32), t_16))
      else (if a0 = 0 then (some (((ra t_16 1) (Int32.toNatClampNeg 1)), t_16))
        else (if a0 = 1 then (some (((ra t_16 1) (Int32.toNatClampNeg 2)), t_16))
          else (if a0 = 2 then (Option.bind (f_counted N t_16 1) fun r_116 =>
              some (r_116, t_16))
            else (if a0 = 3 then (Option.bind (f_counted N t_16 0) fun r_122 =>
                some (r_122, t_16))
              else (if a0 = 4 then (some (((ra t_16 1) (Int32.toNatClampNeg 3)), t_16))
                else (if a0 = 5 then (some (((ra t_16 1) (Int32.toNatClampNeg 4)), t_16))
                  else (if a0 = 6 then (Option.bind (f_recordedPushes N t_16) fun r_141 =>
                      some (r_141, t_16))
                    else (if a0 = 7 then (some ((rs t_16 5), t_16))
                      else (if a0 = 8 then (Option.bind (f_groups N t_16) fun r_151 =>
                          some (r_151.1, r_151.2))
                        else (if a0 = 9 then (Option.bind (f_goalRooms N t_16 (-1)) fun r_157 =>
                            some (r_157.1, r_157.2))
                          else (if a0 = 10 then (Option.bind (f_isSolved N t_16) fun r_162 =>
                              Option.bind (if r_162 = 0 then (some (0 : Int32))
                                else (some (1 : Int32))) fun (r_165 : Int32) =>
                              some (r_165, t_16))
                            else (some ((rs t_16 11), t_16)))))))))))))))
theorem d_X12_count_0 : decode (mB M_X12_count) 0 = .ok (.aload_n 0, 1) := by decide +kernel
theorem d_X12_count_1 : decode (mB M_X12_count) 1 = .ok (.iload_n 1, 1) := by decide +kernel
theorem d_X12_count_2 : decode (mB M_X12_count) 2 = .ok (.iconst 0, 1) := by decide +kernel
theorem d_X12_count_3 : decode (mB M_X12_count) 3 = .ok (.bipush 11, 2) := by decide +kernel
theorem d_X12_count_5 : decode (mB M_X12_count) 5 = .ok (.invokestatic 76, 3) := by decide +kernel
theorem d_X12_count_8 : decode (mB M_X12_count) 8 = .ok (.ifCond .eq 7, 3) := by decide +kernel
theorem d_X12_count_11 : decode (mB M_X12_count) 11 = .ok (.iconst 0, 1) := by decide +kernel
theorem d_X12_count_12 : decode (mB M_X12_count) 12 = .ok (.goto 4, 3) := by decide +kernel
theorem d_X12_count_15 : decode (mB M_X12_count) 15 = .ok (.iconst 1, 1) := by decide +kernel
theorem d_X12_count_16 : decode (mB M_X12_count) 16 = .ok (.putfield 73, 3) := by decide +kernel
theorem d_X12_count_19 : decode (mB M_X12_count) 19 = .ok (.aload_n 0, 1) := by decide +kernel
theorem d_X12_count_20 : decode (mB M_X12_count) 20 = .ok (.getfield 73, 3) := by decide +kernel
theorem d_X12_count_23 : decode (mB M_X12_count) 23 = .ok (.ifCond .gt 16, 3) := by decide +kernel
theorem d_X12_count_26 : decode (mB M_X12_count) 26 = .ok (.iload_n 1, 1) := by decide +kernel
theorem d_X12_count_27 : decode (mB M_X12_count) 27 = .ok (.bipush 11, 2) := by decide +kernel
theorem d_X12_count_29 : decode (mB M_X12_count) 29 = .ok (.if_icmp .ge 12, 3) := by decide +kernel
theorem d_X12_count_32 : decode (mB M_X12_count) 32 = .ok (.aload_n 0, 1) := by decide +kernel
theorem d_X12_count_33 : decode (mB M_X12_count) 33 = .ok (.invokevirtual 83, 3) := by decide +kernel
theorem d_X12_count_36 : decode (mB M_X12_count) 36 = .ok (.ifCond .ne 5, 3) := by decide +kernel
theorem d_X12_count_39 : decode (mB M_X12_count) 39 = .ok (.iconst 0, 1) := by decide +kernel
theorem d_X12_count_40 : decode (mB M_X12_count) 40 = .ok (.ireturn, 1) := by decide +kernel
theorem d_X12_count_41 : decode (mB M_X12_count) 41 = .ok (.iload_n 1, 1) := by decide +kernel
theorem d_X12_count_42 : decode (mB M_X12_count) 42 = .ok (.tableswitch 132 0 10 #[58, 65, 72, 78, 84, 91, 98, 103, 108, 113, 119], 58) := by decide +kernel
theorem d_X12_count_100 : decode (mB M_X12_count) 100 = .ok (.aload_n 0, 1) := by decide +kernel
theorem d_X12_count_101 : decode (mB M_X12_count) 101 = .ok (.getfield 7, 3) := by decide +kernel
theorem d_X12_count_104 : decode (mB M_X12_count) 104 = .ok (.iconst 1, 1) := by decide +kernel
theorem d_X12_count_105 : decode (mB M_X12_count) 105 = .ok (.iaload, 1) := by decide +kernel
theorem d_X12_count_106 : decode (mB M_X12_count) 106 = .ok (.ireturn, 1) := by decide +kernel
theorem d_X12_count_107 : decode (mB M_X12_count) 107 = .ok (.aload_n 0, 1) := by decide +kernel
theorem d_X12_count_108 : decode (mB M_X12_count) 108 = .ok (.getfield 7, 3) := by decide +kernel
theorem d_X12_count_111 : decode (mB M_X12_count) 111 = .ok (.iconst 2, 1) := by decide +kernel
theorem d_X12_count_112 : decode (mB M_X12_count) 112 = .ok (.iaload, 1) := by decide +kernel
theorem d_X12_count_113 : decode (mB M_X12_count) 113 = .ok (.ireturn, 1) := by decide +kernel
theorem d_X12_count_114 : decode (mB M_X12_count) 114 = .ok (.aload_n 0, 1) := by decide +kernel
theorem d_X12_count_115 : decode (mB M_X12_count) 115 = .ok (.iconst 1, 1) := by decide +kernel
theorem d_X12_count_116 : decode (mB M_X12_count) 116 = .ok (.invokevirtual 169, 3) := by decide +kernel
theorem d_X12_count_119 : decode (mB M_X12_count) 119 = .ok (.ireturn, 1) := by decide +kernel
theorem d_X12_count_120 : decode (mB M_X12_count) 120 = .ok (.aload_n 0, 1) := by decide +kernel
theorem d_X12_count_121 : decode (mB M_X12_count) 121 = .ok (.iconst 0, 1) := by decide +kernel
theorem d_X12_count_122 : decode (mB M_X12_count) 122 = .ok (.invokevirtual 169, 3) := by decide +kernel
theorem d_X12_count_125 : decode (mB M_X12_count) 125 = .ok (.ireturn, 1) := by decide +kernel
theorem d_X12_count_126 : decode (mB M_X12_count) 126 = .ok (.aload_n 0, 1) := by decide +kernel
theorem d_X12_count_127 : decode (mB M_X12_count) 127 = .ok (.getfield 7, 3) := by decide +kernel
theorem d_X12_count_130 : decode (mB M_X12_count) 130 = .ok (.iconst 3, 1) := by decide +kernel
theorem d_X12_count_131 : decode (mB M_X12_count) 131 = .ok (.iaload, 1) := by decide +kernel
theorem d_X12_count_132 : decode (mB M_X12_count) 132 = .ok (.ireturn, 1) := by decide +kernel
theorem d_X12_count_133 : decode (mB M_X12_count) 133 = .ok (.aload_n 0, 1) := by decide +kernel
theorem d_X12_count_134 : decode (mB M_X12_count) 134 = .ok (.getfield 7, 3) := by decide +kernel
theorem d_X12_count_137 : decode (mB M_X12_count) 137 = .ok (.iconst 4, 1) := by decide +kernel
theorem d_X12_count_138 : decode (mB M_X12_count) 138 = .ok (.iaload, 1) := by decide +kernel
theorem d_X12_count_139 : decode (mB M_X12_count) 139 = .ok (.ireturn, 1) := by decide +kernel
theorem d_X12_count_140 : decode (mB M_X12_count) 140 = .ok (.aload_n 0, 1) := by decide +kernel
theorem d_X12_count_141 : decode (mB M_X12_count) 141 = .ok (.invokevirtual 173, 3) := by decide +kernel
theorem d_X12_count_144 : decode (mB M_X12_count) 144 = .ok (.ireturn, 1) := by decide +kernel
theorem d_X12_count_145 : decode (mB M_X12_count) 145 = .ok (.aload_n 0, 1) := by decide +kernel
theorem d_X12_count_146 : decode (mB M_X12_count) 146 = .ok (.getfield 80, 3) := by decide +kernel
theorem d_X12_count_149 : decode (mB M_X12_count) 149 = .ok (.ireturn, 1) := by decide +kernel
theorem d_X12_count_150 : decode (mB M_X12_count) 150 = .ok (.aload_n 0, 1) := by decide +kernel
theorem d_X12_count_151 : decode (mB M_X12_count) 151 = .ok (.invokevirtual 176, 3) := by decide +kernel
theorem d_X12_count_154 : decode (mB M_X12_count) 154 = .ok (.ireturn, 1) := by decide +kernel
theorem d_X12_count_155 : decode (mB M_X12_count) 155 = .ok (.aload_n 0, 1) := by decide +kernel
theorem d_X12_count_156 : decode (mB M_X12_count) 156 = .ok (.iconst (-1), 1) := by decide +kernel
theorem d_X12_count_157 : decode (mB M_X12_count) 157 = .ok (.invokevirtual 179, 3) := by decide +kernel
theorem d_X12_count_160 : decode (mB M_X12_count) 160 = .ok (.ireturn, 1) := by decide +kernel
theorem d_X12_count_161 : decode (mB M_X12_count) 161 = .ok (.aload_n 0, 1) := by decide +kernel
theorem d_X12_count_162 : decode (mB M_X12_count) 162 = .ok (.invokevirtual 182, 3) := by decide +kernel
theorem d_X12_count_165 : decode (mB M_X12_count) 165 = .ok (.ifCond .eq 7, 3) := by decide +kernel
theorem d_X12_count_168 : decode (mB M_X12_count) 168 = .ok (.iconst 1, 1) := by decide +kernel
theorem d_X12_count_169 : decode (mB M_X12_count) 169 = .ok (.goto 4, 3) := by decide +kernel
theorem d_X12_count_172 : decode (mB M_X12_count) 172 = .ok (.iconst 0, 1) := by decide +kernel
theorem d_X12_count_173 : decode (mB M_X12_count) 173 = .ok (.ireturn, 1) := by decide +kernel
theorem d_X12_count_174 : decode (mB M_X12_count) 174 = .ok (.aload_n 0, 1) := by decide +kernel
theorem d_X12_count_175 : decode (mB M_X12_count) 175 = .ok (.getfield 91, 3) := by decide +kernel
theorem d_X12_count_178 : decode (mB M_X12_count) 178 = .ok (.ireturn, 1) := by decide +kernel
theorem c_m_count {E : mEnv} (hE : E.1.stackTraces = false) (C : List mE) (N : Nat) (t : xT) (a0 : Int32) (r : Int32 × xT) (h : f_count N t a0 = some r) : Rt E M_X12_count 0 [.ref 0, .int a0] (mw t, C) (some (.int r.1)) (mw r.2, C) := by
  unfold f_count at h
  refine Rt.of hE rfl pn_X12 (Nat.le_of_ble_eq_true rfl) ?_
  refine g_eq (S' := (0, [some (.ref 0), some (.int a0)], [], (mw t, C))) rfl ?_
  refine g_aload_n d_X12_count_0 rfl ?_
  refine g_iload_n d_X12_count_1 rfl ?_
  refine g_iconst (v := 0) d_X12_count_2 (by decide) ?_
  refine g_bipush (v := 11) d_X12_count_3 (by decide) ?_
  obtain ⟨r_5, h_5, h⟩ := obind h
  refine g_callS (As := [.int a0, .int 0, .int 11]) d_X12_count_5 o_X12_in l_X12_76 ⟨Nat.le_of_ble_eq_true rfl, Nat.le_of_ble_eq_true rfl⟩ (c_m_in hE C t a0 0 11 _ h_5) rfl rfl ?_ (Nat.zero_add _)
  obtain ⟨r_8, h_8, hh_8⟩ := obind h
  refine Go.trans0 (S1 := (16, [some (.ref 0), some (.int a0)], [.int r_8, .ref 0], (mw t, C))) ?_ ?_
  · replace h := h_8
    clear hh_8
    refine g_if_eq (tgt := 15) d_X12_count_8 (by decide) (fun c_8 => ?_) (fun c_8 => ?_)
    · replace h := opos c_8 h
      refine g_iconst (v := 1) d_X12_count_15 (by decide) ?_
      obtain rfl := osome h
      exact g_end rfl
    · replace h := oneg c_8 h
      refine g_iconst (v := 0) d_X12_count_11 (by decide) ?_
      refine g_goto (tgt := 16) d_X12_count_12 (by decide) ?_
      obtain rfl := osome h
      exact g_end rfl
  replace h := hh_8
  obtain ⟨t_16, e_16, h⟩ := olet h
  refine g_putI (w' := (mw t_16, C)) d_X12_count_16 p_X12_73 rfl rfl (gm0 t C) (Nat.le_of_ble_eq_true rfl) (by rw [e_16]; exact sc_9 t C _) ?_
  refine g_aload_n d_X12_count_19 rfl ?_
  refine g_getf d_X12_count_20 f_X12_73 (gm0 t_16 C) rfl ?_
  refine g_if_gt (tgt := 39) d_X12_count_23 (by decide) (fun c_23 => ?_) (fun c_23 => ?_)
  · replace h := opos c_23 h
    refine g_iconst (v := 0) d_X12_count_39 (by decide) ?_
    obtain rfl := osome h
    exact g_retI d_X12_count_40 rfl rfl rfl
  · replace h := oneg c_23 h
    refine g_iload_n d_X12_count_26 rfl ?_
    refine g_bipush (v := 11) d_X12_count_27 (by decide) ?_
    refine g_icmp_ge (tgt := 41) d_X12_count_29 (by decide) (fun c_29 => ?_) (fun c_29 => ?_)
    · replace h := opos c_29 h
      refine g_iload_n d_X12_count_41 rfl ?_
      by_cases t_42_0 : a0 = 0
      · replace h := opos t_42_0 h
        refine g_tabIn (off := 58) (tgt := 100) d_X12_count_42 (by rw [t_42_0]; decide) (by rw [t_42_0]; decide) (by rw [t_42_0]; rfl) (by decide) ?_
        refine g_aload_n d_X12_count_100 rfl ?_
        refine g_getf d_X12_count_101 f_X12_7 (gm0 t_16 C) rfl ?_
        refine g_iconst (v := 1) d_X12_count_104 (by decide) ?_
        refine g_iald d_X12_count_105 (gm_1 t_16 C) (inB_in (by decide)) ?_
        obtain rfl := osome h
        exact g_retI d_X12_count_106 rfl rfl rfl
      replace h := oneg t_42_0 h
      by_cases t_42_1 : a0 = 1
      · replace h := opos t_42_1 h
        refine g_tabIn (off := 65) (tgt := 107) d_X12_count_42 (by rw [t_42_1]; decide) (by rw [t_42_1]; decide) (by rw [t_42_1]; rfl) (by decide) ?_
        refine g_aload_n d_X12_count_107 rfl ?_
        refine g_getf d_X12_count_108 f_X12_7 (gm0 t_16 C) rfl ?_
        refine g_iconst (v := 2) d_X12_count_111 (by decide) ?_
        refine g_iald d_X12_count_112 (gm_1 t_16 C) (inB_in (by decide)) ?_
        obtain rfl := osome h
        exact g_retI d_X12_count_113 rfl rfl rfl
      replace h := oneg t_42_1 h
      by_cases t_42_2 : a0 = 2
      · replace h := opos t_42_2 h
        refine g_tabIn (off := 72) (tgt := 114) d_X12_count_42 (by rw [t_42_2]; decide) (by rw [t_42_2]; decide) (by rw [t_42_2]; rfl) (by decide) ?_
        refine g_aload_n d_X12_count_114 rfl ?_
        refine g_iconst (v := 1) d_X12_count_115 (by decide) ?_
        obtain ⟨r_116, h_116, h⟩ := obind h
        refine g_callV (As := [.int 1]) d_X12_count_116 o_X12_counted l_X12_169 ⟨Nat.le_of_ble_eq_true rfl, Nat.le_of_ble_eq_true rfl⟩ (c_m_counted hE C N t_16 1 _ h_116) (gm0 t_16 C) rfl rfl rfl rfl rfl ?_ (Nat.zero_add _)
        obtain rfl := osome h
        exact g_retI d_X12_count_119 rfl rfl rfl
      replace h := oneg t_42_2 h
      by_cases t_42_3 : a0 = 3
      · replace h := opos t_42_3 h
        refine g_tabIn (off := 78) (tgt := 120) d_X12_count_42 (by rw [t_42_3]; decide) (by rw [t_42_3]; decide) (by rw [t_42_3]; rfl) (by decide) ?_
        refine g_aload_n d_X12_count_120 rfl ?_
        refine g_iconst (v := 0) d_X12_count_121 (by decide) ?_
        obtain ⟨r_122, h_122, h⟩ := obind h
        refine g_callV (As := [.int 0]) d_X12_count_122 o_X12_counted l_X12_169 ⟨Nat.le_of_ble_eq_true rfl, Nat.le_of_ble_eq_true rfl⟩ (c_m_counted hE C N t_16 0 _ h_122) (gm0 t_16 C) rfl rfl rfl rfl rfl ?_ (Nat.zero_add _)
        obtain rfl := osome h
        exact g_retI d_X12_count_125 rfl rfl rfl
      replace h := oneg t_42_3 h
      by_cases t_42_4 : a0 = 4
      · replace h := opos t_42_4 h
        refine g_tabIn (off := 84) (tgt := 126) d_X12_count_42 (by rw [t_42_4]; decide) (by rw [t_42_4]; decide) (by rw [t_42_4]; rfl) (by decide) ?_
        refine g_aload_n d_X12_count_126 rfl ?_
        refine g_getf d_X12_count_127 f_X12_7 (gm0 t_16 C) rfl ?_
        refine g_iconst (v := 3) d_X12_count_130 (by decide) ?_
        refine g_iald d_X12_count_131 (gm_1 t_16 C) (inB_in (by decide)) ?_
        obtain rfl := osome h
        exact g_retI d_X12_count_132 rfl rfl rfl
      replace h := oneg t_42_4 h
      by_cases t_42_5 : a0 = 5
      · replace h := opos t_42_5 h
        refine g_tabIn (off := 91) (tgt := 133) d_X12_count_42 (by rw [t_42_5]; decide) (by rw [t_42_5]; decide) (by rw [t_42_5]; rfl) (by decide) ?_
        refine g_aload_n d_X12_count_133 rfl ?_
        refine g_getf d_X12_count_134 f_X12_7 (gm0 t_16 C) rfl ?_
        refine g_iconst (v := 4) d_X12_count_137 (by decide) ?_
        refine g_iald d_X12_count_138 (gm_1 t_16 C) (inB_in (by decide)) ?_
        obtain rfl := osome h
        exact g_retI d_X12_count_139 rfl rfl rfl
      replace h := oneg t_42_5 h
      by_cases t_42_6 : a0 = 6
      · replace h := opos t_42_6 h
        refine g_tabIn (off := 98) (tgt := 140) d_X12_count_42 (by rw [t_42_6]; decide) (by rw [t_42_6]; decide) (by rw [t_42_6]; rfl) (by decide) ?_
        refine g_aload_n d_X12_count_140 rfl ?_
        obtain ⟨r_141, h_141, h⟩ := obind h
        refine g_callV (As := []) d_X12_count_141 o_X12_recordedPushes l_X12_173 ⟨Nat.le_of_ble_eq_true rfl, Nat.le_of_ble_eq_true rfl⟩ (c_m_recordedPushes hE C N t_16 _ h_141) (gm0 t_16 C) rfl rfl rfl rfl rfl ?_ (Nat.zero_add _)
        obtain rfl := osome h
        exact g_retI d_X12_count_144 rfl rfl rfl
      replace h := oneg t_42_6 h
      by_cases t_42_7 : a0 = 7
      · replace h := opos t_42_7 h
        refine g_tabIn (off := 103) (tgt := 145) d_X12_count_42 (by rw [t_42_7]; decide) (by rw [t_42_7]; decide) (by rw [t_42_7]; rfl) (by decide) ?_
        refine g_aload_n d_X12_count_145 rfl ?_
        refine g_getf d_X12_count_146 f_X12_80 (gm0 t_16 C) rfl ?_
        obtain rfl := osome h
        exact g_retI d_X12_count_149 rfl rfl rfl
      replace h := oneg t_42_7 h
      by_cases t_42_8 : a0 = 8
      · replace h := opos t_42_8 h
        refine g_tabIn (off := 108) (tgt := 150) d_X12_count_42 (by rw [t_42_8]; decide) (by rw [t_42_8]; decide) (by rw [t_42_8]; rfl) (by decide) ?_
        refine g_aload_n d_X12_count_150 rfl ?_
        obtain ⟨r_151, h_151, h⟩ := obind h
        refine g_callV (As := []) d_X12_count_151 o_X12_groups l_X12_176 ⟨Nat.le_of_ble_eq_true rfl, Nat.le_of_ble_eq_true rfl⟩ (c_m_groups hE C N t_16 _ h_151) (gm0 t_16 C) rfl rfl rfl rfl rfl ?_ (Nat.zero_add _)
        obtain rfl := osome h
        exact g_retI d_X12_count_154 rfl rfl rfl
      replace h := oneg t_42_8 h
      by_cases t_42_9 : a0 = 9
      · replace h := opos t_42_9 h
        refine g_tabIn (off := 113) (tgt := 155) d_X12_count_42 (by rw [t_42_9]; decide) (by rw [t_42_9]; decide) (by rw [t_42_9]; rfl) (by decide) ?_
        refine g_aload_n d_X12_count_155 rfl ?_
        refine g_iconst (v := (-1)) d_X12_count_156 (by decide) ?_
        obtain ⟨r_157, h_157, h⟩ := obind h
        refine g_callV (As := [.int (-1)]) d_X12_count_157 o_X12_goalRooms l_X12_179 ⟨Nat.le_of_ble_eq_true rfl, Nat.le_of_ble_eq_true rfl⟩ (c_m_goalRooms hE C N t_16 (-1) _ h_157) (gm0 t_16 C) rfl rfl rfl rfl rfl ?_ (Nat.zero_add _)
        obtain rfl := osome h
        exact g_retI d_X12_count_160 rfl rfl rfl
      replace h := oneg t_42_9 h
      by_cases t_42_10 : a0 = 10
      · replace h := opos t_42_10 h
        refine g_tabIn (off := 119) (tgt := 161) d_X12_count_42 (by rw [t_42_10]; decide) (by rw [t_42_10]; decide) (by rw [t_42_10]; rfl) (by decide) ?_
        refine g_aload_n d_X12_count_161 rfl ?_
        obtain ⟨r_162, h_162, h⟩ := obind h
        refine g_callV (As := []) d_X12_count_162 o_X12_isSolved l_X12_182 ⟨Nat.le_of_ble_eq_true rfl, Nat.le_of_ble_eq_true rfl⟩ (c_m_isSolved hE C N t_16 _ h_162) (gm0 t_16 C) rfl rfl rfl rfl rfl ?_ (Nat.zero_add _)
        obtain ⟨r_165, h_165, hh_165⟩ := obind h
        refine Go.trans0 (S1 := (173, [none, none], [.int r_165], (mw t_16, C))) ?_ ?_
        · replace h := h_165
          clear hh_165
          refine g_if_eq (tgt := 172) d_X12_count_165 (by decide) (fun c_165 => ?_) (fun c_165 => ?_)
          · replace h := opos c_165 h
            refine g_iconst (v := 0) d_X12_count_172 (by decide) ?_
            obtain rfl := osome h
            exact g_drop [0, 1] rfl (g_end rfl)
          · replace h := oneg c_165 h
            refine g_iconst (v := 1) d_X12_count_168 (by decide) ?_
            refine g_goto (tgt := 173) d_X12_count_169 (by decide) ?_
            obtain rfl := osome h
            exact g_drop [0, 1] rfl (g_end rfl)
        replace h := hh_165
        obtain rfl := osome h
        exact g_retI d_X12_count_173 rfl rfl rfl
      replace h := oneg t_42_10 h
      refine g_tabOut (tgt := 174) d_X12_count_42 (by have q0 : a0.toInt ≠ 0 := sw_ne t_42_0; have q1 : a0.toInt ≠ 1 := sw_ne t_42_1; have q2 : a0.toInt ≠ 2 := sw_ne t_42_2; have q3 : a0.toInt ≠ 3 := sw_ne t_42_3; have q4 : a0.toInt ≠ 4 := sw_ne t_42_4; have q5 : a0.toInt ≠ 5 := sw_ne t_42_5; have q6 : a0.toInt ≠ 6 := sw_ne t_42_6; have q7 : a0.toInt ≠ 7 := sw_ne t_42_7; have q8 : a0.toInt ≠ 8 := sw_ne t_42_8; have q9 : a0.toInt ≠ 9 := sw_ne t_42_9; have q10 : a0.toInt ≠ 10 := sw_ne t_42_10; omega) (by decide) ?_
      refine g_aload_n d_X12_count_174 rfl ?_
      refine g_getf d_X12_count_175 f_X12_91 (gm0 t_16 C) rfl ?_
      obtain rfl := osome h
      exact g_retI d_X12_count_178 rfl rfl rfl
    · replace h := oneg c_29 h
      refine g_aload_n d_X12_count_32 rfl ?_
      obtain ⟨r_33, h_33, h⟩ := obind h
      refine g_callV (As := []) d_X12_count_33 o_X12_hasRoom l_X12_83 ⟨Nat.le_of_ble_eq_true rfl, Nat.le_of_ble_eq_true rfl⟩ (c_m_hasRoom hE C t_16 _ h_33) (gm0 t_16 C) rfl rfl rfl rfl rfl ?_ (Nat.zero_add _)
      refine g_if_ne (tgt := 41) d_X12_count_36 (by decide) (fun c_36 => ?_) (fun c_36 => ?_)
      · replace h := oneg c_36 h
        refine g_iload_n d_X12_count_41 rfl ?_
        by_cases t_42_0 : a0 = 0
        · replace h := opos t_42_0 h
          refine g_tabIn (off := 58) (tgt := 100) d_X12_count_42 (by rw [t_42_0]; decide) (by rw [t_42_0]; decide) (by rw [t_42_0]; rfl) (by decide) ?_
          refine g_aload_n d_X12_count_100 rfl ?_
          refine g_getf d_X12_count_101 f_X12_7 (gm0 t_16 C) rfl ?_
          refine g_iconst (v := 1) d_X12_count_104 (by decide) ?_
          refine g_iald d_X12_count_105 (gm_1 t_16 C) (inB_in (by decide)) ?_
          obtain rfl := osome h
          exact g_retI d_X12_count_106 rfl rfl rfl
        replace h := oneg t_42_0 h
        by_cases t_42_1 : a0 = 1
        · replace h := opos t_42_1 h
          refine g_tabIn (off := 65) (tgt := 107) d_X12_count_42 (by rw [t_42_1]; decide) (by rw [t_42_1]; decide) (by rw [t_42_1]; rfl) (by decide) ?_
          refine g_aload_n d_X12_count_107 rfl ?_
          refine g_getf d_X12_count_108 f_X12_7 (gm0 t_16 C) rfl ?_
          refine g_iconst (v := 2) d_X12_count_111 (by decide) ?_
          refine g_iald d_X12_count_112 (gm_1 t_16 C) (inB_in (by decide)) ?_
          obtain rfl := osome h
          exact g_retI d_X12_count_113 rfl rfl rfl
        replace h := oneg t_42_1 h
        by_cases t_42_2 : a0 = 2
        · replace h := opos t_42_2 h
          refine g_tabIn (off := 72) (tgt := 114) d_X12_count_42 (by rw [t_42_2]; decide) (by rw [t_42_2]; decide) (by rw [t_42_2]; rfl) (by decide) ?_
          refine g_aload_n d_X12_count_114 rfl ?_
          refine g_iconst (v := 1) d_X12_count_115 (by decide) ?_
          obtain ⟨r_116, h_116, h⟩ := obind h
          refine g_callV (As := [.int 1]) d_X12_count_116 o_X12_counted l_X12_169 ⟨Nat.le_of_ble_eq_true rfl, Nat.le_of_ble_eq_true rfl⟩ (c_m_counted hE C N t_16 1 _ h_116) (gm0 t_16 C) rfl rfl rfl rfl rfl ?_ (Nat.zero_add _)
          obtain rfl := osome h
          exact g_retI d_X12_count_119 rfl rfl rfl
        replace h := oneg t_42_2 h
        by_cases t_42_3 : a0 = 3
        · replace h := opos t_42_3 h
          refine g_tabIn (off := 78) (tgt := 120) d_X12_count_42 (by rw [t_42_3]; decide) (by rw [t_42_3]; decide) (by rw [t_42_3]; rfl) (by decide) ?_
          refine g_aload_n d_X12_count_120 rfl ?_
          refine g_iconst (v := 0) d_X12_count_121 (by decide) ?_
          obtain ⟨r_122, h_122, h⟩ := obind h
          refine g_callV (As := [.int 0]) d_X12_count_122 o_X12_counted l_X12_169 ⟨Nat.le_of_ble_eq_true rfl, Nat.le_of_ble_eq_true rfl⟩ (c_m_counted hE C N t_16 0 _ h_122) (gm0 t_16 C) rfl rfl rfl rfl rfl ?_ (Nat.zero_add _)
          obtain rfl := osome h
          exact g_retI d_X12_count_125 rfl rfl rfl
        replace h := oneg t_42_3 h
        by_cases t_42_4 : a0 = 4
        · replace h := opos t_42_4 h
          refine g_tabIn (off := 84) (tgt := 126) d_X12_count_42 (by rw [t_42_4]; decide) (by rw [t_42_4]; decide) (by rw [t_42_4]; rfl) (by decide) ?_
          refine g_aload_n d_X12_count_126 rfl ?_
          refine g_getf d_X12_count_127 f_X12_7 (gm0 t_16 C) rfl ?_
          refine g_iconst (v := 3) d_X12_count_130 (by decide) ?_
          refine g_iald d_X12_count_131 (gm_1 t_16 C) (inB_in (by decide)) ?_
          obtain rfl := osome h
          exact g_retI d_X12_count_132 rfl rfl rfl
        replace h := oneg t_42_4 h
        by_cases t_42_5 : a0 = 5
        · replace h := opos t_42_5 h
          refine g_tabIn (off := 91) (tgt := 133) d_X12_count_42 (by rw [t_42_5]; decide) (by rw [t_42_5]; decide) (by rw [t_42_5]; rfl) (by decide) ?_
          refine g_aload_n d_X12_count_133 rfl ?_
          refine g_getf d_X12_count_134 f_X12_7 (gm0 t_16 C) rfl ?_
          refine g_iconst (v := 4) d_X12_count_137 (by decide) ?_
          refine g_iald d_X12_count_138 (gm_1 t_16 C) (inB_in (by decide)) ?_
          obtain rfl := osome h
          exact g_retI d_X12_count_139 rfl rfl rfl
        replace h := oneg t_42_5 h
        by_cases t_42_6 : a0 = 6
        · replace h := opos t_42_6 h
          refine g_tabIn (off := 98) (tgt := 140) d_X12_count_42 (by rw [t_42_6]; decide) (by rw [t_42_6]; decide) (by rw [t_42_6]; rfl) (by decide) ?_
          refine g_aload_n d_X12_count_140 rfl ?_
          obtain ⟨r_141, h_141, h⟩ := obind h
          refine g_callV (As := []) d_X12_count_141 o_X12_recordedPushes l_X12_173 ⟨Nat.le_of_ble_eq_true rfl, Nat.le_of_ble_eq_true rfl⟩ (c_m_recordedPushes hE C N t_16 _ h_141) (gm0 t_16 C) rfl rfl rfl rfl rfl ?_ (Nat.zero_add _)
          obtain rfl := osome h
          exact g_retI d_X12_count_144 rfl rfl rfl
        replace h := oneg t_42_6 h
        by_cases t_42_7 : a0 = 7
        · replace h := opos t_42_7 h
          refine g_tabIn (off := 103) (tgt := 145) d_X12_count_42 (by rw [t_42_7]; decide) (by rw [t_42_7]; decide) (by rw [t_42_7]; rfl) (by decide) ?_
          refine g_aload_n d_X12_count_145 rfl ?_
          refine g_getf d_X12_count_146 f_X12_80 (gm0 t_16 C) rfl ?_
          obtain rfl := osome h
          exact g_retI d_X12_count_149 rfl rfl rfl
        replace h := oneg t_42_7 h
        by_cases t_42_8 : a0 = 8
        · replace h := opos t_42_8 h
          refine g_tabIn (off := 108) (tgt := 150) d_X12_count_42 (by rw [t_42_8]; decide) (by rw [t_42_8]; decide) (by rw [t_42_8]; rfl) (by decide) ?_
          refine g_aload_n d_X12_count_150 rfl ?_
          obtain ⟨r_151, h_151, h⟩ := obind h
          refine g_callV (As := []) d_X12_count_151 o_X12_groups l_X12_176 ⟨Nat.le_of_ble_eq_true rfl, Nat.le_of_ble_eq_true rfl⟩ (c_m_groups hE C N t_16 _ h_151) (gm0 t_16 C) rfl rfl rfl rfl rfl ?_ (Nat.zero_add _)
          obtain rfl := osome h
          exact g_retI d_X12_count_154 rfl rfl rfl
        replace h := oneg t_42_8 h
        by_cases t_42_9 : a0 = 9
        · replace h := opos t_42_9 h
          refine g_tabIn (off := 113) (tgt := 155) d_X12_count_42 (by rw [t_42_9]; decide) (by rw [t_42_9]; decide) (by rw [t_42_9]; rfl) (by decide) ?_
          refine g_aload_n d_X12_count_155 rfl ?_
          refine g_iconst (v := (-1)) d_X12_count_156 (by decide) ?_
          obtain ⟨r_157, h_157, h⟩ := obind h
          refine g_callV (As := [.int (-1)]) d_X12_count_157 o_X12_goalRooms l_X12_179 ⟨Nat.le_of_ble_eq_true rfl, Nat.le_of_ble_eq_true rfl⟩ (c_m_goalRooms hE C N t_16 (-1) _ h_157) (gm0 t_16 C) rfl rfl rfl rfl rfl ?_ (Nat.zero_add _)
          obtain rfl := osome h
          exact g_retI d_X12_count_160 rfl rfl rfl
        replace h := oneg t_42_9 h
        by_cases t_42_10 : a0 = 10
        · replace h := opos t_42_10 h
          refine g_tabIn (off := 119) (tgt := 161) d_X12_count_42 (by rw [t_42_10]; decide) (by rw [t_42_10]; decide) (by rw [t_42_10]; rfl) (by decide) ?_
          refine g_aload_n d_X12_count_161 rfl ?_
          obtain ⟨r_162, h_162, h⟩ := obind h
          refine g_callV (As := []) d_X12_count_162 o_X12_isSolved l_X12_182 ⟨Nat.le_of_ble_eq_true rfl, Nat.le_of_ble_eq_true rfl⟩ (c_m_isSolved hE C N t_16 _ h_162) (gm0 t_16 C) rfl rfl rfl rfl rfl ?_ (Nat.zero_add _)
          obtain ⟨r_165, h_165, hh_165⟩ := obind h
          refine Go.trans0 (S1 := (173, [none, none], [.int r_165], (mw t_16, C))) ?_ ?_
          · replace h := h_165
            clear hh_165
            refine g_if_eq (tgt := 172) d_X12_count_165 (by decide) (fun c_165 => ?_) (fun c_165 => ?_)
            · replace h := opos c_165 h
              refine g_iconst (v := 0) d_X12_count_172 (by decide) ?_
              obtain rfl := osome h
              exact g_drop [0, 1] rfl (g_end rfl)
            · replace h := oneg c_165 h
              refine g_iconst (v := 1) d_X12_count_168 (by decide) ?_
              refine g_goto (tgt := 173) d_X12_count_169 (by decide) ?_
              obtain rfl := osome h
              exact g_drop [0, 1] rfl (g_end rfl)
          replace h := hh_165
          obtain rfl := osome h
          exact g_retI d_X12_count_173 rfl rfl rfl
        replace h := oneg t_42_10 h
        refine g_tabOut (tgt := 174) d_X12_count_42 (by have q0 : a0.toInt ≠ 0 := sw_ne t_42_0; have q1 : a0.toInt ≠ 1 := sw_ne t_42_1; have q2 : a0.toInt ≠ 2 := sw_ne t_42_2; have q3 : a0.toInt ≠ 3 := sw_ne t_42_3; have q4 : a0.toInt ≠ 4 := sw_ne t_42_4; have q5 : a0.toInt ≠ 5 := sw_ne t_42_5; have q6 : a0.toInt ≠ 6 := sw_ne t_42_6; have q7 : a0.toInt ≠ 7 := sw_ne t_42_7; have q8 : a0.toInt ≠ 8 := sw_ne t_42_8; have q9 : a0.toInt ≠ 9 := sw_ne t_42_9; have q10 : a0.toInt ≠ 10 := sw_ne t_42_10; omega) (by decide) ?_
        refine g_aload_n d_X12_count_174 rfl ?_
        refine g_getf d_X12_count_175 f_X12_91 (gm0 t_16 C) rfl ?_
        obtain rfl := osome h
        exact g_retI d_X12_count_178 rfl rfl rfl
      · replace h := opos c_36 h
        refine g_iconst (v := 0) d_X12_count_39 (by decide) ?_
        obtain rfl := osome h
        exact g_retI d_X12_count_40 rfl rfl rfl
def f_distance_L (N : Nat) : Nat → Int32 → Int32 → Int32 → Int32 → xT → Option (Int32 × xT)
  | 0, _, _, _, _, _ => none
  | n + 1, v1, v2, v4, v5, t =>
    if (f_size t) ≤ v5 then (Option.bind (if 0 ≤ v4 then (some (v4, t))
        else (Option.bind (f_fails t 3) fun r_186 =>
          some (r_186.1, r_186.2))) fun (r_181 : Int32 × xT) =>
      some (r_181.1, r_181.2))
    else (Option.bind (if v2 = (-1) then (Option.bind (f_isGoal t v5) fun r_111 =>
          if r_111 = 0 then (some (v4, t))
          else (Option.bind (f_pushesTo N t v5) fun r_132 =>
            if inB v1 64 = true then (Option.bind (if ((ra r_132 8) (Int32.toNatClampNeg v1)) < 0 then (some v4)
              else (if v4 < 0 then (if inB v1 64 = true then (some ((ra r_132 8) (Int32.toNatClampNeg v1))) else none)
                else (if inB v1 64 = true then (if v4 ≤ ((ra r_132 8) (Int32.toNatClampNeg v1)) then (some v4)
                  else (if inB v1 64 = true then (some ((ra r_132 8) (Int32.toNatClampNeg v1))) else none)) else none))) fun (r_141 : Int32) =>
            some (r_141, r_132)) else none))
        else (if v5 = v2 then (Option.bind (f_pushesTo N t v5) fun r_132 =>
            if inB v1 64 = true then (Option.bind (if ((ra r_132 8) (Int32.toNatClampNeg v1)) < 0 then (some v4)
              else (if v4 < 0 then (if inB v1 64 = true then (some ((ra r_132 8) (Int32.toNatClampNeg v1))) else none)
                else (if inB v1 64 = true then (if v4 ≤ ((ra r_132 8) (Int32.toNatClampNeg v1)) then (some v4)
                  else (if inB v1 64 = true then (some ((ra r_132 8) (Int32.toNatClampNeg v1))) else none)) else none))) fun (r_141 : Int32) =>
            some (r_141, r_132)) else none)
          else (some (v4, t)))) fun (r_105 : Int32 × xT) =>
      f_distance_L N n v1 v2 r_105.1 (v5 + 1) r_105.2)
theorem u_distance_94 (N n : Nat) (v1 : Int32) (v2 : Int32) (v4 : Int32) (v5 : Int32) (t : xT) : f_distance_L N (n + 1) v1 v2 v4 v5 t = (if (f_size t) ≤ v5 then (Option.bind (if 0 ≤ v4 then (some (v4, t))
        else (Option.bind (f_fails t 3) fun r_186 =>
          some (r_186.1, r_186.2))) fun (r_181 : Int32 × xT) =>
      some (r_181.1, r_181.2))
    else (Option.bind (if v2 = (-1) then (Option.bind (f_isGoal t v5) fun r_111 =>
          if r_111 = 0 then (some (v4, t))
          else (Option.bind (f_pushesTo N t v5) fun r_132 =>
            if inB v1 64 = true then (Option.bind (if ((ra r_132 8) (Int32.toNatClampNeg v1)) < 0 then (some v4)
              else (if v4 < 0 then (if inB v1 64 = true then (some ((ra r_132 8) (Int32.toNatClampNeg v1))) else none)
                else (if inB v1 64 = true then (if v4 ≤ ((ra r_132 8) (Int32.toNatClampNeg v1)) then (some v4)
                  else (if inB v1 64 = true then (some ((ra r_132 8) (Int32.toNatClampNeg v1))) else none)) else none))) fun (r_141 : Int32) =>
            some (r_141, r_132)) else none))
        else (if v5 = v2 then (Option.bind (f_pushesTo N t v5) fun r_132 =>
            if inB v1 64 = true then (Option.bind (if ((ra r_132 8) (Int32.toNatClampNeg v1)) < 0 then (some v4)
              else (if v4 < 0 then (if inB v1 64 = true then (some ((ra r_132 8) (Int32.toNatClampNeg v1))) else none)
                else (if inB v1 64 = true then (if v4 ≤ ((ra r_132 8) (Int32.toNatClampNeg v1)) then (some v4)
                  else (if inB v1 64 = true then (some ((ra r_132 8) (Int32.toNatClampNeg v1))) else none)) else none))) fun (r_141 : Int32) =>
            some (r_141, r_132)) else none)
          else (some (v4, t)))) fun (r_105 : Int32 × xT) =>
      f_distance_L N n v1 v2 r_105.1 (v5 + 1) r_105.2)) := rfl
def f_distance (N : Nat) (t : xT) (a0 : Int32) (a1 : Int32) : Option (Int32 × xT) :=
  Option.bind (f_in a0 0 ((f_size t) - 1)) fun r_8 =>
  Option.bind (if r_8 = 0 then (some (0 : Int32))
    else (Option.bind (f_isOpen t a0) fun r_16 =>
      if r_16 = 0 then (some (0 : Int32))
      else (if a1 = (-1) then (some (1 : Int32))
        else (Option.bind (f_in a1 0 ((f_size t) - 1)) fun r_35 =>
          if r_35 = 0 then (some (0 : Int32))
          else (Option.bind (f_isGoal t a1) fun r_43 =>
            if r_43 = 0 then (some (0 : Int32))
            else (some (1 : Int32))))))) fun (r_11 : Int32) =>
  Option.bind (f_hasRoom t) fun r_57 =>
  Option.bind (if r_57 = 0 then (some (1 : Int32))
    else (if r_11 = 0 then (some (2 : Int32))
      else (some (0 : Int32)))) fun (r_60 : Int32) =>
  Option.bind (some (ws t 9 r_60)) fun t_76 =>
  if (rs t_76 9) ≤ 0 then (f_distance_L N N a0 a1 (-1) 0 t_76)
  else (some ((0 : Int32), t_76))
theorem d_X12_distance_0 : decode (mB M_X12_distance) 0 = .ok (.iload_n 1, 1) := by decide +kernel
theorem d_X12_distance_1 : decode (mB M_X12_distance) 1 = .ok (.iconst 0, 1) := by decide +kernel
theorem d_X12_distance_2 : decode (mB M_X12_distance) 2 = .ok (.aload_n 0, 1) := by decide +kernel
theorem d_X12_distance_3 : decode (mB M_X12_distance) 3 = .ok (.invokevirtual 130, 3) := by decide +kernel
theorem d_X12_distance_6 : decode (mB M_X12_distance) 6 = .ok (.iconst 1, 1) := by decide +kernel
theorem d_X12_distance_7 : decode (mB M_X12_distance) 7 = .ok (.isub, 1) := by decide +kernel
theorem d_X12_distance_8 : decode (mB M_X12_distance) 8 = .ok (.invokestatic 76, 3) := by decide +kernel
theorem d_X12_distance_11 : decode (mB M_X12_distance) 11 = .ok (.ifCond .eq 42, 3) := by decide +kernel
theorem d_X12_distance_14 : decode (mB M_X12_distance) 14 = .ok (.aload_n 0, 1) := by decide +kernel
theorem d_X12_distance_15 : decode (mB M_X12_distance) 15 = .ok (.iload_n 1, 1) := by decide +kernel
theorem d_X12_distance_16 : decode (mB M_X12_distance) 16 = .ok (.invokevirtual 121, 3) := by decide +kernel
theorem d_X12_distance_19 : decode (mB M_X12_distance) 19 = .ok (.ifCond .eq 34, 3) := by decide +kernel
theorem d_X12_distance_22 : decode (mB M_X12_distance) 22 = .ok (.iload_n 2, 1) := by decide +kernel
theorem d_X12_distance_23 : decode (mB M_X12_distance) 23 = .ok (.iconst (-1), 1) := by decide +kernel
theorem d_X12_distance_24 : decode (mB M_X12_distance) 24 = .ok (.if_icmp .eq 25, 3) := by decide +kernel
theorem d_X12_distance_27 : decode (mB M_X12_distance) 27 = .ok (.iload_n 2, 1) := by decide +kernel
theorem d_X12_distance_28 : decode (mB M_X12_distance) 28 = .ok (.iconst 0, 1) := by decide +kernel
theorem d_X12_distance_29 : decode (mB M_X12_distance) 29 = .ok (.aload_n 0, 1) := by decide +kernel
theorem d_X12_distance_30 : decode (mB M_X12_distance) 30 = .ok (.invokevirtual 130, 3) := by decide +kernel
theorem d_X12_distance_33 : decode (mB M_X12_distance) 33 = .ok (.iconst 1, 1) := by decide +kernel
theorem d_X12_distance_34 : decode (mB M_X12_distance) 34 = .ok (.isub, 1) := by decide +kernel
theorem d_X12_distance_35 : decode (mB M_X12_distance) 35 = .ok (.invokestatic 76, 3) := by decide +kernel
theorem d_X12_distance_38 : decode (mB M_X12_distance) 38 = .ok (.ifCond .eq 15, 3) := by decide +kernel
theorem d_X12_distance_41 : decode (mB M_X12_distance) 41 = .ok (.aload_n 0, 1) := by decide +kernel
theorem d_X12_distance_42 : decode (mB M_X12_distance) 42 = .ok (.iload_n 2, 1) := by decide +kernel
theorem d_X12_distance_43 : decode (mB M_X12_distance) 43 = .ok (.invokevirtual 127, 3) := by decide +kernel
theorem d_X12_distance_46 : decode (mB M_X12_distance) 46 = .ok (.ifCond .eq 7, 3) := by decide +kernel
theorem d_X12_distance_49 : decode (mB M_X12_distance) 49 = .ok (.iconst 1, 1) := by decide +kernel
theorem d_X12_distance_50 : decode (mB M_X12_distance) 50 = .ok (.goto 4, 3) := by decide +kernel
theorem d_X12_distance_53 : decode (mB M_X12_distance) 53 = .ok (.iconst 0, 1) := by decide +kernel
theorem d_X12_distance_54 : decode (mB M_X12_distance) 54 = .ok (.istore_n 3, 1) := by decide +kernel
theorem d_X12_distance_55 : decode (mB M_X12_distance) 55 = .ok (.aload_n 0, 1) := by decide +kernel
theorem d_X12_distance_56 : decode (mB M_X12_distance) 56 = .ok (.aload_n 0, 1) := by decide +kernel
theorem d_X12_distance_57 : decode (mB M_X12_distance) 57 = .ok (.invokevirtual 83, 3) := by decide +kernel
theorem d_X12_distance_60 : decode (mB M_X12_distance) 60 = .ok (.ifCond .eq 15, 3) := by decide +kernel
theorem d_X12_distance_63 : decode (mB M_X12_distance) 63 = .ok (.iload_n 3, 1) := by decide +kernel
theorem d_X12_distance_64 : decode (mB M_X12_distance) 64 = .ok (.ifCond .eq 7, 3) := by decide +kernel
theorem d_X12_distance_67 : decode (mB M_X12_distance) 67 = .ok (.iconst 0, 1) := by decide +kernel
theorem d_X12_distance_68 : decode (mB M_X12_distance) 68 = .ok (.goto 8, 3) := by decide +kernel
theorem d_X12_distance_71 : decode (mB M_X12_distance) 71 = .ok (.iconst 2, 1) := by decide +kernel
theorem d_X12_distance_72 : decode (mB M_X12_distance) 72 = .ok (.goto 4, 3) := by decide +kernel
theorem d_X12_distance_75 : decode (mB M_X12_distance) 75 = .ok (.iconst 1, 1) := by decide +kernel
theorem d_X12_distance_76 : decode (mB M_X12_distance) 76 = .ok (.putfield 73, 3) := by decide +kernel
theorem d_X12_distance_79 : decode (mB M_X12_distance) 79 = .ok (.aload_n 0, 1) := by decide +kernel
theorem d_X12_distance_80 : decode (mB M_X12_distance) 80 = .ok (.getfield 73, 3) := by decide +kernel
theorem d_X12_distance_83 : decode (mB M_X12_distance) 83 = .ok (.ifCond .le 5, 3) := by decide +kernel
theorem d_X12_distance_86 : decode (mB M_X12_distance) 86 = .ok (.iconst 0, 1) := by decide +kernel
theorem d_X12_distance_87 : decode (mB M_X12_distance) 87 = .ok (.ireturn, 1) := by decide +kernel
theorem d_X12_distance_88 : decode (mB M_X12_distance) 88 = .ok (.iconst (-1), 1) := by decide +kernel
theorem d_X12_distance_89 : decode (mB M_X12_distance) 89 = .ok (.istore 4, 2) := by decide +kernel
theorem d_X12_distance_91 : decode (mB M_X12_distance) 91 = .ok (.iconst 0, 1) := by decide +kernel
theorem d_X12_distance_92 : decode (mB M_X12_distance) 92 = .ok (.istore 5, 2) := by decide +kernel
theorem d_X12_distance_94 : decode (mB M_X12_distance) 94 = .ok (.iload 5, 2) := by decide +kernel
theorem d_X12_distance_96 : decode (mB M_X12_distance) 96 = .ok (.aload_n 0, 1) := by decide +kernel
theorem d_X12_distance_97 : decode (mB M_X12_distance) 97 = .ok (.invokevirtual 130, 3) := by decide +kernel
theorem d_X12_distance_100 : decode (mB M_X12_distance) 100 = .ok (.if_icmp .ge 79, 3) := by decide +kernel
theorem d_X12_distance_103 : decode (mB M_X12_distance) 103 = .ok (.iload_n 2, 1) := by decide +kernel
theorem d_X12_distance_104 : decode (mB M_X12_distance) 104 = .ok (.iconst (-1), 1) := by decide +kernel
theorem d_X12_distance_105 : decode (mB M_X12_distance) 105 = .ok (.if_icmp .ne 15, 3) := by decide +kernel
theorem d_X12_distance_108 : decode (mB M_X12_distance) 108 = .ok (.aload_n 0, 1) := by decide +kernel
theorem d_X12_distance_109 : decode (mB M_X12_distance) 109 = .ok (.iload 5, 2) := by decide +kernel
theorem d_X12_distance_111 : decode (mB M_X12_distance) 111 = .ok (.invokevirtual 127, 3) := by decide +kernel
theorem d_X12_distance_114 : decode (mB M_X12_distance) 114 = .ok (.ifCond .ne 15, 3) := by decide +kernel
theorem d_X12_distance_117 : decode (mB M_X12_distance) 117 = .ok (.goto 56, 3) := by decide +kernel
theorem d_X12_distance_120 : decode (mB M_X12_distance) 120 = .ok (.iload 5, 2) := by decide +kernel
theorem d_X12_distance_122 : decode (mB M_X12_distance) 122 = .ok (.iload_n 2, 1) := by decide +kernel
theorem d_X12_distance_123 : decode (mB M_X12_distance) 123 = .ok (.if_icmp .eq 6, 3) := by decide +kernel
theorem d_X12_distance_126 : decode (mB M_X12_distance) 126 = .ok (.goto 47, 3) := by decide +kernel
theorem d_X12_distance_129 : decode (mB M_X12_distance) 129 = .ok (.aload_n 0, 1) := by decide +kernel
theorem d_X12_distance_130 : decode (mB M_X12_distance) 130 = .ok (.iload 5, 2) := by decide +kernel
theorem d_X12_distance_132 : decode (mB M_X12_distance) 132 = .ok (.invokevirtual 143, 3) := by decide +kernel
theorem d_X12_distance_135 : decode (mB M_X12_distance) 135 = .ok (.aload_n 0, 1) := by decide +kernel
theorem d_X12_distance_136 : decode (mB M_X12_distance) 136 = .ok (.getfield 35, 3) := by decide +kernel
theorem d_X12_distance_139 : decode (mB M_X12_distance) 139 = .ok (.iload_n 1, 1) := by decide +kernel
theorem d_X12_distance_140 : decode (mB M_X12_distance) 140 = .ok (.iaload, 1) := by decide +kernel
theorem d_X12_distance_141 : decode (mB M_X12_distance) 141 = .ok (.ifCond .lt 28, 3) := by decide +kernel
theorem d_X12_distance_144 : decode (mB M_X12_distance) 144 = .ok (.iload 4, 2) := by decide +kernel
theorem d_X12_distance_146 : decode (mB M_X12_distance) 146 = .ok (.ifCond .lt 14, 3) := by decide +kernel
theorem d_X12_distance_149 : decode (mB M_X12_distance) 149 = .ok (.aload_n 0, 1) := by decide +kernel
theorem d_X12_distance_150 : decode (mB M_X12_distance) 150 = .ok (.getfield 35, 3) := by decide +kernel
theorem d_X12_distance_153 : decode (mB M_X12_distance) 153 = .ok (.iload_n 1, 1) := by decide +kernel
theorem d_X12_distance_154 : decode (mB M_X12_distance) 154 = .ok (.iaload, 1) := by decide +kernel
theorem d_X12_distance_155 : decode (mB M_X12_distance) 155 = .ok (.iload 4, 2) := by decide +kernel
theorem d_X12_distance_157 : decode (mB M_X12_distance) 157 = .ok (.if_icmp .ge 12, 3) := by decide +kernel
theorem d_X12_distance_160 : decode (mB M_X12_distance) 160 = .ok (.aload_n 0, 1) := by decide +kernel
theorem d_X12_distance_161 : decode (mB M_X12_distance) 161 = .ok (.getfield 35, 3) := by decide +kernel
theorem d_X12_distance_164 : decode (mB M_X12_distance) 164 = .ok (.iload_n 1, 1) := by decide +kernel
theorem d_X12_distance_165 : decode (mB M_X12_distance) 165 = .ok (.iaload, 1) := by decide +kernel
theorem d_X12_distance_166 : decode (mB M_X12_distance) 166 = .ok (.goto 5, 3) := by decide +kernel
theorem d_X12_distance_169 : decode (mB M_X12_distance) 169 = .ok (.iload 4, 2) := by decide +kernel
theorem d_X12_distance_171 : decode (mB M_X12_distance) 171 = .ok (.istore 4, 2) := by decide +kernel
theorem d_X12_distance_173 : decode (mB M_X12_distance) 173 = .ok (.iinc 5 1, 3) := by decide +kernel
theorem d_X12_distance_176 : decode (mB M_X12_distance) 176 = .ok (.goto (-82), 3) := by decide +kernel
theorem d_X12_distance_179 : decode (mB M_X12_distance) 179 = .ok (.iload 4, 2) := by decide +kernel
theorem d_X12_distance_181 : decode (mB M_X12_distance) 181 = .ok (.ifCond .ge 11, 3) := by decide +kernel
theorem d_X12_distance_184 : decode (mB M_X12_distance) 184 = .ok (.aload_n 0, 1) := by decide +kernel
theorem d_X12_distance_185 : decode (mB M_X12_distance) 185 = .ok (.iconst 3, 1) := by decide +kernel
theorem d_X12_distance_186 : decode (mB M_X12_distance) 186 = .ok (.invokevirtual 114, 3) := by decide +kernel
theorem d_X12_distance_189 : decode (mB M_X12_distance) 189 = .ok (.goto 5, 3) := by decide +kernel
theorem d_X12_distance_192 : decode (mB M_X12_distance) 192 = .ok (.iload 4, 2) := by decide +kernel
theorem d_X12_distance_194 : decode (mB M_X12_distance) 194 = .ok (.ireturn, 1) := by decide +kernel
theorem l_m_distance {E : mEnv} (hE : E.1.stackTraces = false) (C : List mE) (N : Nat) : ∀ n : Nat, (∀ (v1 : Int32) (v2 : Int32) (v4 : Int32) (v5 : Int32) (t : xT) (r : Int32 × xT), f_distance_L N n v1 v2 v4 v5 t = some r → Go E M_X12_distance 0 (94, [some (.ref 0), some (.int v1), some (.int v2), none, some (.int v4), some (.int v5)], [], (mw t, C)) (.inr (.inl (some (.int r.1), (mw r.2, C))))) := by
  intro n
  induction n with
  | zero => exact fun v1 v2 v4 v5 t r h => by cases h
  | succ n ih =>
    intro v1 v2 v4 v5 t r h
    rw [u_distance_94] at h
    refine g_iload d_X12_distance_94 rfl ?_
    refine g_aload_n d_X12_distance_96 rfl ?_
    refine g_callV (As := []) d_X12_distance_97 o_X12_size l_X12_130 ⟨Nat.le_of_ble_eq_true rfl, Nat.le_of_ble_eq_true rfl⟩ (c_m_size hE C t) (gm0 t C) rfl rfl rfl rfl rfl ?_ (Nat.zero_add _)
    refine g_icmp_ge (tgt := 179) d_X12_distance_100 (by decide) (fun c_100 => ?_) (fun c_100 => ?_)
    · replace h := opos c_100 h
      refine g_iload d_X12_distance_179 rfl ?_
      obtain ⟨r_181, h_181, hh_181⟩ := obind h
      refine Go.trans0 (S1 := (194, [none, none, none, none, none, none], [.int r_181.1], (mw r_181.2, C))) ?_ ?_
      · replace h := h_181
        clear hh_181
        refine g_if_ge (tgt := 192) d_X12_distance_181 (by decide) (fun c_181 => ?_) (fun c_181 => ?_)
        · replace h := opos c_181 h
          refine g_iload d_X12_distance_192 rfl ?_
          obtain rfl := osome h
          exact g_drop [0, 1, 2, 4, 5] rfl (g_end rfl)
        · replace h := oneg c_181 h
          refine g_aload_n d_X12_distance_184 rfl ?_
          refine g_iconst (v := 3) d_X12_distance_185 (by decide) ?_
          obtain ⟨r_186, h_186, h⟩ := obind h
          refine g_callV (As := [.int 3]) d_X12_distance_186 o_X12_fails l_X12_114 ⟨Nat.le_of_ble_eq_true rfl, Nat.le_of_ble_eq_true rfl⟩ (c_m_fails hE C t 3 _ h_186) (gm0 t C) rfl rfl rfl rfl rfl ?_ (Nat.zero_add _)
          refine g_goto (tgt := 194) d_X12_distance_189 (by decide) ?_
          obtain rfl := osome h
          exact g_drop [0, 1, 2, 4, 5] rfl (g_end rfl)
      replace h := hh_181
      obtain rfl := osome h
      exact g_retI d_X12_distance_194 rfl rfl rfl
    · replace h := oneg c_100 h
      refine g_iload_n d_X12_distance_103 rfl ?_
      refine g_iconst (v := (-1)) d_X12_distance_104 (by decide) ?_
      obtain ⟨r_105, h_105, hh_105⟩ := obind h
      refine Go.trans0 (S1 := (173, [some (.ref 0), some (.int v1), some (.int v2), none, some (.int r_105.1), some (.int v5)], [], (mw r_105.2, C))) ?_ ?_
      · replace h := h_105
        clear hh_105
        refine g_icmp_ne (tgt := 120) d_X12_distance_105 (by decide) (fun c_105 => ?_) (fun c_105 => ?_)
        · replace h := oneg c_105 h
          refine g_iload d_X12_distance_120 rfl ?_
          refine g_iload_n d_X12_distance_122 rfl ?_
          refine g_icmp_eq (tgt := 129) d_X12_distance_123 (by decide) (fun c_123 => ?_) (fun c_123 => ?_)
          · replace h := opos c_123 h
            refine g_aload_n d_X12_distance_129 rfl ?_
            refine g_iload d_X12_distance_130 rfl ?_
            obtain ⟨r_132, h_132, h⟩ := obind h
            refine g_callV (As := [.int v5]) d_X12_distance_132 o_X12_pushesTo l_X12_143 ⟨Nat.le_of_ble_eq_true rfl, Nat.le_of_ble_eq_true rfl⟩ (c_m_pushesTo hE C N t v5 _ h_132) (gm0 t C) rfl rfl rfl rfl rfl ?_ (Nat.zero_add _)
            refine g_aload_n d_X12_distance_135 rfl ?_
            refine g_getf d_X12_distance_136 f_X12_35 (gm0 r_132 C) rfl ?_
            refine g_iload_n d_X12_distance_139 rfl ?_
            obtain ⟨i_140, h⟩ := ochk h
            refine g_iald d_X12_distance_140 (gm_8 r_132 C) (inB_in i_140) ?_
            obtain ⟨r_141, h_141, hh_141⟩ := obind h
            refine Go.trans0 (S1 := (171, [some (.ref 0), some (.int v1), some (.int v2), none, none, some (.int v5)], [.int r_141], (mw r_132, C))) ?_ ?_
            · replace h := h_141
              clear hh_141
              refine g_if_lt (tgt := 169) d_X12_distance_141 (by decide) (fun c_141 => ?_) (fun c_141 => ?_)
              · replace h := opos c_141 h
                refine g_iload d_X12_distance_169 rfl ?_
                obtain rfl := osome h
                exact g_drop [4] rfl (g_end rfl)
              · replace h := oneg c_141 h
                refine g_iload d_X12_distance_144 rfl ?_
                refine g_if_lt (tgt := 160) d_X12_distance_146 (by decide) (fun c_146 => ?_) (fun c_146 => ?_)
                · replace h := opos c_146 h
                  refine g_aload_n d_X12_distance_160 rfl ?_
                  refine g_getf d_X12_distance_161 f_X12_35 (gm0 r_132 C) rfl ?_
                  refine g_iload_n d_X12_distance_164 rfl ?_
                  obtain ⟨i_165, h⟩ := ochk h
                  refine g_iald d_X12_distance_165 (gm_8 r_132 C) (inB_in i_165) ?_
                  refine g_goto (tgt := 171) d_X12_distance_166 (by decide) ?_
                  obtain rfl := osome h
                  exact g_drop [4] rfl (g_end rfl)
                · replace h := oneg c_146 h
                  refine g_aload_n d_X12_distance_149 rfl ?_
                  refine g_getf d_X12_distance_150 f_X12_35 (gm0 r_132 C) rfl ?_
                  refine g_iload_n d_X12_distance_153 rfl ?_
                  obtain ⟨i_154, h⟩ := ochk h
                  refine g_iald d_X12_distance_154 (gm_8 r_132 C) (inB_in i_154) ?_
                  refine g_iload d_X12_distance_155 rfl ?_
                  refine g_icmp_ge (tgt := 169) d_X12_distance_157 (by decide) (fun c_157 => ?_) (fun c_157 => ?_)
                  · replace h := opos c_157 h
                    refine g_iload d_X12_distance_169 rfl ?_
                    obtain rfl := osome h
                    exact g_drop [4] rfl (g_end rfl)
                  · replace h := oneg c_157 h
                    refine g_aload_n d_X12_distance_160 rfl ?_
                    refine g_getf d_X12_distance_161 f_X12_35 (gm0 r_132 C) rfl ?_
                    refine g_iload_n d_X12_distance_164 rfl ?_
                    obtain ⟨i_165, h⟩ := ochk h
                    refine g_iald d_X12_distance_165 (gm_8 r_132 C) (inB_in i_165) ?_
                    refine g_goto (tgt := 171) d_X12_distance_166 (by decide) ?_
                    obtain rfl := osome h
                    exact g_drop [4] rfl (g_end rfl)
            replace h := hh_141
            refine g_istore (L' := [some (.ref 0), some (.int v1), some (.int v2), none, some (.int r_141), some (.int v5)]) d_X12_distance_171 rfl rfl ?_
            obtain rfl := osome h
            exact g_end rfl
          · replace h := oneg c_123 h
            refine g_goto (tgt := 173) d_X12_distance_126 (by decide) ?_
            obtain rfl := osome h
            exact g_end rfl
        · replace h := opos c_105 h
          refine g_aload_n d_X12_distance_108 rfl ?_
          refine g_iload d_X12_distance_109 rfl ?_
          obtain ⟨r_111, h_111, h⟩ := obind h
          refine g_callV (As := [.int v5]) d_X12_distance_111 o_X12_isGoal l_X12_127 ⟨Nat.le_of_ble_eq_true rfl, Nat.le_of_ble_eq_true rfl⟩ (c_m_isGoal hE C t v5 _ h_111) (gm0 t C) rfl rfl rfl rfl rfl ?_ (Nat.zero_add _)
          refine g_if_ne (tgt := 129) d_X12_distance_114 (by decide) (fun c_114 => ?_) (fun c_114 => ?_)
          · replace h := oneg c_114 h
            refine g_aload_n d_X12_distance_129 rfl ?_
            refine g_iload d_X12_distance_130 rfl ?_
            obtain ⟨r_132, h_132, h⟩ := obind h
            refine g_callV (As := [.int v5]) d_X12_distance_132 o_X12_pushesTo l_X12_143 ⟨Nat.le_of_ble_eq_true rfl, Nat.le_of_ble_eq_true rfl⟩ (c_m_pushesTo hE C N t v5 _ h_132) (gm0 t C) rfl rfl rfl rfl rfl ?_ (Nat.zero_add _)
            refine g_aload_n d_X12_distance_135 rfl ?_
            refine g_getf d_X12_distance_136 f_X12_35 (gm0 r_132 C) rfl ?_
            refine g_iload_n d_X12_distance_139 rfl ?_
            obtain ⟨i_140, h⟩ := ochk h
            refine g_iald d_X12_distance_140 (gm_8 r_132 C) (inB_in i_140) ?_
            obtain ⟨r_141, h_141, hh_141⟩ := obind h
            refine Go.trans0 (S1 := (171, [some (.ref 0), some (.int v1), some (.int v2), none, none, some (.int v5)], [.int r_141], (mw r_132, C))) ?_ ?_
            · replace h := h_141
              clear hh_141
              refine g_if_lt (tgt := 169) d_X12_distance_141 (by decide) (fun c_141 => ?_) (fun c_141 => ?_)
              · replace h := opos c_141 h
                refine g_iload d_X12_distance_169 rfl ?_
                obtain rfl := osome h
                exact g_drop [4] rfl (g_end rfl)
              · replace h := oneg c_141 h
                refine g_iload d_X12_distance_144 rfl ?_
                refine g_if_lt (tgt := 160) d_X12_distance_146 (by decide) (fun c_146 => ?_) (fun c_146 => ?_)
                · replace h := opos c_146 h
                  refine g_aload_n d_X12_distance_160 rfl ?_
                  refine g_getf d_X12_distance_161 f_X12_35 (gm0 r_132 C) rfl ?_
                  refine g_iload_n d_X12_distance_164 rfl ?_
                  obtain ⟨i_165, h⟩ := ochk h
                  refine g_iald d_X12_distance_165 (gm_8 r_132 C) (inB_in i_165) ?_
                  refine g_goto (tgt := 171) d_X12_distance_166 (by decide) ?_
                  obtain rfl := osome h
                  exact g_drop [4] rfl (g_end rfl)
                · replace h := oneg c_146 h
                  refine g_aload_n d_X12_distance_149 rfl ?_
                  refine g_getf d_X12_distance_150 f_X12_35 (gm0 r_132 C) rfl ?_
                  refine g_iload_n d_X12_distance_153 rfl ?_
                  obtain ⟨i_154, h⟩ := ochk h
                  refine g_iald d_X12_distance_154 (gm_8 r_132 C) (inB_in i_154) ?_
                  refine g_iload d_X12_distance_155 rfl ?_
                  refine g_icmp_ge (tgt := 169) d_X12_distance_157 (by decide) (fun c_157 => ?_) (fun c_157 => ?_)
                  · replace h := opos c_157 h
                    refine g_iload d_X12_distance_169 rfl ?_
                    obtain rfl := osome h
                    exact g_drop [4] rfl (g_end rfl)
                  · replace h := oneg c_157 h
                    refine g_aload_n d_X12_distance_160 rfl ?_
                    refine g_getf d_X12_distance_161 f_X12_35 (gm0 r_132 C) rfl ?_
                    refine g_iload_n d_X12_distance_164 rfl ?_
                    obtain ⟨i_165, h⟩ := ochk h
                    refine g_iald d_X12_distance_165 (gm_8 r_132 C) (inB_in i_165) ?_
                    refine g_goto (tgt := 171) d_X12_distance_166 (by decide) ?_
                    obtain rfl := osome h
                    exact g_drop [4] rfl (g_end rfl)
            replace h := hh_141
            refine g_istore (L' := [some (.ref 0), some (.int v1), some (.int v2), none, some (.int r_141), some (.int v5)]) d_X12_distance_171 rfl rfl ?_
            obtain rfl := osome h
            exact g_end rfl
          · replace h := opos c_114 h
            refine g_goto (tgt := 173) d_X12_distance_117 (by decide) ?_
            obtain rfl := osome h
            exact g_end rfl
      replace h := hh_105
      refine g_iinc (v := (v5 + 1)) (L' := [some (.ref 0), some (.int v1), some (.int v2), none, some (.int r_105.1), some (.int (v5 + 1))]) d_X12_distance_173 rfl rfl rfl ?_
      refine g_goto (tgt := 94) d_X12_distance_176 (by decide) ?_
      exact (ih) v1 v2 r_105.1 (v5 + 1) r_105.2 _ h
theorem c_m_distance {E : mEnv} (hE : E.1.stackTraces = false) (C : List mE) (N : Nat) (t : xT) (a0 : Int32) (a1 : Int32) (r : Int32 × xT) (h : f_distance N t a0 a1 = some r) : Rt E M_X12_distance 0 [.ref 0, .int a0, .int a1] (mw t, C) (some (.int r.1)) (mw r.2, C) := by
  unfold f_distance at h
  refine Rt.of hE rfl pn_X12 (Nat.le_of_ble_eq_true rfl) ?_
  refine g_eq (S' := (0, [some (.ref 0), some (.int a0), some (.int a1), none, none, none], [], (mw t, C))) rfl ?_
  refine g_iload_n d_X12_distance_0 rfl ?_
  refine g_iconst (v := 0) d_X12_distance_1 (by decide) ?_
  refine g_aload_n d_X12_distance_2 rfl ?_
  refine g_callV (As := []) d_X12_distance_3 o_X12_size l_X12_130 ⟨Nat.le_of_ble_eq_true rfl, Nat.le_of_ble_eq_true rfl⟩ (c_m_size hE C t) (gm0 t C) rfl rfl rfl rfl rfl ?_ (Nat.zero_add _)
  refine g_iconst (v := 1) d_X12_distance_6 (by decide) ?_
  refine g_isub d_X12_distance_7 ?_
  obtain ⟨r_8, h_8, h⟩ := obind h
  refine g_callS (As := [.int a0, .int 0, .int ((f_size t) - 1)]) d_X12_distance_8 o_X12_in l_X12_76 ⟨Nat.le_of_ble_eq_true rfl, Nat.le_of_ble_eq_true rfl⟩ (c_m_in hE C t a0 0 ((f_size t) - 1) _ h_8) rfl rfl ?_ (Nat.zero_add _)
  obtain ⟨r_11, h_11, hh_11⟩ := obind h
  refine Go.trans0 (S1 := (54, [some (.ref 0), some (.int a0), some (.int a1), none, none, none], [.int r_11], (mw t, C))) ?_ ?_
  · replace h := h_11
    clear hh_11
    refine g_if_eq (tgt := 53) d_X12_distance_11 (by decide) (fun c_11 => ?_) (fun c_11 => ?_)
    · replace h := opos c_11 h
      refine g_iconst (v := 0) d_X12_distance_53 (by decide) ?_
      obtain rfl := osome h
      exact g_end rfl
    · replace h := oneg c_11 h
      refine g_aload_n d_X12_distance_14 rfl ?_
      refine g_iload_n d_X12_distance_15 rfl ?_
      obtain ⟨r_16, h_16, h⟩ := obind h
      refine g_callV (As := [.int a0]) d_X12_distance_16 o_X12_isOpen l_X12_121 ⟨Nat.le_of_ble_eq_true rfl, Nat.le_of_ble_eq_true rfl⟩ (c_m_isOpen hE C t a0 _ h_16) (gm0 t C) rfl rfl rfl rfl rfl ?_ (Nat.zero_add _)
      refine g_if_eq (tgt := 53) d_X12_distance_19 (by decide) (fun c_19 => ?_) (fun c_19 => ?_)
      · replace h := opos c_19 h
        refine g_iconst (v := 0) d_X12_distance_53 (by decide) ?_
        obtain rfl := osome h
        exact g_end rfl
      · replace h := oneg c_19 h
        refine g_iload_n d_X12_distance_22 rfl ?_
        refine g_iconst (v := (-1)) d_X12_distance_23 (by decide) ?_
        refine g_icmp_eq (tgt := 49) d_X12_distance_24 (by decide) (fun c_24 => ?_) (fun c_24 => ?_)
        · replace h := opos c_24 h
          refine g_iconst (v := 1) d_X12_distance_49 (by decide) ?_
          refine g_goto (tgt := 54) d_X12_distance_50 (by decide) ?_
          obtain rfl := osome h
          exact g_end rfl
        · replace h := oneg c_24 h
          refine g_iload_n d_X12_distance_27 rfl ?_
          refine g_iconst (v := 0) d_X12_distance_28 (by decide) ?_
          refine g_aload_n d_X12_distance_29 rfl ?_
          refine g_callV (As := []) d_X12_distance_30 o_X12_size l_X12_130 ⟨Nat.le_of_ble_eq_true rfl, Nat.le_of_ble_eq_true rfl⟩ (c_m_size hE C t) (gm0 t C) rfl rfl rfl rfl rfl ?_ (Nat.zero_add _)
          refine g_iconst (v := 1) d_X12_distance_33 (by decide) ?_
          refine g_isub d_X12_distance_34 ?_
          obtain ⟨r_35, h_35, h⟩ := obind h
          refine g_callS (As := [.int a1, .int 0, .int ((f_size t) - 1)]) d_X12_distance_35 o_X12_in l_X12_76 ⟨Nat.le_of_ble_eq_true rfl, Nat.le_of_ble_eq_true rfl⟩ (c_m_in hE C t a1 0 ((f_size t) - 1) _ h_35) rfl rfl ?_ (Nat.zero_add _)
          refine g_if_eq (tgt := 53) d_X12_distance_38 (by decide) (fun c_38 => ?_) (fun c_38 => ?_)
          · replace h := opos c_38 h
            refine g_iconst (v := 0) d_X12_distance_53 (by decide) ?_
            obtain rfl := osome h
            exact g_end rfl
          · replace h := oneg c_38 h
            refine g_aload_n d_X12_distance_41 rfl ?_
            refine g_iload_n d_X12_distance_42 rfl ?_
            obtain ⟨r_43, h_43, h⟩ := obind h
            refine g_callV (As := [.int a1]) d_X12_distance_43 o_X12_isGoal l_X12_127 ⟨Nat.le_of_ble_eq_true rfl, Nat.le_of_ble_eq_true rfl⟩ (c_m_isGoal hE C t a1 _ h_43) (gm0 t C) rfl rfl rfl rfl rfl ?_ (Nat.zero_add _)
            refine g_if_eq (tgt := 53) d_X12_distance_46 (by decide) (fun c_46 => ?_) (fun c_46 => ?_)
            · replace h := opos c_46 h
              refine g_iconst (v := 0) d_X12_distance_53 (by decide) ?_
              obtain rfl := osome h
              exact g_end rfl
            · replace h := oneg c_46 h
              refine g_iconst (v := 1) d_X12_distance_49 (by decide) ?_
              refine g_goto (tgt := 54) d_X12_distance_50 (by decide) ?_
              obtain rfl := osome h
              exact g_end rfl
  replace h := hh_11
  refine g_istore_n (L' := [some (.ref 0), some (.int a0), some (.int a1), some (.int r_11), none, none]) d_X12_distance_54 rfl rfl ?_
  refine g_aload_n d_X12_distance_55 rfl ?_
  refine g_aload_n d_X12_distance_56 rfl ?_
  obtain ⟨r_57, h_57, h⟩ := obind h
  refine g_callV (As := []) d_X12_distance_57 o_X12_hasRoom l_X12_83 ⟨Nat.le_of_ble_eq_true rfl, Nat.le_of_ble_eq_true rfl⟩ (c_m_hasRoom hE C t _ h_57) (gm0 t C) rfl rfl rfl rfl rfl ?_ (Nat.zero_add _)
  obtain ⟨r_60, h_60, hh_60⟩ := obind h
  refine Go.trans0 (S1 := (76, [some (.ref 0), some (.int a0), some (.int a1), none, none, none], [.int r_60, .ref 0], (mw t, C))) ?_ ?_
  · replace h := h_60
    clear hh_60
    refine g_if_eq (tgt := 75) d_X12_distance_60 (by decide) (fun c_60 => ?_) (fun c_60 => ?_)
    · replace h := opos c_60 h
      refine g_iconst (v := 1) d_X12_distance_75 (by decide) ?_
      obtain rfl := osome h
      exact g_drop [3] rfl (g_end rfl)
    · replace h := oneg c_60 h
      refine g_iload_n d_X12_distance_63 rfl ?_
      refine g_if_eq (tgt := 71) d_X12_distance_64 (by decide) (fun c_64 => ?_) (fun c_64 => ?_)
      · replace h := opos c_64 h
        refine g_iconst (v := 2) d_X12_distance_71 (by decide) ?_
        refine g_goto (tgt := 76) d_X12_distance_72 (by decide) ?_
        obtain rfl := osome h
        exact g_drop [3] rfl (g_end rfl)
      · replace h := oneg c_64 h
        refine g_iconst (v := 0) d_X12_distance_67 (by decide) ?_
        refine g_goto (tgt := 76) d_X12_distance_68 (by decide) ?_
        obtain rfl := osome h
        exact g_drop [3] rfl (g_end rfl)
  replace h := hh_60
  obtain ⟨t_76, e_76, h⟩ := olet h
  refine g_putI (w' := (mw t_76, C)) d_X12_distance_76 p_X12_73 rfl rfl (gm0 t C) (Nat.le_of_ble_eq_true rfl) (by rw [e_76]; exact sc_9 t C _) ?_
  refine g_aload_n d_X12_distance_79 rfl ?_
  refine g_getf d_X12_distance_80 f_X12_73 (gm0 t_76 C) rfl ?_
  refine g_if_le (tgt := 88) d_X12_distance_83 (by decide) (fun c_83 => ?_) (fun c_83 => ?_)
  · replace h := opos c_83 h
    refine g_iconst (v := (-1)) d_X12_distance_88 (by decide) ?_
    refine g_istore (L' := [some (.ref 0), some (.int a0), some (.int a1), none, some (.int (-1)), none]) d_X12_distance_89 rfl rfl ?_
    refine g_iconst (v := 0) d_X12_distance_91 (by decide) ?_
    refine g_istore (L' := [some (.ref 0), some (.int a0), some (.int a1), none, some (.int (-1)), some (.int 0)]) d_X12_distance_92 rfl rfl ?_
    exact (l_m_distance hE C N N) a0 a1 (-1) 0 t_76 _ h
  · replace h := oneg c_83 h
    refine g_iconst (v := 0) d_X12_distance_86 (by decide) ?_
    obtain rfl := osome h
    exact g_retI d_X12_distance_87 rfl rfl rfl
