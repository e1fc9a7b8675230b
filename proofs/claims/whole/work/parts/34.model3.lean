/-! the model, further -/
def f_oneMore_L (N : Nat) : Nat → Nat → Int32 → Int32 → Int32 → xT → Option (xT)
  | 0, _, _, _, _, _ => none
  | n + 1, p, v2, v3, v4, t =>
    if p = 2 then (if v2 ≤ 0 then (some t)
      else (f_oneMore_L N n 11 v2 0 0 t))
    else if p = 11 then (if (f_size t) ≤ v4 then (f_oneMore_L N n 2 (v2 + (-1)) 0 0 t)
      else (Option.bind (f_isBox t v4) fun r_23 =>
        Option.bind (if r_23 = 0 then (some (v3, t))
          else (Option.bind (if (v2 &&& ((1 <<< (v3 &&& 31)) ^^^ (-1))) = v2 then (some (0 : Int32))
              else (if inB v4 64 = true then (if ((ra t 8) (Int32.toNatClampNeg v4)) < 0 then (some (0 : Int32))
                else (if inB (v2 &&& ((1 <<< (v3 &&& 31)) ^^^ (-1))) 32 = true then (if ((ra t 12) (Int32.toNatClampNeg (v2 &&& ((1 <<< (v3 &&& 31)) ^^^ (-1))))) < 0 then (some (0 : Int32))
                  else (some (1 : Int32))) else none)) else none)) fun (r_44 : Int32) =>
            Option.bind (if r_44 = 0 then (some t)
              else (if inB v2 32 = true then (if ((ra t 12) (Int32.toNatClampNeg v2)) < 0 then (if inB (v2 &&& ((1 <<< (v3 &&& 31)) ^^^ (-1))) 32 = true then (if inB v4 64 = true then (if inB v2 32 = true then (Option.bind (some (wa t 12 (upd (ra t 12) (Int32.toNatClampNeg v2) (((ra t 12) (Int32.toNatClampNeg (v2 &&& ((1 <<< (v3 &&& 31)) ^^^ (-1))))) + ((ra t 8) (Int32.toNatClampNeg v4)))))) fun t_132 =>
                  some t_132) else none) else none) else none)
                else (if inB (v2 &&& ((1 <<< (v3 &&& 31)) ^^^ (-1))) 32 = true then (if inB v4 64 = true then (if inB v2 32 = true then (if ((ra t 12) (Int32.toNatClampNeg v2)) ≤ (((ra t 12) (Int32.toNatClampNeg (v2 &&& ((1 <<< (v3 &&& 31)) ^^^ (-1))))) + ((ra t 8) (Int32.toNatClampNeg v4))) then (some t)
                  else (if inB (v2 &&& ((1 <<< (v3 &&& 31)) ^^^ (-1))) 32 = true then (if inB v4 64 = true then (if inB v2 32 = true then (Option.bind (some (wa t 12 (upd (ra t 12) (Int32.toNatClampNeg v2) (((ra t 12) (Int32.toNatClampNeg (v2 &&& ((1 <<< (v3 &&& 31)) ^^^ (-1))))) + ((ra t 8) (Int32.toNatClampNeg v4)))))) fun t_132 =>
                    some t_132) else none) else none) else none)) else none) else none) else none)) else none)) fun (r_76 : xT) =>
            some ((v3 + 1), r_76))) fun (r_26 : Int32 × xT) =>
        f_oneMore_L N n 11 v2 r_26.1 (v4 + 1) r_26.2))
    else none
theorem u_oneMore_2 (N n : Nat) (v2 : Int32) (t : xT) : f_oneMore_L N (n + 1) 2 v2 0 0 t = (if v2 ≤ 0 then (some t)
    else (f_oneMore_L N n 11 v2 0 0 t)) := rfl
theorem u_oneMore_11 (N n : Nat) (v2 : Int32) (v3 : Int32) (v4 : Int32) (t : xT) : f_oneMore_L N (n + 1) 11 v2 v3 v4 t = (if (f_size t) ≤ v4 then (f_oneMore_L N n 2 (v2 + (-1)) 0 0 t)
    else (Option.bind (f_isBox t v4) fun r_23 =>
      Option.bind (if r_23 = 0 then (some (v3, t))
        else (Option.bind (if (v2 &&& ((1 <<< (v3 &&& 31)) ^^^ (-1))) = v2 then (some (0 : Int32))
            else (if inB v4 64 = true then (if ((ra t 8) (Int32.toNatClampNeg v4)) < 0 then (some (0 : Int32))
              else (if inB (v2 &&& ((1 <<< (v3 &&& 31)) ^^^ (-1))) 32 = true then (if ((ra t 12) (Int32.toNatClampNeg (v2 &&& ((1 <<< (v3 &&& 31)) ^^^ (-1))))) < 0 then (some (0 : Int32))
                else (some (1 : Int32))) else none)) else none)) fun (r_44 : Int32) =>
          Option.bind (if r_44 = 0 then (some t)
            else (if inB v2 32 = true then (if ((ra t 12) (Int32.toNatClampNeg v2)) < 0 then (if inB (v2 &&& ((1 <<< (v3 &&& 31)) ^^^ (-1))) 32 = true then (if inB v4 64 = true then (if inB v2 32 = true then (Option.bind (some (wa t 12 (upd (ra t 12) (Int32.toNatClampNeg v2) (((ra t 12) (Int32.toNatClampNeg (v2 &&& ((1 <<< (v3 &&& 31)) ^^^ (-1))))) + ((ra t 8) (Int32.toNatClampNeg v4)))))) fun t_132 =>
                some t_132) else none) else none) else none)
              else (if inB (v2 &&& ((1 <<< (v3 &&& 31)) ^^^ (-1))) 32 = true then (if inB v4 64 = true then (if inB v2 32 = true then (if ((ra t 12) (Int32.toNatClampNeg v2)) ≤ (((ra t 12) (Int32.toNatClampNeg (v2 &&& ((1 <<< (v3 &&& 31)) ^^^ (-1))))) + ((ra t 8) (Int32.toNatClampNeg v4))) then (some t)
                else (if inB (v2 &&& ((1 <<< (v3 &&& 31)) ^^^ (-1))) 32 = true then (if inB v4 64 = true then (if inB v2 32 = true then (Option.bind (some (wa t 12 (upd (ra t 12) (Int32.toNatClampNeg v2) (((ra t 12) (Int32.toNatClampNeg (v2 &&& ((1 <<< (v3 &&& 31)) ^^^ (-1))))) + ((ra t 8) (Int32.toNatClampNeg v4)))))) fun t_132 =>
                  some t_132) else none) else none) else none)) else none) else none) else none)) else none)) fun (r_76 : xT) =>
          some ((v3 + 1), r_76))) fun (r_26 : Int32 × xT) =>
      f_oneMore_L N n 11 v2 r_26.1 (v4 + 1) r_26.2)) := rfl
def f_oneMore (N : Nat) (t : xT) (a0 : Int32) : Option (xT) :=
  f_oneMore_L N N 2 a0 0 0 t
theorem d_X12_oneMore_0 : decode (mB M_X12_oneMore) 0 = .ok (.iload_n 1, 1) := by decide +kernel
theorem d_X12_oneMore_1 : decode (mB M_X12_oneMore) 1 = .ok (.istore_n 2, 1) := by decide +kernel
theorem d_X12_oneMore_2 : decode (mB M_X12_oneMore) 2 = .ok (.iload_n 2, 1) := by decide +kernel
theorem d_X12_oneMore_3 : decode (mB M_X12_oneMore) 3 = .ok (.ifCond .le 145, 3) := by decide +kernel
theorem d_X12_oneMore_6 : decode (mB M_X12_oneMore) 6 = .ok (.iconst 0, 1) := by decide +kernel
theorem d_X12_oneMore_7 : decode (mB M_X12_oneMore) 7 = .ok (.istore_n 3, 1) := by decide +kernel
theorem d_X12_oneMore_8 : decode (mB M_X12_oneMore) 8 = .ok (.iconst 0, 1) := by decide +kernel
theorem d_X12_oneMore_9 : decode (mB M_X12_oneMore) 9 = .ok (.istore 4, 2) := by decide +kernel
theorem d_X12_oneMore_11 : decode (mB M_X12_oneMore) 11 = .ok (.iload 4, 2) := by decide +kernel
theorem d_X12_oneMore_13 : decode (mB M_X12_oneMore) 13 = .ok (.aload_n 0, 1) := by decide +kernel
theorem d_X12_oneMore_14 : decode (mB M_X12_oneMore) 14 = .ok (.invokevirtual 130, 3) := by decide +kernel
theorem d_X12_oneMore_17 : decode (mB M_X12_oneMore) 17 = .ok (.if_icmp .ge 125, 3) := by decide +kernel
theorem d_X12_oneMore_20 : decode (mB M_X12_oneMore) 20 = .ok (.aload_n 0, 1) := by decide +kernel
theorem d_X12_oneMore_21 : decode (mB M_X12_oneMore) 21 = .ok (.iload 4, 2) := by decide +kernel
theorem d_X12_oneMore_23 : decode (mB M_X12_oneMore) 23 = .ok (.invokevirtual 124, 3) := by decide +kernel
theorem d_X12_oneMore_26 : decode (mB M_X12_oneMore) 26 = .ok (.ifCond .ne 6, 3) := by decide +kernel
theorem d_X12_oneMore_29 : decode (mB M_X12_oneMore) 29 = .ok (.goto 107, 3) := by decide +kernel
theorem d_X12_oneMore_32 : decode (mB M_X12_oneMore) 32 = .ok (.iload_n 2, 1) := by decide +kernel
theorem d_X12_oneMore_33 : decode (mB M_X12_oneMore) 33 = .ok (.iconst 1, 1) := by decide +kernel
theorem d_X12_oneMore_34 : decode (mB M_X12_oneMore) 34 = .ok (.iload_n 3, 1) := by decide +kernel
theorem d_X12_oneMore_35 : decode (mB M_X12_oneMore) 35 = .ok (.ishl, 1) := by decide +kernel
theorem d_X12_oneMore_36 : decode (mB M_X12_oneMore) 36 = .ok (.iconst (-1), 1) := by decide +kernel
theorem d_X12_oneMore_37 : decode (mB M_X12_oneMore) 37 = .ok (.ixor, 1) := by decide +kernel
theorem d_X12_oneMore_38 : decode (mB M_X12_oneMore) 38 = .ok (.iand, 1) := by decide +kernel
theorem d_X12_oneMore_39 : decode (mB M_X12_oneMore) 39 = .ok (.istore 5, 2) := by decide +kernel
theorem d_X12_oneMore_41 : decode (mB M_X12_oneMore) 41 = .ok (.iload 5, 2) := by decide +kernel
theorem d_X12_oneMore_43 : decode (mB M_X12_oneMore) 43 = .ok (.iload_n 2, 1) := by decide +kernel
theorem d_X12_oneMore_44 : decode (mB M_X12_oneMore) 44 = .ok (.if_icmp .eq 27, 3) := by decide +kernel
theorem d_X12_oneMore_47 : decode (mB M_X12_oneMore) 47 = .ok (.aload_n 0, 1) := by decide +kernel
theorem d_X12_oneMore_48 : decode (mB M_X12_oneMore) 48 = .ok (.getfield 35, 3) := by decide +kernel
theorem d_X12_oneMore_51 : decode (mB M_X12_oneMore) 51 = .ok (.iload 4, 2) := by decide +kernel
theorem d_X12_oneMore_53 : decode (mB M_X12_oneMore) 53 = .ok (.iaload, 1) := by decide +kernel
theorem d_X12_oneMore_54 : decode (mB M_X12_oneMore) 54 = .ok (.ifCond .lt 17, 3) := by decide +kernel
theorem d_X12_oneMore_57 : decode (mB M_X12_oneMore) 57 = .ok (.aload_n 0, 1) := by decide +kernel
theorem d_X12_oneMore_58 : decode (mB M_X12_oneMore) 58 = .ok (.getfield 48, 3) := by decide +kernel
theorem d_X12_oneMore_61 : decode (mB M_X12_oneMore) 61 = .ok (.iload 5, 2) := by decide +kernel
theorem d_X12_oneMore_63 : decode (mB M_X12_oneMore) 63 = .ok (.iaload, 1) := by decide +kernel
theorem d_X12_oneMore_64 : decode (mB M_X12_oneMore) 64 = .ok (.ifCond .lt 7, 3) := by decide +kernel
theorem d_X12_oneMore_67 : decode (mB M_X12_oneMore) 67 = .ok (.iconst 1, 1) := by decide +kernel
theorem d_X12_oneMore_68 : decode (mB M_X12_oneMore) 68 = .ok (.goto 4, 3) := by decide +kernel
theorem d_X12_oneMore_71 : decode (mB M_X12_oneMore) 71 = .ok (.iconst 0, 1) := by decide +kernel
theorem d_X12_oneMore_72 : decode (mB M_X12_oneMore) 72 = .ok (.istore 6, 2) := by decide +kernel
theorem d_X12_oneMore_74 : decode (mB M_X12_oneMore) 74 = .ok (.iload 6, 2) := by decide +kernel
theorem d_X12_oneMore_76 : decode (mB M_X12_oneMore) 76 = .ok (.ifCond .eq 57, 3) := by decide +kernel
theorem d_X12_oneMore_79 : decode (mB M_X12_oneMore) 79 = .ok (.aload_n 0, 1) := by decide +kernel
theorem d_X12_oneMore_80 : decode (mB M_X12_oneMore) 80 = .ok (.getfield 48, 3) := by decide +kernel
theorem d_X12_oneMore_83 : decode (mB M_X12_oneMore) 83 = .ok (.iload_n 2, 1) := by decide +kernel
theorem d_X12_oneMore_84 : decode (mB M_X12_oneMore) 84 = .ok (.iaload, 1) := by decide +kernel
theorem d_X12_oneMore_85 : decode (mB M_X12_oneMore) 85 = .ok (.ifCond .lt 27, 3) := by decide +kernel
theorem d_X12_oneMore_88 : decode (mB M_X12_oneMore) 88 = .ok (.aload_n 0, 1) := by decide +kernel
theorem d_X12_oneMore_89 : decode (mB M_X12_oneMore) 89 = .ok (.getfield 48, 3) := by decide +kernel
theorem d_X12_oneMore_92 : decode (mB M_X12_oneMore) 92 = .ok (.iload 5, 2) := by decide +kernel
theorem d_X12_oneMore_94 : decode (mB M_X12_oneMore) 94 = .ok (.iaload, 1) := by decide +kernel
theorem d_X12_oneMore_95 : decode (mB M_X12_oneMore) 95 = .ok (.aload_n 0, 1) := by decide +kernel
theorem d_X12_oneMore_96 : decode (mB M_X12_oneMore) 96 = .ok (.getfield 35, 3) := by decide +kernel
theorem d_X12_oneMore_99 : decode (mB M_X12_oneMore) 99 = .ok (.iload 4, 2) := by decide +kernel
theorem d_X12_oneMore_101 : decode (mB M_X12_oneMore) 101 = .ok (.iaload, 1) := by decide +kernel
theorem d_X12_oneMore_102 : decode (mB M_X12_oneMore) 102 = .ok (.iadd, 1) := by decide +kernel
theorem d_X12_oneMore_103 : decode (mB M_X12_oneMore) 103 = .ok (.aload_n 0, 1) := by decide +kernel
theorem d_X12_oneMore_104 : decode (mB M_X12_oneMore) 104 = .ok (.getfield 48, 3) := by decide +kernel
theorem d_X12_oneMore_107 : decode (mB M_X12_oneMore) 107 = .ok (.iload_n 2, 1) := by decide +kernel
theorem d_X12_oneMore_108 : decode (mB M_X12_oneMore) 108 = .ok (.iaload, 1) := by decide +kernel
theorem d_X12_oneMore_109 : decode (mB M_X12_oneMore) 109 = .ok (.if_icmp .ge 24, 3) := by decide +kernel
theorem d_X12_oneMore_112 : decode (mB M_X12_oneMore) 112 = .ok (.aload_n 0, 1) := by decide +kernel
theorem d_X12_oneMore_113 : decode (mB M_X12_oneMore) 113 = .ok (.getfield 48, 3) := by decide +kernel
theorem d_X12_oneMore_116 : decode (mB M_X12_oneMore) 116 = .ok (.iload_n 2, 1) := by decide +kernel
theorem d_X12_oneMore_117 : decode (mB M_X12_oneMore) 117 = .ok (.aload_n 0, 1) := by decide +kernel
theorem d_X12_oneMore_118 : decode (mB M_X12_oneMore) 118 = .ok (.getfield 48, 3) := by decide +kernel
theorem d_X12_oneMore_121 : decode (mB M_X12_oneMore) 121 = .ok (.iload 5, 2) := by decide +kernel
theorem d_X12_oneMore_123 : decode (mB M_X12_oneMore) 123 = .ok (.iaload, 1) := by decide +kernel
theorem d_X12_oneMore_124 : decode (mB M_X12_oneMore) 124 = .ok (.aload_n 0, 1) := by decide +kernel
theorem d_X12_oneMore_125 : decode (mB M_X12_oneMore) 125 = .ok (.getfield 35, 3) := by decide +kernel
theorem d_X12_oneMore_128 : decode (mB M_X12_oneMore) 128 = .ok (.iload 4, 2) := by decide +kernel
theorem d_X12_oneMore_130 : decode (mB M_X12_oneMore) 130 = .ok (.iaload, 1) := by decide +kernel
theorem d_X12_oneMore_131 : decode (mB M_X12_oneMore) 131 = .ok (.iadd, 1) := by decide +kernel
theorem d_X12_oneMore_132 : decode (mB M_X12_oneMore) 132 = .ok (.iastore, 1) := by decide +kernel
theorem d_X12_oneMore_133 : decode (mB M_X12_oneMore) 133 = .ok (.iinc 3 1, 3) := by decide +kernel
theorem d_X12_oneMore_136 : decode (mB M_X12_oneMore) 136 = .ok (.iinc 4 1, 3) := by decide +kernel
theorem d_X12_oneMore_139 : decode (mB M_X12_oneMore) 139 = .ok (.goto (-128), 3) := by decide +kernel
theorem d_X12_oneMore_142 : decode (mB M_X12_oneMore) 142 = .ok (.iinc 2 (-1), 3) := by decide +kernel
theorem d_X12_oneMore_145 : decode (mB M_X12_oneMore) 145 = .ok (.goto (-143), 3) := by decide +kernel
theorem d_X12_oneMore_148 : decode (mB M_X12_oneMore) 148 = .ok (.return_, 1) := by decide +kernel
theorem l_m_oneMore {E : mEnv} (hE : E.1.stackTraces = false) (C : List mE) (N : Nat) : ∀ n : Nat, (∀ (v2 : Int32) (t : xT) (r : xT), f_oneMore_L N n 2 v2 0 0 t = some r → Go E M_X12_oneMore 0 (2, [some (.ref 0), none, some (.int v2), none, none, none, none], [], (mw t, C)) (.inr (.inl (none, (mw r, C))))) ∧ (∀ (v2 : Int32) (v3 : Int32) (v4 : Int32) (t : xT) (r : xT), f_oneMore_L N n 11 v2 v3 v4 t = some r → Go E M_X12_oneMore 0 (11, [some (.ref 0), none, some (.int v2), some (.int v3), some (.int v4), none, none], [], (mw t, C)) (.inr (.inl (none, (mw r, C))))) := by
  intro n
  induction n with
  | zero => exact ⟨(fun v2 t r h => by cases h), (fun v2 v3 v4 t r h => by cases h)⟩
  | succ n ih =>
    refine ⟨?_, ?_⟩
    · intro v2 t r h
      rw [u_oneMore_2] at h
      refine g_iload_n d_X12_oneMore_2 rfl ?_
      refine g_if_le (tgt := 148) d_X12_oneMore_3 (by decide) (fun c_3 => ?_) (fun c_3 => ?_)
      · replace h := opos c_3 h
        obtain rfl := osome h
        exact g_retV d_X12_oneMore_148 rfl rfl
      · replace h := oneg c_3 h
        refine g_iconst (v := 0) d_X12_oneMore_6 (by decide) ?_
        refine g_istore_n (L' := [some (.ref 0), none, some (.int v2), some (.int 0), none, none, none]) d_X12_oneMore_7 rfl rfl ?_
        refine g_iconst (v := 0) d_X12_oneMore_8 (by decide) ?_
        refine g_istore (L' := [some (.ref 0), none, some (.int v2), some (.int 0), some (.int 0), none, none]) d_X12_oneMore_9 rfl rfl ?_
        exact (ih).2 v2 0 0 t _ h
    · intro v2 v3 v4 t r h
      rw [u_oneMore_11] at h
      refine g_iload d_X12_oneMore_11 rfl ?_
      refine g_aload_n d_X12_oneMore_13 rfl ?_
      refine g_callV (As := []) d_X12_oneMore_14 o_X12_size l_X12_130 ⟨Nat.le_of_ble_eq_true rfl, Nat.le_of_ble_eq_true rfl⟩ (c_m_size hE C t) (gm0 t C) rfl rfl rfl rfl rfl ?_ (Nat.zero_add _)
      refine g_icmp_ge (tgt := 142) d_X12_oneMore_17 (by decide) (fun c_17 => ?_) (fun c_17 => ?_)
      · replace h := opos c_17 h
        refine g_iinc (v := (v2 + (-1))) (L' := [some (.ref 0), none, some (.int (v2 + (-1))), some (.int v3), some (.int v4), none, none]) d_X12_oneMore_142 rfl rfl rfl ?_
        refine g_goto (tgt := 2) d_X12_oneMore_145 (by decide) ?_
        refine g_drop [3, 4] (L1 := [some (.ref 0), none, some (.int (v2 + (-1))), none, none, none, none]) rfl ?_
        exact (ih).1 (v2 + (-1)) t _ h
      · replace h := oneg c_17 h
        refine g_aload_n d_X12_oneMore_20 rfl ?_
        refine g_iload d_X12_oneMore_21 rfl ?_
        obtain ⟨r_23, h_23, h⟩ := obind h
        refine g_callV (As := [.int v4]) d_X12_oneMore_23 o_X12_isBox l_X12_124 ⟨Nat.le_of_ble_eq_true rfl, Nat.le_of_ble_eq_true rfl⟩ (c_m_isBox hE C t v4 _ h_23) (gm0 t C) rfl rfl rfl rfl rfl ?_ (Nat.zero_add _)
        obtain ⟨r_26, h_26, hh_26⟩ := obind h
        refine Go.trans0 (S1 := (136, [some (.ref 0), none, some (.int v2), some (.int r_26.1), some (.int v4), none, none], [], (mw r_26.2, C))) ?_ ?_
        · replace h := h_26
          clear hh_26
          refine g_if_ne (tgt := 32) d_X12_oneMore_26 (by decide) (fun c_26 => ?_) (fun c_26 => ?_)
          · replace h := oneg c_26 h
            refine g_iload_n d_X12_oneMore_32 rfl ?_
            refine g_iconst (v := 1) d_X12_oneMore_33 (by decide) ?_
            refine g_iload_n d_X12_oneMore_34 rfl ?_
            refine g_ishl d_X12_oneMore_35 ?_
            refine g_iconst (v := (-1)) d_X12_oneMore_36 (by decide) ?_
            refine g_ixor d_X12_oneMore_37 ?_
            refine g_iand d_X12_oneMore_38 ?_
            refine g_istore (L' := [some (.ref 0), none, some (.int v2), some (.int v3), some (.int v4), some (.int (v2 &&& ((1 <<< (v3 &&& 31)) ^^^ (-1)))), none]) d_X12_oneMore_39 rfl rfl ?_
            refine g_iload d_X12_oneMore_41 rfl ?_
            refine g_iload_n d_X12_oneMore_43 rfl ?_
            obtain ⟨r_44, h_44, hh_44⟩ := obind h
            refine Go.trans0 (S1 := (72, [some (.ref 0), none, some (.int v2), some (.int v3), some (.int v4), some (.int (v2 &&& ((1 <<< (v3 &&& 31)) ^^^ (-1)))), none], [.int r_44], (mw t, C))) ?_ ?_
            · replace h := h_44
              clear hh_44
              refine g_icmp_eq (tgt := 71) d_X12_oneMore_44 (by decide) (fun c_44 => ?_) (fun c_44 => ?_)
              · replace h := opos c_44 h
                refine g_iconst (v := 0) d_X12_oneMore_71 (by decide) ?_
                obtain rfl := osome h
                exact g_end rfl
              · replace h := oneg c_44 h
                refine g_aload_n d_X12_oneMore_47 rfl ?_
                refine g_getf d_X12_oneMore_48 f_X12_35 (gm0 t C) rfl ?_
                refine g_iload d_X12_oneMore_51 rfl ?_
                obtain ⟨i_53, h⟩ := ochk h
                refine g_iald d_X12_oneMore_53 (gm_8 t C) (inB_in i_53) ?_
                refine g_if_lt (tgt := 71) d_X12_oneMore_54 (by decide) (fun c_54 => ?_) (fun c_54 => ?_)
                · replace h := opos c_54 h
                  refine g_iconst (v := 0) d_X12_oneMore_71 (by decide) ?_
                  obtain rfl := osome h
                  exact g_end rfl
                · replace h := oneg c_54 h
                  refine g_aload_n d_X12_oneMore_57 rfl ?_
                  refine g_getf d_X12_oneMore_58 f_X12_48 (gm0 t C) rfl ?_
                  refine g_iload d_X12_oneMore_61 rfl ?_
                  obtain ⟨i_63, h⟩ := ochk h
                  refine g_iald d_X12_oneMore_63 (gm_12 t C) (inB_in i_63) ?_
                  refine g_if_lt (tgt := 71) d_X12_oneMore_64 (by decide) (fun c_64 => ?_) (fun c_64 => ?_)
                  · replace h := opos c_64 h
                    refine g_iconst (v := 0) d_X12_oneMore_71 (by decide) ?_
                    obtain rfl := osome h
                    exact g_end rfl
                  · replace h := oneg c_64 h
                    refine g_iconst (v := 1) d_X12_oneMore_67 (by decide) ?_
                    refine g_goto (tgt := 72) d_X12_oneMore_68 (by decide) ?_
                    obtain rfl := osome h
                    exact g_end rfl
            replace h := hh_44
            refine g_istore (L' := [some (.ref 0), none, some (.int v2), some (.int v3), some (.int v4), some (.int (v2 &&& ((1 <<< (v3 &&& 31)) ^^^ (-1)))), some (.int r_44)]) d_X12_oneMore_72 rfl rfl ?_
            refine g_iload d_X12_oneMore_74 rfl ?_
            obtain ⟨r_76, h_76, hh_76⟩ := obind h
            refine Go.trans0 (S1 := (133, [some (.ref 0), none, some (.int v2), some (.int v3), some (.int v4), none, none], [], (mw r_76, C))) ?_ ?_
            · replace h := h_76
              clear hh_76
              refine g_if_eq (tgt := 133) d_X12_oneMore_76 (by decide) (fun c_76 => ?_) (fun c_76 => ?_)
              · replace h := opos c_76 h
                obtain rfl := osome h
                exact g_drop [5, 6] rfl (g_end rfl)
              · replace h := oneg c_76 h
                refine g_aload_n d_X12_oneMore_79 rfl ?_
                refine g_getf d_X12_oneMore_80 f_X12_48 (gm0 t C) rfl ?_
                refine g_iload_n d_X12_oneMore_83 rfl ?_
                obtain ⟨i_84, h⟩ := ochk h
                refine g_iald d_X12_oneMore_84 (gm_12 t C) (inB_in i_84) ?_
                refine g_if_lt (tgt := 112) d_X12_oneMore_85 (by decide) (fun c_85 => ?_) (fun c_85 => ?_)
                · replace h := opos c_85 h
                  refine g_aload_n d_X12_oneMore_112 rfl ?_
                  refine g_getf d_X12_oneMore_113 f_X12_48 (gm0 t C) rfl ?_
                  refine g_iload_n d_X12_oneMore_116 rfl ?_
                  refine g_aload_n d_X12_oneMore_117 rfl ?_
                  refine g_getf d_X12_oneMore_118 f_X12_48 (gm0 t C) rfl ?_
                  refine g_iload d_X12_oneMore_121 rfl ?_
                  obtain ⟨i_123, h⟩ := ochk h
                  refine g_iald d_X12_oneMore_123 (gm_12 t C) (inB_in i_123) ?_
                  refine g_aload_n d_X12_oneMore_124 rfl ?_
                  refine g_getf d_X12_oneMore_125 f_X12_35 (gm0 t C) rfl ?_
                  refine g_iload d_X12_oneMore_128 rfl ?_
                  obtain ⟨i_130, h⟩ := ochk h
                  refine g_iald d_X12_oneMore_130 (gm_8 t C) (inB_in i_130) ?_
                  refine g_iadd d_X12_oneMore_131 ?_
                  obtain ⟨i_132, h⟩ := ochk h
                  obtain ⟨t_132, e_132, h⟩ := olet h
                  refine g_iast (w' := (mw t_132, C)) d_X12_oneMore_132 (gm_12 t C) (inB_in i_132) (by rw [e_132]; exact st_12 t C _) ?_
                  obtain rfl := osome h
                  exact g_drop [5, 6] rfl (g_end rfl)
                · replace h := oneg c_85 h
                  refine g_aload_n d_X12_oneMore_88 rfl ?_
                  refine g_getf d_X12_oneMore_89 f_X12_48 (gm0 t C) rfl ?_
                  refine g_iload d_X12_oneMore_92 rfl ?_
                  obtain ⟨i_94, h⟩ := ochk h
                  refine g_iald d_X12_oneMore_94 (gm_12 t C) (inB_in i_94) ?_
                  refine g_aload_n d_X12_oneMore_95 rfl ?_
                  refine g_getf d_X12_oneMore_96 f_X12_35 (gm0 t C) rfl ?_
                  refine g_iload d_X12_oneMore_99 rfl ?_
                  obtain ⟨i_101, h⟩ := ochk h
                  refine g_iald d_X12_oneMore_101 (gm_8 t C) (inB_in i_101) ?_
                  refine g_iadd d_X12_oneMore_102 ?_
                  refine g_aload_n d_X12_oneMore_103 rfl ?_
                  refine g_getf d_X12_oneMore_104 f_X12_48 (gm0 t C) rfl ?_
                  refine g_iload_n d_X12_oneMore_107 rfl ?_
                  obtain ⟨i_108, h⟩ := ochk h
                  refine g_iald d_X12_oneMore_108 (gm_12 t C) (inB_in i_108) ?_
                  refine g_icmp_ge (tgt := 133) d_X12_oneMore_109 (by decide) (fun c_109 => ?_) (fun c_109 => ?_)
                  · replace h := opos c_109 h
                    obtain rfl := osome h
                    exact g_drop [5, 6] rfl (g_end rfl)
                  · replace h := oneg c_109 h
                    refine g_aload_n d_X12_oneMore_112 rfl ?_
                    refine g_getf d_X12_oneMore_113 f_X12_48 (gm0 t C) rfl ?_
                    refine g_iload_n d_X12_oneMore_116 rfl ?_
                    refine g_aload_n d_X12_oneMore_117 rfl ?_
                    refine g_getf d_X12_oneMore_118 f_X12_48 (gm0 t C) rfl ?_
                    refine g_iload d_X12_oneMore_121 rfl ?_
                    obtain ⟨i_123, h⟩ := ochk h
                    refine g_iald d_X12_oneMore_123 (gm_12 t C) (inB_in i_123) ?_
                    refine g_aload_n d_X12_oneMore_124 rfl ?_
                    refine g_getf d_X12_oneMore_125 f_X12_35 (gm0 t C) rfl ?_
                    refine g_iload d_X12_oneMore_128 rfl ?_
                    obtain ⟨i_130, h⟩ := ochk h
                    refine g_iald d_X12_oneMore_130 (gm_8 t C) (inB_in i_130) ?_
                    refine g_iadd d_X12_oneMore_131 ?_
                    obtain ⟨i_132, h⟩ := ochk h
                    obtain ⟨t_132, e_132, h⟩ := olet h
                    refine g_iast (w' := (mw t_132, C)) d_X12_oneMore_132 (gm_12 t C) (inB_in i_132) (by rw [e_132]; exact st_12 t C _) ?_
                    obtain rfl := osome h
                    exact g_drop [5, 6] rfl (g_end rfl)
            replace h := hh_76
            refine g_iinc (v := (v3 + 1)) (L' := [some (.ref 0), none, some (.int v2), some (.int (v3 + 1)), some (.int v4), none, none]) d_X12_oneMore_133 rfl rfl rfl ?_
            obtain rfl := osome h
            exact g_end rfl
          · replace h := opos c_26 h
            refine g_goto (tgt := 136) d_X12_oneMore_29 (by decide) ?_
            obtain rfl := osome h
            exact g_end rfl
        replace h := hh_26
        refine g_iinc (v := (v4 + 1)) (L' := [some (.ref 0), none, some (.int v2), some (.int r_26.1), some (.int (v4 + 1)), none, none]) d_X12_oneMore_136 rfl rfl rfl ?_
        refine g_goto (tgt := 11) d_X12_oneMore_139 (by decide) ?_
        exact (ih).2 v2 r_26.1 (v4 + 1) r_26.2 _ h
theorem c_m_oneMore {E : mEnv} (hE : E.1.stackTraces = false) (C : List mE) (N : Nat) (t : xT) (a0 : Int32) (r : xT) (h : f_oneMore N t a0 = some r) : Rt E M_X12_oneMore 0 [.ref 0, .int a0] (mw t, C) none (mw r, C) := by
  unfold f_oneMore at h
  refine Rt.of hE rfl pn_X12 (Nat.le_of_ble_eq_true rfl) ?_
  refine g_eq (S' := (0, [some (.ref 0), some (.int a0), none, none, none, none, none], [], (mw t, C))) rfl ?_
  refine g_iload_n d_X12_oneMore_0 rfl ?_
  refine g_istore_n (L' := [some (.ref 0), some (.int a0), some (.int a0), none, none, none, none]) d_X12_oneMore_1 rfl rfl ?_
  refine g_drop [1] (L1 := [some (.ref 0), none, some (.int a0), none, none, none, none]) rfl ?_
  exact (l_m_oneMore hE C N N).1 a0 t _ h
def f_bound_L (N : Nat) : Nat → Nat → Int32 → Int32 → xT → Option (Int32 × xT)
  | 0, _, _, _, _ => none
  | n + 1, p, v1, v2, t =>
    if p = 37 then (if v1 < v2 then (f_bound_L N n 65 v1 0 t)
      else (Option.bind (if v2 = 0 then (some (0 : Int32))
          else (some ((-1) : Int32))) fun (r_48 : Int32) =>
        if inB v2 32 = true then (Option.bind (some (wa t 12 (upd (ra t 12) (Int32.toNatClampNeg v2) r_48))) fun t_56 =>
        f_bound_L N n 37 v1 (v2 + 1) t_56) else none))
    else if p = 65 then (if (f_size t) ≤ v2 then (if inB v1 32 = true then (Option.bind (if 0 ≤ ((ra t 12) (Int32.toNatClampNeg v1)) then (if inB v1 32 = true then (some (((ra t 12) (Int32.toNatClampNeg v1)), t)) else none)
          else (Option.bind (f_fails t 2) fun r_108 =>
            some (r_108.1, r_108.2))) fun (r_103 : Int32 × xT) =>
        some (r_103.1, r_103.2)) else none)
      else (Option.bind (f_isGoal t v2) fun r_75 =>
        Option.bind (if r_75 = 0 then (some t)
          else (Option.bind (f_pushesTo N t v2) fun r_83 =>
            Option.bind (f_oneMore N r_83 v1) fun r_88 =>
            some r_88)) fun (r_78 : xT) =>
        f_bound_L N n 65 v1 (v2 + 1) r_78))
    else none
theorem u_bound_37 (N n : Nat) (v1 : Int32) (v2 : Int32) (t : xT) : f_bound_L N (n + 1) 37 v1 v2 t = (if v1 < v2 then (f_bound_L N n 65 v1 0 t)
    else (Option.bind (if v2 = 0 then (some (0 : Int32))
        else (some ((-1) : Int32))) fun (r_48 : Int32) =>
      if inB v2 32 = true then (Option.bind (some (wa t 12 (upd (ra t 12) (Int32.toNatClampNeg v2) r_48))) fun t_56 =>
      f_bound_L N n 37 v1 (v2 + 1) t_56) else none)) := rfl
theorem u_bound_65 (N n : Nat) (v1 : Int32) (v2 : Int32) (t : xT) : f_bound_L N (n + 1) 65 v1 v2 t = (if (f_size t) ≤ v2 then (if inB v1 32 = true then (Option.bind (if 0 ≤ ((ra t 12) (Int32.toNatClampNeg v1)) then (if inB v1 32 = true then (some (((ra t 12) (Int32.toNatClampNeg v1)), t)) else none)
        else (Option.bind (f_fails t 2) fun r_108 =>
          some (r_108.1, r_108.2))) fun (r_103 : Int32 × xT) =>
      some (r_103.1, r_103.2)) else none)
    else (Option.bind (f_isGoal t v2) fun r_75 =>
      Option.bind (if r_75 = 0 then (some t)
        else (Option.bind (f_pushesTo N t v2) fun r_83 =>
          Option.bind (f_oneMore N r_83 v1) fun r_88 =>
          some r_88)) fun (r_78 : xT) =>
      f_bound_L N n 65 v1 (v2 + 1) r_78)) := rfl
def f_bound (N : Nat) (t : xT)  : Option (Int32 × xT) :=
  Option.bind (f_hasRoom t) fun r_2 =>
  Option.bind (if r_2 = 0 then (some (1 : Int32))
    else (some (0 : Int32))) fun (r_5 : Int32) =>
  Option.bind (some (ws t 9 r_5)) fun t_13 =>
  if (rs t_13 9) ≤ 0 then (Option.bind (f_counted N t_13 1) fun r_28 =>
    f_bound_L N N 37 ((1 <<< (r_28 &&& 31)) - 1) 0 t_13)
  else (some ((0 : Int32), t_13))
theorem d_X12_bound_0 : decode (mB M_X12_bound) 0 = .ok (.aload_n 0, 1) := by decide +kernel
theorem d_X12_bound_1 : decode (mB M_X12_bound) 1 = .ok (.aload_n 0, 1) := by decide +kernel
theorem d_X12_bound_2 : decode (mB M_X12_bound) 2 = .ok (.invokevirtual 83, 3) := by decide +kernel
theorem d_X12_bound_5 : decode (mB M_X12_bound) 5 = .ok (.ifCond .eq 7, 3) := by decide +kernel
theorem d_X12_bound_8 : decode (mB M_X12_bound) 8 = .ok (.iconst 0, 1) := by decide +kernel
theorem d_X12_bound_9 : decode (mB M_X12_bound) 9 = .ok (.goto 4, 3) := by decide +kernel
theorem d_X12_bound_12 : decode (mB M_X12_bound) 12 = .ok (.iconst 1, 1) := by decide +kernel
theorem d_X12_bound_13 : decode (mB M_X12_bound) 13 = .ok (.putfield 73, 3) := by decide +kernel
theorem d_X12_bound_16 : decode (mB M_X12_bound) 16 = .ok (.aload_n 0, 1) := by decide +kernel
theorem d_X12_bound_17 : decode (mB M_X12_bound) 17 = .ok (.getfield 73, 3) := by decide +kernel
theorem d_X12_bound_20 : decode (mB M_X12_bound) 20 = .ok (.ifCond .le 5, 3) := by decide +kernel
theorem d_X12_bound_23 : decode (mB M_X12_bound) 23 = .ok (.iconst 0, 1) := by decide +kernel
theorem d_X12_bound_24 : decode (mB M_X12_bound) 24 = .ok (.ireturn, 1) := by decide +kernel
theorem d_X12_bound_25 : decode (mB M_X12_bound) 25 = .ok (.iconst 1, 1) := by decide +kernel
theorem d_X12_bound_26 : decode (mB M_X12_bound) 26 = .ok (.aload_n 0, 1) := by decide +kernel
theorem d_X12_bound_27 : decode (mB M_X12_bound) 27 = .ok (.iconst 1, 1) := by decide +kernel
theorem d_X12_bound_28 : decode (mB M_X12_bound) 28 = .ok (.invokevirtual 169, 3) := by decide +kernel
theorem d_X12_bound_31 : decode (mB M_X12_bound) 31 = .ok (.ishl, 1) := by decide +kernel
theorem d_X12_bound_32 : decode (mB M_X12_bound) 32 = .ok (.iconst 1, 1) := by decide +kernel
theorem d_X12_bound_33 : decode (mB M_X12_bound) 33 = .ok (.isub, 1) := by decide +kernel
theorem d_X12_bound_34 : decode (mB M_X12_bound) 34 = .ok (.istore_n 1, 1) := by decide +kernel
theorem d_X12_bound_35 : decode (mB M_X12_bound) 35 = .ok (.iconst 0, 1) := by decide +kernel
theorem d_X12_bound_36 : decode (mB M_X12_bound) 36 = .ok (.istore_n 2, 1) := by decide +kernel
theorem d_X12_bound_37 : decode (mB M_X12_bound) 37 = .ok (.iload_n 2, 1) := by decide +kernel
theorem d_X12_bound_38 : decode (mB M_X12_bound) 38 = .ok (.iload_n 1, 1) := by decide +kernel
theorem d_X12_bound_39 : decode (mB M_X12_bound) 39 = .ok (.if_icmp .gt 24, 3) := by decide +kernel
theorem d_X12_bound_42 : decode (mB M_X12_bound) 42 = .ok (.aload_n 0, 1) := by decide +kernel
theorem d_X12_bound_43 : decode (mB M_X12_bound) 43 = .ok (.getfield 48, 3) := by decide +kernel
theorem d_X12_bound_46 : decode (mB M_X12_bound) 46 = .ok (.iload_n 2, 1) := by decide +kernel
theorem d_X12_bound_47 : decode (mB M_X12_bound) 47 = .ok (.iload_n 2, 1) := by decide +kernel
theorem d_X12_bound_48 : decode (mB M_X12_bound) 48 = .ok (.ifCond .ne 7, 3) := by decide +kernel
theorem d_X12_bound_51 : decode (mB M_X12_bound) 51 = .ok (.iconst 0, 1) := by decide +kernel
theorem d_X12_bound_52 : decode (mB M_X12_bound) 52 = .ok (.goto 4, 3) := by decide +kernel
theorem d_X12_bound_55 : decode (mB M_X12_bound) 55 = .ok (.iconst (-1), 1) := by decide +kernel
theorem d_X12_bound_56 : decode (mB M_X12_bound) 56 = .ok (.iastore, 1) := by decide +kernel
theorem d_X12_bound_57 : decode (mB M_X12_bound) 57 = .ok (.iinc 2 1, 3) := by decide +kernel
theorem d_X12_bound_60 : decode (mB M_X12_bound) 60 = .ok (.goto (-23), 3) := by decide +kernel
theorem d_X12_bound_63 : decode (mB M_X12_bound) 63 = .ok (.iconst 0, 1) := by decide +kernel
theorem d_X12_bound_64 : decode (mB M_X12_bound) 64 = .ok (.istore_n 2, 1) := by decide +kernel
theorem d_X12_bound_65 : decode (mB M_X12_bound) 65 = .ok (.iload_n 2, 1) := by decide +kernel
theorem d_X12_bound_66 : decode (mB M_X12_bound) 66 = .ok (.aload_n 0, 1) := by decide +kernel
theorem d_X12_bound_67 : decode (mB M_X12_bound) 67 = .ok (.invokevirtual 130, 3) := by decide +kernel
theorem d_X12_bound_70 : decode (mB M_X12_bound) 70 = .ok (.if_icmp .ge 27, 3) := by decide +kernel
theorem d_X12_bound_73 : decode (mB M_X12_bound) 73 = .ok (.aload_n 0, 1) := by decide +kernel
theorem d_X12_bound_74 : decode (mB M_X12_bound) 74 = .ok (.iload_n 2, 1) := by decide +kernel
theorem d_X12_bound_75 : decode (mB M_X12_bound) 75 = .ok (.invokevirtual 127, 3) := by decide +kernel
theorem d_X12_bound_78 : decode (mB M_X12_bound) 78 = .ok (.ifCond .eq 13, 3) := by decide +kernel
theorem d_X12_bound_81 : decode (mB M_X12_bound) 81 = .ok (.aload_n 0, 1) := by decide +kernel
theorem d_X12_bound_82 : decode (mB M_X12_bound) 82 = .ok (.iload_n 2, 1) := by decide +kernel
theorem d_X12_bound_83 : decode (mB M_X12_bound) 83 = .ok (.invokevirtual 143, 3) := by decide +kernel
theorem d_X12_bound_86 : decode (mB M_X12_bound) 86 = .ok (.aload_n 0, 1) := by decide +kernel
theorem d_X12_bound_87 : decode (mB M_X12_bound) 87 = .ok (.iload_n 1, 1) := by decide +kernel
theorem d_X12_bound_88 : decode (mB M_X12_bound) 88 = .ok (.invokevirtual 185, 3) := by decide +kernel
theorem d_X12_bound_91 : decode (mB M_X12_bound) 91 = .ok (.iinc 2 1, 3) := by decide +kernel
theorem d_X12_bound_94 : decode (mB M_X12_bound) 94 = .ok (.goto (-29), 3) := by decide +kernel
theorem d_X12_bound_97 : decode (mB M_X12_bound) 97 = .ok (.aload_n 0, 1) := by decide +kernel
theorem d_X12_bound_98 : decode (mB M_X12_bound) 98 = .ok (.getfield 48, 3) := by decide +kernel
theorem d_X12_bound_101 : decode (mB M_X12_bound) 101 = .ok (.iload_n 1, 1) := by decide +kernel
theorem d_X12_bound_102 : decode (mB M_X12_bound) 102 = .ok (.iaload, 1) := by decide +kernel
theorem d_X12_bound_103 : decode (mB M_X12_bound) 103 = .ok (.ifCond .ge 11, 3) := by decide +kernel
theorem d_X12_bound_106 : decode (mB M_X12_bound) 106 = .ok (.aload_n 0, 1) := by decide +kernel
theorem d_X12_bound_107 : decode (mB M_X12_bound) 107 = .ok (.iconst 2, 1) := by decide +kernel
theorem d_X12_bound_108 : decode (mB M_X12_bound) 108 = .ok (.invokevirtual 114, 3) := by decide +kernel
theorem d_X12_bound_111 : decode (mB M_X12_bound) 111 = .ok (.goto 9, 3) := by decide +kernel
theorem d_X12_bound_114 : decode (mB M_X12_bound) 114 = .ok (.aload_n 0, 1) := by decide +kernel
theorem d_X12_bound_115 : decode (mB M_X12_bound) 115 = .ok (.getfield 48, 3) := by decide +kernel
theorem d_X12_bound_118 : decode (mB M_X12_bound) 118 = .ok (.iload_n 1, 1) := by decide +kernel
theorem d_X12_bound_119 : decode (mB M_X12_bound) 119 = .ok (.iaload, 1) := by decide +kernel
theorem d_X12_bound_120 : decode (mB M_X12_bound) 120 = .ok (.ireturn, 1) := by decide +kernel
theorem l_m_bound {E : mEnv} (hE : E.1.stackTraces = false) (C : List mE) (N : Nat) : ∀ n : Nat, (∀ (v1 : Int32) (v2 : Int32) (t : xT) (r : Int32 × xT), f_bound_L N n 37 v1 v2 t = some r → Go E M_X12_bound 0 (37, [some (.ref 0), some (.int v1), some (.int v2)], [], (mw t, C)) (.inr (.inl (some (.int r.1), (mw r.2, C))))) ∧ (∀ (v1 : Int32) (v2 : Int32) (t : xT) (r : Int32 × xT), f_bound_L N n 65 v1 v2 t = some r → Go E M_X12_bound 0 (65, [some (.ref 0), some (.int v1), some (.int v2)], [], (mw t, C)) (.inr (.inl (some (.int r.1), (mw r.2, C))))) := by
  intro n
  induction n with
  | zero => exact ⟨(fun v1 v2 t r h => by cases h), (fun v1 v2 t r h => by cases h)⟩
  | succ n ih =>
    refine ⟨?_, ?_⟩
    · intro v1 v2 t r h
      rw [u_bound_37] at h
      refine g_iload_n d_X12_bound_37 rfl ?_
      refine g_iload_n d_X12_bound_38 rfl ?_
      refine g_icmp_gt (tgt := 63) d_X12_bound_39 (by decide) (fun c_39 => ?_) (fun c_39 => ?_)
      · replace h := opos c_39 h
        refine g_iconst (v := 0) d_X12_bound_63 (by decide) ?_
        refine g_istore_n (L' := [some (.ref 0), some (.int v1), some (.int 0)]) d_X12_bound_64 rfl rfl ?_
        exact (ih).2 v1 0 t _ h
      · replace h := oneg c_39 h
        refine g_aload_n d_X12_bound_42 rfl ?_
        refine g_getf d_X12_bound_43 f_X12_48 (gm0 t C) rfl ?_
        refine g_iload_n d_X12_bound_46 rfl ?_
        refine g_iload_n d_X12_bound_47 rfl ?_
        obtain ⟨r_48, h_48, hh_48⟩ := obind h
        refine Go.trans0 (S1 := (56, [some (.ref 0), some (.int v1), some (.int v2)], [.int r_48, .int v2, .ref 12], (mw t, C))) ?_ ?_
        · replace h := h_48
          clear hh_48
          refine g_if_ne (tgt := 55) d_X12_bound_48 (by decide) (fun c_48 => ?_) (fun c_48 => ?_)
          · replace h := oneg c_48 h
            refine g_iconst (v := (-1)) d_X12_bound_55 (by decide) ?_
            obtain rfl := osome h
            exact g_end rfl
          · replace h := opos c_48 h
            refine g_iconst (v := 0) d_X12_bound_51 (by decide) ?_
            refine g_goto (tgt := 56) d_X12_bound_52 (by decide) ?_
            obtain rfl := osome h
            exact g_end rfl
        replace h := hh_48
        obtain ⟨i_56, h⟩ := ochk h
        obtain ⟨t_56, e_56, h⟩ := olet h
        refine g_iast (w' := (mw t_56, C)) d_X12_bound_56 (gm_12 t C) (inB_in i_56) (by rw [e_56]; exact st_12 t C _) ?_
        refine g_iinc (v := (v2 + 1)) (L' := [some (.ref 0), some (.int v1), some (.int (v2 + 1))]) d_X12_bound_57 rfl rfl rfl ?_
        refine g_goto (tgt := 37) d_X12_bound_60 (by decide) ?_
        exact (ih).1 v1 (v2 + 1) t_56 _ h
    · intro v1 v2 t r h
      rw [u_bound_65] at h
      refine g_iload_n d_X12_bound_65 rfl ?_
      refine g_aload_n d_X12_bound_66 rfl ?_
      refine g_callV (As := []) d_X12_bound_67 o_X12_size l_X12_130 ⟨Nat.le_of_ble_eq_true rfl, Nat.le_of_ble_eq_true rfl⟩ (c_m_size hE C t) (gm0 t C) rfl rfl rfl rfl rfl ?_ (Nat.zero_add _)
      refine g_icmp_ge (tgt := 97) d_X12_bound_70 (by decide) (fun c_70 => ?_) (fun c_70 => ?_)
      · replace h := opos c_70 h
        refine g_aload_n d_X12_bound_97 rfl ?_
        refine g_getf d_X12_bound_98 f_X12_48 (gm0 t C) rfl ?_
        refine g_iload_n d_X12_bound_101 rfl ?_
        obtain ⟨i_102, h⟩ := ochk h
        refine g_iald d_X12_bound_102 (gm_12 t C) (inB_in i_102) ?_
        obtain ⟨r_103, h_103, hh_103⟩ := obind h
        refine Go.trans0 (S1 := (120, [none, none, none], [.int r_103.1], (mw r_103.2, C))) ?_ ?_
        · replace h := h_103
          clear hh_103
          refine g_if_ge (tgt := 114) d_X12_bound_103 (by decide) (fun c_103 => ?_) (fun c_103 => ?_)
          · replace h := opos c_103 h
            refine g_aload_n d_X12_bound_114 rfl ?_
            refine g_getf d_X12_bound_115 f_X12_48 (gm0 t C) rfl ?_
            refine g_iload_n d_X12_bound_118 rfl ?_
            obtain ⟨i_119, h⟩ := ochk h
            refine g_iald d_X12_bound_119 (gm_12 t C) (inB_in i_119) ?_
            obtain rfl := osome h
            exact g_drop [0, 1, 2] rfl (g_end rfl)
          · replace h := oneg c_103 h
            refine g_aload_n d_X12_bound_106 rfl ?_
            refine g_iconst (v := 2) d_X12_bound_107 (by decide) ?_
            obtain ⟨r_108, h_108, h⟩ := obind h
            refine g_callV (As := [.int 2]) d_X12_bound_108 o_X12_fails l_X12_114 ⟨Nat.le_of_ble_eq_true rfl, Nat.le_of_ble_eq_true rfl⟩ (c_m_fails hE C t 2 _ h_108) (gm0 t C) rfl rfl rfl rfl rfl ?_ (Nat.zero_add _)
            refine g_goto (tgt := 120) d_X12_bound_111 (by decide) ?_
            obtain rfl := osome h
            exact g_drop [0, 1, 2] rfl (g_end rfl)
        replace h := hh_103
        obtain rfl := osome h
        exact g_retI d_X12_bound_120 rfl rfl rfl
      · replace h := oneg c_70 h
        refine g_aload_n d_X12_bound_73 rfl ?_
        refine g_iload_n d_X12_bound_74 rfl ?_
        obtain ⟨r_75, h_75, h⟩ := obind h
        refine g_callV (As := [.int v2]) d_X12_bound_75 o_X12_isGoal l_X12_127 ⟨Nat.le_of_ble_eq_true rfl, Nat.le_of_ble_eq_true rfl⟩ (c_m_isGoal hE C t v2 _ h_75) (gm0 t C) rfl rfl rfl rfl rfl ?_ (Nat.zero_add _)
        obtain ⟨r_78, h_78, hh_78⟩ := obind h
        refine Go.trans0 (S1 := (91, [some (.ref 0), some (.int v1), some (.int v2)], [], (mw r_78, C))) ?_ ?_
        · replace h := h_78
          clear hh_78
          refine g_if_eq (tgt := 91) d_X12_bound_78 (by decide) (fun c_78 => ?_) (fun c_78 => ?_)
          · replace h := opos c_78 h
            obtain rfl := osome h
            exact g_end rfl
          · replace h := oneg c_78 h
            refine g_aload_n d_X12_bound_81 rfl ?_
            refine g_iload_n d_X12_bound_82 rfl ?_
            obtain ⟨r_83, h_83, h⟩ := obind h
            refine g_callV (As := [.int v2]) d_X12_bound_83 o_X12_pushesTo l_X12_143 ⟨Nat.le_of_ble_eq_true rfl, Nat.le_of_ble_eq_true rfl⟩ (c_m_pushesTo hE C N t v2 _ h_83) (gm0 t C) rfl rfl rfl rfl rfl ?_ (Nat.zero_add _)
            refine g_aload_n d_X12_bound_86 rfl ?_
            refine g_iload_n d_X12_bound_87 rfl ?_
            obtain ⟨r_88, h_88, h⟩ := obind h
            refine g_callV (As := [.int v1]) d_X12_bound_88 o_X12_oneMore l_X12_185 ⟨Nat.le_of_ble_eq_true rfl, Nat.le_of_ble_eq_true rfl⟩ (c_m_oneMore hE C N r_83 v1 _ h_88) (gm0 r_83 C) rfl rfl rfl rfl rfl ?_ (Nat.zero_add _)
            obtain rfl := osome h
            exact g_end rfl
        replace h := hh_78
        refine g_iinc (v := (v2 + 1)) (L' := [some (.ref 0), some (.int v1), some (.int (v2 + 1))]) d_X12_bound_91 rfl rfl rfl ?_
        refine g_goto (tgt := 65) d_X12_bound_94 (by decide) ?_
        exact (ih).2 v1 (v2 + 1) r_78 _ h
theorem c_m_bound {E : mEnv} (hE : E.1.stackTraces = false) (C : List mE) (N : Nat) (t : xT)  (r : Int32 × xT) (h : f_bound N t = some r) : Rt E M_X12_bound 0 [.ref 0] (mw t, C) (some (.int r.1)) (mw r.2, C) := by
  unfold f_bound at h
  refine Rt.of hE rfl pn_X12 (Nat.le_of_ble_eq_true rfl) ?_
  refine g_eq (S' := (0, [some (.ref 0), none, none], [], (mw t, C))) rfl ?_
  refine g_aload_n d_X12_bound_0 rfl ?_
  refine g_aload_n d_X12_bound_1 rfl ?_
  obtain ⟨r_2, h_2, h⟩ := obind h
  refine g_callV (As := []) d_X12_bound_2 o_X12_hasRoom l_X12_83 ⟨Nat.le_of_ble_eq_true rfl, Nat.le_of_ble_eq_true rfl⟩ (c_m_hasRoom hE C t _ h_2) (gm0 t C) rfl rfl rfl rfl rfl ?_ (Nat.zero_add _)
  obtain ⟨r_5, h_5, hh_5⟩ := obind h
  refine Go.trans0 (S1 := (13, [some (.ref 0), none, none], [.int r_5, .ref 0], (mw t, C))) ?_ ?_
  · replace h := h_5
    clear hh_5
    refine g_if_eq (tgt := 12) d_X12_bound_5 (by decide) (fun c_5 => ?_) (fun c_5 => ?_)
    · replace h := opos c_5 h
      refine g_iconst (v := 1) d_X12_bound_12 (by decide) ?_
      obtain rfl := osome h
      exact g_end rfl
    · replace h := oneg c_5 h
      refine g_iconst (v := 0) d_X12_bound_8 (by decide) ?_
      refine g_goto (tgt := 13) d_X12_bound_9 (by decide) ?_
      obtain rfl := osome h
      exact g_end rfl
  replace h := hh_5
  obtain ⟨t_13, e_13, h⟩ := olet h
  refine g_putI (w' := (mw t_13, C)) d_X12_bound_13 p_X12_73 rfl rfl (gm0 t C) (Nat.le_of_ble_eq_true rfl) (by rw [e_13]; exact sc_9 t C _) ?_
  refine g_aload_n d_X12_bound_16 rfl ?_
  refine g_getf d_X12_bound_17 f_X12_73 (gm0 t_13 C) rfl ?_
  refine g_if_le (tgt := 25) d_X12_bound_20 (by decide) (fun c_20 => ?_) (fun c_20 => ?_)
  · replace h := opos c_20 h
    refine g_iconst (v := 1) d_X12_bound_25 (by decide) ?_
    refine g_aload_n d_X12_bound_26 rfl ?_
    refine g_iconst (v := 1) d_X12_bound_27 (by decide) ?_
    obtain ⟨r_28, h_28, h⟩ := obind h
    refine g_callV (As := [.int 1]) d_X12_bound_28 o_X12_counted l_X12_169 ⟨Nat.le_of_ble_eq_true rfl, Nat.le_of_ble_eq_true rfl⟩ (c_m_counted hE C N t_13 1 _ h_28) (gm0 t_13 C) rfl rfl rfl rfl rfl ?_ (Nat.zero_add _)
    refine g_ishl d_X12_bound_31 ?_
    refine g_iconst (v := 1) d_X12_bound_32 (by decide) ?_
    refine g_isub d_X12_bound_33 ?_
    refine g_istore_n (L' := [some (.ref 0), some (.int ((1 <<< (r_28 &&& 31)) - 1)), none]) d_X12_bound_34 rfl rfl ?_
    refine g_iconst (v := 0) d_X12_bound_35 (by decide) ?_
    refine g_istore_n (L' := [some (.ref 0), some (.int ((1 <<< (r_28 &&& 31)) - 1)), some (.int 0)]) d_X12_bound_36 rfl rfl ?_
    exact (l_m_bound hE C N N).1 ((1 <<< (r_28 &&& 31)) - 1) 0 t_13 _ h
  · replace h := oneg c_20 h
    refine g_iconst (v := 0) d_X12_bound_23 (by decide) ?_
    obtain rfl := osome h
    exact g_retI d_X12_bound_24 rfl rfl rfl
def f_stuckFor_L (N : Nat) : Nat → Nat → Int32 → Int32 → xT → Option (Int32 × xT)
  | 0, _, _, _, _ => none
  | n + 1, p, v1, v2, t =>
    if p = 6 then (if 3 ≤ v1 then (some ((0 : Int32), t))
      else (f_stuckFor_L N n 13 v1 0 t))
    else if p = 13 then (if (f_size t) ≤ v2 then (f_stuckFor_L N n 6 (v1 + 1) 0 t)
      else (if v1 = 1 then (Option.bind (f_isBox t v2) fun r_28 =>
          if r_28 = 0 then (f_stuckFor_L N n 13 v1 (v2 + 1) t)
          else (if inB v2 64 = true then (if ((ra t 9) (Int32.toNatClampNeg v2)) = 0 then (f_stuckFor_L N n 13 v1 (v2 + 1) t)
            else (Option.bind (some (ws t 21 v2)) fun t_65 =>
              some (v1, t_65))) else none))
        else (if inB v2 64 = true then (if ((ra t 10) (Int32.toNatClampNeg v2)) = 0 then (f_stuckFor_L N n 13 v1 (v2 + 1) t)
          else (Option.bind (f_isGoal t v2) fun r_57 =>
            if r_57 = 0 then (Option.bind (some (ws t 21 v2)) fun t_65 =>
              some (v1, t_65))
            else (f_stuckFor_L N n 13 v1 (v2 + 1) t))) else none)))
    else none
theorem u_stuckFor_6 (N n : Nat) (v1 : Int32) (t : xT) : f_stuckFor_L N (n + 1) 6 v1 0 t = (if 3 ≤ v1 then (some ((0 : Int32), t))
    else (f_stuckFor_L N n 13 v1 0 t)) := rfl
theorem u_stuckFor_13 (N n : Nat) (v1 : Int32) (v2 : Int32) (t : xT) : f_stuckFor_L N (n + 1) 13 v1 v2 t = (if (f_size t) ≤ v2 then (f_stuckFor_L N n 6 (v1 + 1) 0 t)
    else (if v1 = 1 then (Option.bind (f_isBox t v2) fun r_28 =>
        if r_28 = 0 then (f_stuckFor_L N n 13 v1 (v2 + 1) t)
        else (if inB v2 64 = true then (if ((ra t 9) (Int32.toNatClampNeg v2)) = 0 then (f_stuckFor_L N n 13 v1 (v2 + 1) t)
          else (Option.bind (some (ws t 21 v2)) fun t_65 =>
            some (v1, t_65))) else none))
      else (if inB v2 64 = true then (if ((ra t 10) (Int32.toNatClampNeg v2)) = 0 then (f_stuckFor_L N n 13 v1 (v2 + 1) t)
        else (Option.bind (f_isGoal t v2) fun r_57 =>
          if r_57 = 0 then (Option.bind (some (ws t 21 v2)) fun t_65 =>
            some (v1, t_65))
          else (f_stuckFor_L N n 13 v1 (v2 + 1) t))) else none))) := rfl
def f_stuckFor (N : Nat) (t : xT)  : Option (Int32 × xT) :=
  Option.bind (f_freezes N t) fun r_1 =>
  f_stuckFor_L N N 6 1 0 r_1
theorem d_X12_stuckFor_0 : decode (mB M_X12_stuckFor) 0 = .ok (.aload_n 0, 1) := by decide +kernel
theorem d_X12_stuckFor_1 : decode (mB M_X12_stuckFor) 1 = .ok (.invokevirtual 151, 3) := by decide +kernel
theorem d_X12_stuckFor_4 : decode (mB M_X12_stuckFor) 4 = .ok (.iconst 1, 1) := by decide +kernel
theorem d_X12_stuckFor_5 : decode (mB M_X12_stuckFor) 5 = .ok (.istore_n 1, 1) := by decide +kernel
theorem d_X12_stuckFor_6 : decode (mB M_X12_stuckFor) 6 = .ok (.iload_n 1, 1) := by decide +kernel
theorem d_X12_stuckFor_7 : decode (mB M_X12_stuckFor) 7 = .ok (.iconst 3, 1) := by decide +kernel
theorem d_X12_stuckFor_8 : decode (mB M_X12_stuckFor) 8 = .ok (.if_icmp .ge 74, 3) := by decide +kernel
theorem d_X12_stuckFor_11 : decode (mB M_X12_stuckFor) 11 = .ok (.iconst 0, 1) := by decide +kernel
theorem d_X12_stuckFor_12 : decode (mB M_X12_stuckFor) 12 = .ok (.istore_n 2, 1) := by decide +kernel
theorem d_X12_stuckFor_13 : decode (mB M_X12_stuckFor) 13 = .ok (.iload_n 2, 1) := by decide +kernel
theorem d_X12_stuckFor_14 : decode (mB M_X12_stuckFor) 14 = .ok (.aload_n 0, 1) := by decide +kernel
theorem d_X12_stuckFor_15 : decode (mB M_X12_stuckFor) 15 = .ok (.invokevirtual 130, 3) := by decide +kernel
theorem d_X12_stuckFor_18 : decode (mB M_X12_stuckFor) 18 = .ok (.if_icmp .ge 58, 3) := by decide +kernel
theorem d_X12_stuckFor_21 : decode (mB M_X12_stuckFor) 21 = .ok (.iload_n 1, 1) := by decide +kernel
theorem d_X12_stuckFor_22 : decode (mB M_X12_stuckFor) 22 = .ok (.iconst 1, 1) := by decide +kernel
theorem d_X12_stuckFor_23 : decode (mB M_X12_stuckFor) 23 = .ok (.if_icmp .ne 23, 3) := by decide +kernel
theorem d_X12_stuckFor_26 : decode (mB M_X12_stuckFor) 26 = .ok (.aload_n 0, 1) := by decide +kernel
theorem d_X12_stuckFor_27 : decode (mB M_X12_stuckFor) 27 = .ok (.iload_n 2, 1) := by decide +kernel
theorem d_X12_stuckFor_28 : decode (mB M_X12_stuckFor) 28 = .ok (.invokevirtual 124, 3) := by decide +kernel
theorem d_X12_stuckFor_31 : decode (mB M_X12_stuckFor) 31 = .ok (.ifCond .eq 39, 3) := by decide +kernel
theorem d_X12_stuckFor_34 : decode (mB M_X12_stuckFor) 34 = .ok (.aload_n 0, 1) := by decide +kernel
theorem d_X12_stuckFor_35 : decode (mB M_X12_stuckFor) 35 = .ok (.getfield 38, 3) := by decide +kernel
theorem d_X12_stuckFor_38 : decode (mB M_X12_stuckFor) 38 = .ok (.iload_n 2, 1) := by decide +kernel
theorem d_X12_stuckFor_39 : decode (mB M_X12_stuckFor) 39 = .ok (.baload, 1) := by decide +kernel
theorem d_X12_stuckFor_40 : decode (mB M_X12_stuckFor) 40 = .ok (.ifCond .eq 30, 3) := by decide +kernel
theorem d_X12_stuckFor_43 : decode (mB M_X12_stuckFor) 43 = .ok (.goto 20, 3) := by decide +kernel
theorem d_X12_stuckFor_46 : decode (mB M_X12_stuckFor) 46 = .ok (.aload_n 0, 1) := by decide +kernel
theorem d_X12_stuckFor_47 : decode (mB M_X12_stuckFor) 47 = .ok (.getfield 42, 3) := by decide +kernel
theorem d_X12_stuckFor_50 : decode (mB M_X12_stuckFor) 50 = .ok (.iload_n 2, 1) := by decide +kernel
theorem d_X12_stuckFor_51 : decode (mB M_X12_stuckFor) 51 = .ok (.baload, 1) := by decide +kernel
theorem d_X12_stuckFor_52 : decode (mB M_X12_stuckFor) 52 = .ok (.ifCond .eq 18, 3) := by decide +kernel
theorem d_X12_stuckFor_55 : decode (mB M_X12_stuckFor) 55 = .ok (.aload_n 0, 1) := by decide +kernel
theorem d_X12_stuckFor_56 : decode (mB M_X12_stuckFor) 56 = .ok (.iload_n 2, 1) := by decide +kernel
theorem d_X12_stuckFor_57 : decode (mB M_X12_stuckFor) 57 = .ok (.invokevirtual 127, 3) := by decide +kernel
theorem d_X12_stuckFor_60 : decode (mB M_X12_stuckFor) 60 = .ok (.ifCond .ne 10, 3) := by decide +kernel
theorem d_X12_stuckFor_63 : decode (mB M_X12_stuckFor) 63 = .ok (.aload_n 0, 1) := by decide +kernel
theorem d_X12_stuckFor_64 : decode (mB M_X12_stuckFor) 64 = .ok (.iload_n 2, 1) := by decide +kernel
theorem d_X12_stuckFor_65 : decode (mB M_X12_stuckFor) 65 = .ok (.putfield 154, 3) := by decide +kernel
theorem d_X12_stuckFor_68 : decode (mB M_X12_stuckFor) 68 = .ok (.iload_n 1, 1) := by decide +kernel
theorem d_X12_stuckFor_69 : decode (mB M_X12_stuckFor) 69 = .ok (.ireturn, 1) := by decide +kernel
theorem d_X12_stuckFor_70 : decode (mB M_X12_stuckFor) 70 = .ok (.iinc 2 1, 3) := by decide +kernel
theorem d_X12_stuckFor_73 : decode (mB M_X12_stuckFor) 73 = .ok (.goto (-60), 3) := by decide +kernel
theorem d_X12_stuckFor_76 : decode (mB M_X12_stuckFor) 76 = .ok (.iinc 1 1, 3) := by decide +kernel
theorem d_X12_stuckFor_79 : decode (mB M_X12_stuckFor) 79 = .ok (.goto (-73), 3) := by decide +kernel
theorem d_X12_stuckFor_82 : decode (mB M_X12_stuckFor) 82 = .ok (.iconst 0, 1) := by decide +kernel
theorem d_X12_stuckFor_83 : decode (mB M_X12_stuckFor) 83 = .ok (.ireturn, 1) := by decide +kernel
theorem l_m_stuckFor {E : mEnv} (hE : E.1.stackTraces = false) (C : List mE) (N : Nat) : ∀ n : Nat, (∀ (v1 : Int32) (t : xT) (r : Int32 × xT), f_stuckFor_L N n 6 v1 0 t = some r → Go E M_X12_stuckFor 0 (6, [some (.ref 0), some (.int v1), none], [], (mw t, C)) (.inr (.inl (some (.int r.1), (mw r.2, C))))) ∧ (∀ (v1 : Int32) (v2 : Int32) (t : xT) (r : Int32 × xT), f_stuckFor_L N n 13 v1 v2 t = some r → Go E M_X12_stuckFor 0 (13, [some (.ref 0), some (.int v1), some (.int v2)], [], (mw t, C)) (.inr (.inl (some (.int r.1), (mw r.2, C))))) := by
  intro n
  induction n with
  | zero => exact ⟨(fun v1 t r h => by cases h), (fun v1 v2 t r h => by cases h)⟩
  | succ n ih =>
    refine ⟨?_, ?_⟩
    · intro v1 t r h
      rw [u_stuckFor_6] at h
      refine g_iload_n d_X12_stuckFor_6 rfl ?_
      refine g_iconst (v := 3) d_X12_stuckFor_7 (by decide) ?_
      refine g_icmp_ge (tgt := 82) d_X12_stuckFor_8 (by decide) (fun c_8 => ?_) (fun c_8 => ?_)
      · replace h := opos c_8 h
        refine g_iconst (v := 0) d_X12_stuckFor_82 (by decide) ?_
        obtain rfl := osome h
        exact g_retI d_X12_stuckFor_83 rfl rfl rfl
      · replace h := oneg c_8 h
        refine g_iconst (v := 0) d_X12_stuckFor_11 (by decide) ?_
        refine g_istore_n (L' := [some (.ref 0), some (.int v1), some (.int 0)]) d_X12_stuckFor_12 rfl rfl ?_
        exact (ih).2 v1 0 t _ h
    · intro v1 v2 t r h
      rw [u_stuckFor_13] at h
      refine g_iload_n d_X12_stuckFor_13 rfl ?_
      refine g_aload_n d_X12_stuckFor_14 rfl ?_
      refine g_callV (As := []) d_X12_stuckFor_15 o_X12_size l_X12_130 ⟨Nat.le_of_ble_eq_true rfl, Nat.le_of_ble_eq_true rfl⟩ (c_m_size hE C t) (gm0 t C) rfl rfl rfl rfl rfl ?_ (Nat.zero_add _)
      refine g_icmp_ge (tgt := 76) d_X12_stuckFor_18 (by decide) (fun c_18 => ?_) (fun c_18 => ?_)
      · replace h := opos c_18 h
        refine g_iinc (v := (v1 + 1)) (L' := [some (.ref 0), some (.int (v1 + 1)), some (.int v2)]) d_X12_stuckFor_76 rfl rfl rfl ?_
        refine g_goto (tgt := 6) d_X12_stuckFor_79 (by decide) ?_
        refine g_drop [2] (L1 := [some (.ref 0), some (.int (v1 + 1)), none]) rfl ?_
        exact (ih).1 (v1 + 1) t _ h
      · replace h := oneg c_18 h
        refine g_iload_n d_X12_stuckFor_21 rfl ?_
        refine g_iconst (v := 1) d_X12_stuckFor_22 (by decide) ?_
        refine g_icmp_ne (tgt := 46) d_X12_stuckFor_23 (by decide) (fun c_23 => ?_) (fun c_23 => ?_)
        · replace h := oneg c_23 h
          refine g_aload_n d_X12_stuckFor_46 rfl ?_
          refine g_getf d_X12_stuckFor_47 f_X12_42 (gm0 t C) rfl ?_
          refine g_iload_n d_X12_stuckFor_50 rfl ?_
          obtain ⟨i_51, h⟩ := ochk h
          refine g_zald d_X12_stuckFor_51 (gm_10 t C) (inB_in i_51) ?_
          refine g_if_eq (tgt := 70) d_X12_stuckFor_52 (by decide) (fun c_52 => ?_) (fun c_52 => ?_)
          · replace h := opos c_52 h
            refine g_iinc (v := (v2 + 1)) (L' := [some (.ref 0), some (.int v1), some (.int (v2 + 1))]) d_X12_stuckFor_70 rfl rfl rfl ?_
            refine g_goto (tgt := 13) d_X12_stuckFor_73 (by decide) ?_
            exact (ih).2 v1 (v2 + 1) t _ h
          · replace h := oneg c_52 h
            refine g_aload_n d_X12_stuckFor_55 rfl ?_
            refine g_iload_n d_X12_stuckFor_56 rfl ?_
            obtain ⟨r_57, h_57, h⟩ := obind h
            refine g_callV (As := [.int v2]) d_X12_stuckFor_57 o_X12_isGoal l_X12_127 ⟨Nat.le_of_ble_eq_true rfl, Nat.le_of_ble_eq_true rfl⟩ (c_m_isGoal hE C t v2 _ h_57) (gm0 t C) rfl rfl rfl rfl rfl ?_ (Nat.zero_add _)
            refine g_if_ne (tgt := 70) d_X12_stuckFor_60 (by decide) (fun c_60 => ?_) (fun c_60 => ?_)
            · replace h := oneg c_60 h
              refine g_iinc (v := (v2 + 1)) (L' := [some (.ref 0), some (.int v1), some (.int (v2 + 1))]) d_X12_stuckFor_70 rfl rfl rfl ?_
              refine g_goto (tgt := 13) d_X12_stuckFor_73 (by decide) ?_
              exact (ih).2 v1 (v2 + 1) t _ h
            · replace h := opos c_60 h
              refine g_aload_n d_X12_stuckFor_63 rfl ?_
              refine g_iload_n d_X12_stuckFor_64 rfl ?_
              obtain ⟨t_65, e_65, h⟩ := olet h
              refine g_putI (w' := (mw t_65, C)) d_X12_stuckFor_65 p_X12_154 rfl rfl (gm0 t C) (Nat.le_of_ble_eq_true rfl) (by rw [e_65]; exact sc_21 t C _) ?_
              refine g_iload_n d_X12_stuckFor_68 rfl ?_
              obtain rfl := osome h
              exact g_retI d_X12_stuckFor_69 rfl rfl rfl
        · replace h := opos c_23 h
          refine g_aload_n d_X12_stuckFor_26 rfl ?_
          refine g_iload_n d_X12_stuckFor_27 rfl ?_
          obtain ⟨r_28, h_28, h⟩ := obind h
          refine g_callV (As := [.int v2]) d_X12_stuckFor_28 o_X12_isBox l_X12_124 ⟨Nat.le_of_ble_eq_true rfl, Nat.le_of_ble_eq_true rfl⟩ (c_m_isBox hE C t v2 _ h_28) (gm0 t C) rfl rfl rfl rfl rfl ?_ (Nat.zero_add _)
          refine g_if_eq (tgt := 70) d_X12_stuckFor_31 (by decide) (fun c_31 => ?_) (fun c_31 => ?_)
          · replace h := opos c_31 h
            refine g_iinc (v := (v2 + 1)) (L' := [some (.ref 0), some (.int v1), some (.int (v2 + 1))]) d_X12_stuckFor_70 rfl rfl rfl ?_
            refine g_goto (tgt := 13) d_X12_stuckFor_73 (by decide) ?_
            exact (ih).2 v1 (v2 + 1) t _ h
          · replace h := oneg c_31 h
            refine g_aload_n d_X12_stuckFor_34 rfl ?_
            refine g_getf d_X12_stuckFor_35 f_X12_38 (gm0 t C) rfl ?_
            refine g_iload_n d_X12_stuckFor_38 rfl ?_
            obtain ⟨i_39, h⟩ := ochk h
            refine g_zald d_X12_stuckFor_39 (gm_9 t C) (inB_in i_39) ?_
            refine g_if_eq (tgt := 70) d_X12_stuckFor_40 (by decide) (fun c_40 => ?_) (fun c_40 => ?_)
            · replace h := opos c_40 h
              refine g_iinc (v := (v2 + 1)) (L' := [some (.ref 0), some (.int v1), some (.int (v2 + 1))]) d_X12_stuckFor_70 rfl rfl rfl ?_
              refine g_goto (tgt := 13) d_X12_stuckFor_73 (by decide) ?_
              exact (ih).2 v1 (v2 + 1) t _ h
            · replace h := oneg c_40 h
              refine g_goto (tgt := 63) d_X12_stuckFor_43 (by decide) ?_
              refine g_aload_n d_X12_stuckFor_63 rfl ?_
              refine g_iload_n d_X12_stuckFor_64 rfl ?_
              obtain ⟨t_65, e_65, h⟩ := olet h
              refine g_putI (w' := (mw t_65, C)) d_X12_stuckFor_65 p_X12_154 rfl rfl (gm0 t C) (Nat.le_of_ble_eq_true rfl) (by rw [e_65]; exact sc_21 t C _) ?_
              refine g_iload_n d_X12_stuckFor_68 rfl ?_
              obtain rfl := osome h
              exact g_retI d_X12_stuckFor_69 rfl rfl rfl
theorem c_m_stuckFor {E : mEnv} (hE : E.1.stackTraces = false) (C : List mE) (N : Nat) (t : xT)  (r : Int32 × xT) (h : f_stuckFor N t = some r) : Rt E M_X12_stuckFor 0 [.ref 0] (mw t, C) (some (.int r.1)) (mw r.2, C) := by
  unfold f_stuckFor at h
  refine Rt.of hE rfl pn_X12 (Nat.le_of_ble_eq_true rfl) ?_
  refine g_eq (S' := (0, [some (.ref 0), none, none], [], (mw t, C))) rfl ?_
  refine g_aload_n d_X12_stuckFor_0 rfl ?_
  obtain ⟨r_1, h_1, h⟩ := obind h
  refine g_callV (As := []) d_X12_stuckFor_1 o_X12_freezes l_X12_151 ⟨Nat.le_of_ble_eq_true rfl, Nat.le_of_ble_eq_true rfl⟩ (c_m_freezes hE C N t _ h_1) (gm0 t C) rfl rfl rfl rfl rfl ?_ (Nat.zero_add _)
  refine g_iconst (v := 1) d_X12_stuckFor_4 (by decide) ?_
  refine g_istore_n (L' := [some (.ref 0), some (.int 1), none]) d_X12_stuckFor_5 rfl rfl ?_
  exact (l_m_stuckFor hE C N N).1 1 r_1 _ h
def f_stuck (N : Nat) (t : xT) (a0 : Int32) : Option (Int32 × xT) :=
  Option.bind (f_hasRoom t) fun r_2 =>
  Option.bind (if r_2 = 0 then (some (1 : Int32))
    else (some (0 : Int32))) fun (r_5 : Int32) =>
  Option.bind (some (ws t 9 r_5)) fun t_13 =>
  if (rs t_13 9) ≤ 0 then (Option.bind (f_dies N t_13) fun r_26 =>
    Option.bind (f_stuckFor N r_26) fun r_30 =>
    Option.bind (if a0 = 0 then (some (r_30.1, r_30.2))
      else (if r_30.1 = 0 then (Option.bind (f_fails r_30.2 1) fun r_48 =>
          some (r_48.1, r_48.2))
        else (some ((rs r_30.2 21), r_30.2)))) fun (r_35 : Int32 × xT) =>
    some (r_35.1, r_35.2))
  else (some ((0 : Int32), t_13))
theorem d_X12_stuck_0 : decode (mB M_X12_stuck) 0 = .ok (.aload_n 0, 1) := by decide +kernel
theorem d_X12_stuck_1 : decode (mB M_X12_stuck) 1 = .ok (.aload_n 0, 1) := by decide +kernel
theorem d_X12_stuck_2 : decode (mB M_X12_stuck) 2 = .ok (.invokevirtual 83, 3) := by decide +kernel
theorem d_X12_stuck_5 : decode (mB M_X12_stuck) 5 = .ok (.ifCond .eq 7, 3) := by decide +kernel
theorem d_X12_stuck_8 : decode (mB M_X12_stuck) 8 = .ok (.iconst 0, 1) := by decide +kernel
theorem d_X12_stuck_9 : decode (mB M_X12_stuck) 9 = .ok (.goto 4, 3) := by decide +kernel
theorem d_X12_stuck_12 : decode (mB M_X12_stuck) 12 = .ok (.iconst 1, 1) := by decide +kernel
theorem d_X12_stuck_13 : decode (mB M_X12_stuck) 13 = .ok (.putfield 73, 3) := by decide +kernel
theorem d_X12_stuck_16 : decode (mB M_X12_stuck) 16 = .ok (.aload_n 0, 1) := by decide +kernel
theorem d_X12_stuck_17 : decode (mB M_X12_stuck) 17 = .ok (.getfield 73, 3) := by decide +kernel
theorem d_X12_stuck_20 : decode (mB M_X12_stuck) 20 = .ok (.ifCond .le 5, 3) := by decide +kernel
theorem d_X12_stuck_23 : decode (mB M_X12_stuck) 23 = .ok (.iconst 0, 1) := by decide +kernel
theorem d_X12_stuck_24 : decode (mB M_X12_stuck) 24 = .ok (.ireturn, 1) := by decide +kernel
theorem d_X12_stuck_25 : decode (mB M_X12_stuck) 25 = .ok (.aload_n 0, 1) := by decide +kernel
theorem d_X12_stuck_26 : decode (mB M_X12_stuck) 26 = .ok (.invokevirtual 160, 3) := by decide +kernel
theorem d_X12_stuck_29 : decode (mB M_X12_stuck) 29 = .ok (.aload_n 0, 1) := by decide +kernel
theorem d_X12_stuck_30 : decode (mB M_X12_stuck) 30 = .ok (.invokevirtual 188, 3) := by decide +kernel
theorem d_X12_stuck_33 : decode (mB M_X12_stuck) 33 = .ok (.istore_n 2, 1) := by decide +kernel
theorem d_X12_stuck_34 : decode (mB M_X12_stuck) 34 = .ok (.iload_n 1, 1) := by decide +kernel
theorem d_X12_stuck_35 : decode (mB M_X12_stuck) 35 = .ok (.ifCond .ne 7, 3) := by decide +kernel
theorem d_X12_stuck_38 : decode (mB M_X12_stuck) 38 = .ok (.iload_n 2, 1) := by decide +kernel
theorem d_X12_stuck_39 : decode (mB M_X12_stuck) 39 = .ok (.goto 19, 3) := by decide +kernel
theorem d_X12_stuck_42 : decode (mB M_X12_stuck) 42 = .ok (.iload_n 2, 1) := by decide +kernel
theorem d_X12_stuck_43 : decode (mB M_X12_stuck) 43 = .ok (.ifCond .ne 11, 3) := by decide +kernel
theorem d_X12_stuck_46 : decode (mB M_X12_stuck) 46 = .ok (.aload_n 0, 1) := by decide +kernel
theorem d_X12_stuck_47 : decode (mB M_X12_stuck) 47 = .ok (.iconst 1, 1) := by decide +kernel
theorem d_X12_stuck_48 : decode (mB M_X12_stuck) 48 = .ok (.invokevirtual 114, 3) := by decide +kernel
theorem d_X12_stuck_51 : decode (mB M_X12_stuck) 51 = .ok (.goto 7, 3) := by decide +kernel
theorem d_X12_stuck_54 : decode (mB M_X12_stuck) 54 = .ok (.aload_n 0, 1) := by decide +kernel
theorem d_X12_stuck_55 : decode (mB M_X12_stuck) 55 = .ok (.getfield 154, 3) := by decide +kernel
theorem d_X12_stuck_58 : decode (mB M_X12_stuck) 58 = .ok (.ireturn, 1) := by decide +kernel
theorem c_m_stuck {E : mEnv} (hE : E.1.stackTraces = false) (C : List mE) (N : Nat) (t : xT) (a0 : Int32) (r : Int32 × xT) (h : f_stuck N t a0 = some r) : Rt E M_X12_stuck 0 [.ref 0, .int a0] (mw t, C) (some (.int r.1)) (mw r.2, C) := by
  unfold f_stuck at h
  refine Rt.of hE rfl pn_X12 (Nat.le_of_ble_eq_true rfl) ?_
  refine g_eq (S' := (0, [some (.ref 0), some (.int a0), none], [], (mw t, C))) rfl ?_
  refine g_aload_n d_X12_stuck_0 rfl ?_
  refine g_aload_n d_X12_stuck_1 rfl ?_
  obtain ⟨r_2, h_2, h⟩ := obind h
  refine g_callV (As := []) d_X12_stuck_2 o_X12_hasRoom l_X12_83 ⟨Nat.le_of_ble_eq_true rfl, Nat.le_of_ble_eq_true rfl⟩ (c_m_hasRoom hE C t _ h_2) (gm0 t C) rfl rfl rfl rfl rfl ?_ (Nat.zero_add _)
  obtain ⟨r_5, h_5, hh_5⟩ := obind h
  refine Go.trans0 (S1 := (13, [some (.ref 0), some (.int a0), none], [.int r_5, .ref 0], (mw t, C))) ?_ ?_
  · replace h := h_5
    clear hh_5
    refine g_if_eq (tgt := 12) d_X12_stuck_5 (by decide) (fun c_5 => ?_) (fun c_5 => ?_)
    · replace h := opos c_5 h
      refine g_iconst (v := 1) d_X12_stuck_12 (by decide) ?_
      obtain rfl := osome h
      exact g_end rfl
    · replace h := oneg c_5 h
      refine g_iconst (v := 0) d_X12_stuck_8 (by decide) ?_
      refine g_goto (tgt := 13) d_X12_stuck_9 (by decide) ?_
      obtain rfl := osome h
      exact g_end rfl
  replace h := hh_5
  obtain ⟨t_13, e_13, h⟩ := olet h
  refine g_putI (w' := (mw t_13, C)) d_X12_stuck_13 p_X12_73 rfl rfl (gm0 t C) (Nat.le_of_ble_eq_true rfl) (by rw [e_13]; exact sc_9 t C _) ?_
  refine g_aload_n d_X12_stuck_16 rfl ?_
  refine g_getf d_X12_stuck_17 f_X12_73 (gm0 t_13 C) rfl ?_
  refine g_if_le (tgt := 25) d_X12_stuck_20 (by decide) (fun c_20 => ?_) (fun c_20 => ?_)
  · replace h := opos c_20 h
    refine g_aload_n d_X12_stuck_25 rfl ?_
    obtain ⟨r_26, h_26, h⟩ := obind h
    refine g_callV (As := []) d_X12_stuck_26 o_X12_dies l_X12_160 ⟨Nat.le_of_ble_eq_true rfl, Nat.le_of_ble_eq_true rfl⟩ (c_m_dies hE C N t_13 _ h_26) (gm0 t_13 C) rfl rfl rfl rfl rfl ?_ (Nat.zero_add _)
    refine g_aload_n d_X12_stuck_29 rfl ?_
    obtain ⟨r_30, h_30, h⟩ := obind h
    refine g_callV (As := []) d_X12_stuck_30 o_X12_stuckFor l_X12_188 ⟨Nat.le_of_ble_eq_true rfl, Nat.le_of_ble_eq_true rfl⟩ (c_m_stuckFor hE C N r_26 _ h_30) (gm0 r_26 C) rfl rfl rfl rfl rfl ?_ (Nat.zero_add _)
    refine g_istore_n (L' := [some (.ref 0), some (.int a0), some (.int r_30.1)]) d_X12_stuck_33 rfl rfl ?_
    refine g_iload_n d_X12_stuck_34 rfl ?_
    obtain ⟨r_35, h_35, hh_35⟩ := obind h
    refine Go.trans0 (S1 := (58, [none, none, none], [.int r_35.1], (mw r_35.2, C))) ?_ ?_
    · replace h := h_35
      clear hh_35
      refine g_if_ne (tgt := 42) d_X12_stuck_35 (by decide) (fun c_35 => ?_) (fun c_35 => ?_)
      · replace h := oneg c_35 h
        refine g_iload_n d_X12_stuck_42 rfl ?_
        refine g_if_ne (tgt := 54) d_X12_stuck_43 (by decide) (fun c_43 => ?_) (fun c_43 => ?_)
        · replace h := oneg c_43 h
          refine g_aload_n d_X12_stuck_54 rfl ?_
          refine g_getf d_X12_stuck_55 f_X12_154 (gm0 r_30.2 C) rfl ?_
          obtain rfl := osome h
          exact g_drop [0, 1, 2] rfl (g_end rfl)
        · replace h := opos c_43 h
          refine g_aload_n d_X12_stuck_46 rfl ?_
          refine g_iconst (v := 1) d_X12_stuck_47 (by decide) ?_
          obtain ⟨r_48, h_48, h⟩ := obind h
          refine g_callV (As := [.int 1]) d_X12_stuck_48 o_X12_fails l_X12_114 ⟨Nat.le_of_ble_eq_true rfl, Nat.le_of_ble_eq_true rfl⟩ (c_m_fails hE C r_30.2 1 _ h_48) (gm0 r_30.2 C) rfl rfl rfl rfl rfl ?_ (Nat.zero_add _)
          refine g_goto (tgt := 58) d_X12_stuck_51 (by decide) ?_
          obtain rfl := osome h
          exact g_drop [0, 1, 2] rfl (g_end rfl)
      · replace h := opos c_35 h
        refine g_iload_n d_X12_stuck_38 rfl ?_
        refine g_goto (tgt := 58) d_X12_stuck_39 (by decide) ?_
        obtain rfl := osome h
        exact g_drop [0, 1, 2] rfl (g_end rfl)
    replace h := hh_35
    obtain rfl := osome h
    exact g_retI d_X12_stuck_58 rfl rfl rfl
  · replace h := oneg c_20 h
    refine g_iconst (v := 0) d_X12_stuck_23 (by decide) ?_
    obtain rfl := osome h
    exact g_retI d_X12_stuck_24 rfl rfl rfl
def f_plainSteps_L (N : Nat) : Nat → Nat → Int32 → Int32 → Int32 → xT → Option (xT)
  | 0, _, _, _, _, _ => none
  | n + 1, p, v1, v2, v3, t =>
    if p = 2 then (if (f_size t) ≤ v2 then (if inB v1 64 = true then (Option.bind (some (wa t 7 (upd (ra t 7) (Int32.toNatClampNeg v1) 0))) fun t_29 =>
        Option.bind (some (wa t_29 6 (upd (ra t_29 6) (Int32.toNatClampNeg 0) v1))) fun t_36 =>
        Option.bind (some (ws t_36 16 1)) fun t_39 =>
        f_plainSteps_L N n 44 0 0 0 t_39) else none)
      else (if inB v2 64 = true then (Option.bind (some (wa t 7 (upd (ra t 7) (Int32.toNatClampNeg v2) (-1)))) fun t_16 =>
        f_plainSteps_L N n 2 v1 (v2 + 1) 0 t_16) else none))
    else if p = 44 then (if (rs t 16) ≤ v2 then (some t)
      else (f_plainSteps_L N n 54 0 v2 0 t))
    else if p = 54 then (if 4 ≤ v3 then (f_plainSteps_L N n 44 0 (v2 + 1) 0 t)
      else (if inB v2 64 = true then (Option.bind (f_beside t ((ra t 6) (Int32.toNatClampNeg v2)) v3) fun r_67 =>
        Option.bind (f_isOpen t r_67) fun r_75 =>
        Option.bind (if r_75 = 0 then (some t)
          else (if inB r_67 64 = true then (if 0 ≤ ((ra t 7) (Int32.toNatClampNeg r_67)) then (some t)
            else (if inB v2 64 = true then (if inB ((ra t 6) (Int32.toNatClampNeg v2)) 64 = true then (if inB r_67 64 = true then (Option.bind (some (wa t 7 (upd (ra t 7) (Int32.toNatClampNeg r_67) (((ra t 7) (Int32.toNatClampNeg ((ra t 6) (Int32.toNatClampNeg v2)))) + 1)))) fun t_110 =>
              if inB (rs t_110 16) 64 = true then (Option.bind (some (wa t_110 6 (upd (ra t_110 6) (Int32.toNatClampNeg (rs t_110 16)) r_67))) fun t_121 =>
              Option.bind (some (ws t_121 16 ((rs t_121 16) + 1))) fun t_129 =>
              some t_129) else none) else none) else none) else none)) else none)) fun (r_78 : xT) =>
        f_plainSteps_L N n 54 0 v2 (v3 + 1) r_78) else none))
    else none
theorem u_plainSteps_2 (N n : Nat) (v1 : Int32) (v2 : Int32) (t : xT) : f_plainSteps_L N (n + 1) 2 v1 v2 0 t = (if (f_size t) ≤ v2 then (if inB v1 64 = true then (Option.bind (some (wa t 7 (upd (ra t 7) (Int32.toNatClampNeg v1) 0))) fun t_29 =>
      Option.bind (some (wa t_29 6 (upd (ra t_29 6) (Int32.toNatClampNeg 0) v1))) fun t_36 =>
      Option.bind (some (ws t_36 16 1)) fun t_39 =>
      f_plainSteps_L N n 44 0 0 0 t_39) else none)
    else (if inB v2 64 = true then (Option.bind (some (wa t 7 (upd (ra t 7) (Int32.toNatClampNeg v2) (-1)))) fun t_16 =>
      f_plainSteps_L N n 2 v1 (v2 + 1) 0 t_16) else none)) := rfl
theorem u_plainSteps_44 (N n : Nat) (v2 : Int32) (t : xT) : f_plainSteps_L N (n + 1) 44 0 v2 0 t = (if (rs t 16) ≤ v2 then (some t)
    else (f_plainSteps_L N n 54 0 v2 0 t)) := rfl
theorem u_plainSteps_54 (N n : Nat) (v2 : Int32) (v3 : Int32) (t : xT) : f_plainSteps_L N (n + 1) 54 0 v2 v3 t = (if 4 ≤ v3 then (f_plainSteps_L N n 44 0 (v2 + 1) 0 t)
    else (if inB v2 64 = true then (Option.bind (f_beside t ((ra t 6) (Int32.toNatClampNeg v2)) v3) fun r_67 =>
      Option.bind (f_isOpen t r_67) fun r_75 =>
      Option.bind (if r_75 = 0 then (some t)
        else (if inB r_67 64 = true then (if 0 ≤ ((ra t 7) (Int32.toNatClampNeg r_67)) then (some t)
          else (if inB v2 64 = true then (if inB ((ra t 6) (Int32.toNatClampNeg v2)) 64 = true then (if inB r_67 64 = true then (Option.bind (some (wa t 7 (upd (ra t 7) (Int32.toNatClampNeg r_67) (((ra t 7) (Int32.toNatClampNeg ((ra t 6) (Int32.toNatClampNeg v2)))) + 1)))) fun t_110 =>
            if inB (rs t_110 16) 64 = true then (Option.bind (some (wa t_110 6 (upd (ra t_110 6) (Int32.toNatClampNeg (rs t_110 16)) r_67))) fun t_121 =>
            Option.bind (some (ws t_121 16 ((rs t_121 16) + 1))) fun t_129 =>
            some t_129) else none) else none) else none) else none)) else none)) fun (r_78 : xT) =>
      f_plainSteps_L N n 54 0 v2 (v3 + 1) r_78) else none)) := rfl
def f_plainSteps (N : Nat) (t : xT) (a0 : Int32) : Option (xT) :=
  f_plainSteps_L N N 2 a0 0 0 t
theorem d_X12_plainSteps_0 : decode (mB M_X12_plainSteps) 0 = .ok (.iconst 0, 1) := by decide +kernel
theorem d_X12_plainSteps_1 : decode (mB M_X12_plainSteps) 1 = .ok (.istore_n 2, 1) := by decide +kernel
theorem d_X12_plainSteps_2 : decode (mB M_X12_plainSteps) 2 = .ok (.iload_n 2, 1) := by decide +kernel
theorem d_X12_plainSteps_3 : decode (mB M_X12_plainSteps) 3 = .ok (.aload_n 0, 1) := by decide +kernel
theorem d_X12_plainSteps_4 : decode (mB M_X12_plainSteps) 4 = .ok (.invokevirtual 130, 3) := by decide +kernel
theorem d_X12_plainSteps_7 : decode (mB M_X12_plainSteps) 7 = .ok (.if_icmp .ge 16, 3) := by decide +kernel
theorem d_X12_plainSteps_10 : decode (mB M_X12_plainSteps) 10 = .ok (.aload_n 0, 1) := by decide +kernel
theorem d_X12_plainSteps_11 : decode (mB M_X12_plainSteps) 11 = .ok (.getfield 32, 3) := by decide +kernel
theorem d_X12_plainSteps_14 : decode (mB M_X12_plainSteps) 14 = .ok (.iload_n 2, 1) := by decide +kernel
theorem d_X12_plainSteps_15 : decode (mB M_X12_plainSteps) 15 = .ok (.iconst (-1), 1) := by decide +kernel
theorem d_X12_plainSteps_16 : decode (mB M_X12_plainSteps) 16 = .ok (.iastore, 1) := by decide +kernel
theorem d_X12_plainSteps_17 : decode (mB M_X12_plainSteps) 17 = .ok (.iinc 2 1, 3) := by decide +kernel
theorem d_X12_plainSteps_20 : decode (mB M_X12_plainSteps) 20 = .ok (.goto (-18), 3) := by decide +kernel
theorem d_X12_plainSteps_23 : decode (mB M_X12_plainSteps) 23 = .ok (.aload_n 0, 1) := by decide +kernel
theorem d_X12_plainSteps_24 : decode (mB M_X12_plainSteps) 24 = .ok (.getfield 32, 3) := by decide +kernel
theorem d_X12_plainSteps_27 : decode (mB M_X12_plainSteps) 27 = .ok (.iload_n 1, 1) := by decide +kernel
theorem d_X12_plainSteps_28 : decode (mB M_X12_plainSteps) 28 = .ok (.iconst 0, 1) := by decide +kernel
theorem d_X12_plainSteps_29 : decode (mB M_X12_plainSteps) 29 = .ok (.iastore, 1) := by decide +kernel
theorem d_X12_plainSteps_30 : decode (mB M_X12_plainSteps) 30 = .ok (.aload_n 0, 1) := by decide +kernel
theorem d_X12_plainSteps_31 : decode (mB M_X12_plainSteps) 31 = .ok (.getfield 29, 3) := by decide +kernel
theorem d_X12_plainSteps_34 : decode (mB M_X12_plainSteps) 34 = .ok (.iconst 0, 1) := by decide +kernel
theorem d_X12_plainSteps_35 : decode (mB M_X12_plainSteps) 35 = .ok (.iload_n 1, 1) := by decide +kernel
theorem d_X12_plainSteps_36 : decode (mB M_X12_plainSteps) 36 = .ok (.iastore, 1) := by decide +kernel
theorem d_X12_plainSteps_37 : decode (mB M_X12_plainSteps) 37 = .ok (.aload_n 0, 1) := by decide +kernel
theorem d_X12_plainSteps_38 : decode (mB M_X12_plainSteps) 38 = .ok (.iconst 1, 1) := by decide +kernel
theorem d_X12_plainSteps_39 : decode (mB M_X12_plainSteps) 39 = .ok (.putfield 133, 3) := by decide +kernel
theorem d_X12_plainSteps_42 : decode (mB M_X12_plainSteps) 42 = .ok (.iconst 0, 1) := by decide +kernel
theorem d_X12_plainSteps_43 : decode (mB M_X12_plainSteps) 43 = .ok (.istore_n 2, 1) := by decide +kernel
theorem d_X12_plainSteps_44 : decode (mB M_X12_plainSteps) 44 = .ok (.iload_n 2, 1) := by decide +kernel
theorem d_X12_plainSteps_45 : decode (mB M_X12_plainSteps) 45 = .ok (.aload_n 0, 1) := by decide +kernel
theorem d_X12_plainSteps_46 : decode (mB M_X12_plainSteps) 46 = .ok (.getfield 133, 3) := by decide +kernel
theorem d_X12_plainSteps_49 : decode (mB M_X12_plainSteps) 49 = .ok (.if_icmp .ge 95, 3) := by decide +kernel
theorem d_X12_plainSteps_52 : decode (mB M_X12_plainSteps) 52 = .ok (.iconst 0, 1) := by decide +kernel
theorem d_X12_plainSteps_53 : decode (mB M_X12_plainSteps) 53 = .ok (.istore_n 3, 1) := by decide +kernel
theorem d_X12_plainSteps_54 : decode (mB M_X12_plainSteps) 54 = .ok (.iload_n 3, 1) := by decide +kernel
theorem d_X12_plainSteps_55 : decode (mB M_X12_plainSteps) 55 = .ok (.iconst 4, 1) := by decide +kernel
theorem d_X12_plainSteps_56 : decode (mB M_X12_plainSteps) 56 = .ok (.if_icmp .ge 82, 3) := by decide +kernel
theorem d_X12_plainSteps_59 : decode (mB M_X12_plainSteps) 59 = .ok (.aload_n 0, 1) := by decide +kernel
theorem d_X12_plainSteps_60 : decode (mB M_X12_plainSteps) 60 = .ok (.aload_n 0, 1) := by decide +kernel
theorem d_X12_plainSteps_61 : decode (mB M_X12_plainSteps) 61 = .ok (.getfield 29, 3) := by decide +kernel
theorem d_X12_plainSteps_64 : decode (mB M_X12_plainSteps) 64 = .ok (.iload_n 2, 1) := by decide +kernel
theorem d_X12_plainSteps_65 : decode (mB M_X12_plainSteps) 65 = .ok (.iaload, 1) := by decide +kernel
theorem d_X12_plainSteps_66 : decode (mB M_X12_plainSteps) 66 = .ok (.iload_n 3, 1) := by decide +kernel
theorem d_X12_plainSteps_67 : decode (mB M_X12_plainSteps) 67 = .ok (.invokevirtual 136, 3) := by decide +kernel
theorem d_X12_plainSteps_70 : decode (mB M_X12_plainSteps) 70 = .ok (.istore 4, 2) := by decide +kernel
theorem d_X12_plainSteps_72 : decode (mB M_X12_plainSteps) 72 = .ok (.aload_n 0, 1) := by decide +kernel
theorem d_X12_plainSteps_73 : decode (mB M_X12_plainSteps) 73 = .ok (.iload 4, 2) := by decide +kernel
theorem d_X12_plainSteps_75 : decode (mB M_X12_plainSteps) 75 = .ok (.invokevirtual 121, 3) := by decide +kernel
theorem d_X12_plainSteps_78 : decode (mB M_X12_plainSteps) 78 = .ok (.ifCond .eq 54, 3) := by decide +kernel
theorem d_X12_plainSteps_81 : decode (mB M_X12_plainSteps) 81 = .ok (.aload_n 0, 1) := by decide +kernel
theorem d_X12_plainSteps_82 : decode (mB M_X12_plainSteps) 82 = .ok (.getfield 32, 3) := by decide +kernel
theorem d_X12_plainSteps_85 : decode (mB M_X12_plainSteps) 85 = .ok (.iload 4, 2) := by decide +kernel
theorem d_X12_plainSteps_87 : decode (mB M_X12_plainSteps) 87 = .ok (.iaload, 1) := by decide +kernel
theorem d_X12_plainSteps_88 : decode (mB M_X12_plainSteps) 88 = .ok (.ifCond .ge 44, 3) := by decide +kernel
theorem d_X12_plainSteps_91 : decode (mB M_X12_plainSteps) 91 = .ok (.aload_n 0, 1) := by decide +kernel
theorem d_X12_plainSteps_92 : decode (mB M_X12_plainSteps) 92 = .ok (.getfield 32, 3) := by decide +kernel
theorem d_X12_plainSteps_95 : decode (mB M_X12_plainSteps) 95 = .ok (.iload 4, 2) := by decide +kernel
theorem d_X12_plainSteps_97 : decode (mB M_X12_plainSteps) 97 = .ok (.aload_n 0, 1) := by decide +kernel
theorem d_X12_plainSteps_98 : decode (mB M_X12_plainSteps) 98 = .ok (.getfield 32, 3) := by decide +kernel
theorem d_X12_plainSteps_101 : decode (mB M_X12_plainSteps) 101 = .ok (.aload_n 0, 1) := by decide +kernel
theorem d_X12_plainSteps_102 : decode (mB M_X12_plainSteps) 102 = .ok (.getfield 29, 3) := by decide +kernel
theorem d_X12_plainSteps_105 : decode (mB M_X12_plainSteps) 105 = .ok (.iload_n 2, 1) := by decide +kernel
theorem d_X12_plainSteps_106 : decode (mB M_X12_plainSteps) 106 = .ok (.iaload, 1) := by decide +kernel
theorem d_X12_plainSteps_107 : decode (mB M_X12_plainSteps) 107 = .ok (.iaload, 1) := by decide +kernel
theorem d_X12_plainSteps_108 : decode (mB M_X12_plainSteps) 108 = .ok (.iconst 1, 1) := by decide +kernel
theorem d_X12_plainSteps_109 : decode (mB M_X12_plainSteps) 109 = .ok (.iadd, 1) := by decide +kernel
theorem d_X12_plainSteps_110 : decode (mB M_X12_plainSteps) 110 = .ok (.iastore, 1) := by decide +kernel
theorem d_X12_plainSteps_111 : decode (mB M_X12_plainSteps) 111 = .ok (.aload_n 0, 1) := by decide +kernel
theorem d_X12_plainSteps_112 : decode (mB M_X12_plainSteps) 112 = .ok (.getfield 29, 3) := by decide +kernel
theorem d_X12_plainSteps_115 : decode (mB M_X12_plainSteps) 115 = .ok (.aload_n 0, 1) := by decide +kernel
theorem d_X12_plainSteps_116 : decode (mB M_X12_plainSteps) 116 = .ok (.getfield 133, 3) := by decide +kernel
theorem d_X12_plainSteps_119 : decode (mB M_X12_plainSteps) 119 = .ok (.iload 4, 2) := by decide +kernel
theorem d_X12_plainSteps_121 : decode (mB M_X12_plainSteps) 121 = .ok (.iastore, 1) := by decide +kernel
theorem d_X12_plainSteps_122 : decode (mB M_X12_plainSteps) 122 = .ok (.aload_n 0, 1) := by decide +kernel
theorem d_X12_plainSteps_123 : decode (mB M_X12_plainSteps) 123 = .ok (.dup, 1) := by decide +kernel
theorem d_X12_plainSteps_124 : decode (mB M_X12_plainSteps) 124 = .ok (.getfield 133, 3) := by decide +kernel
theorem d_X12_plainSteps_127 : decode (mB M_X12_plainSteps) 127 = .ok (.iconst 1, 1) := by decide +kernel
theorem d_X12_plainSteps_128 : decode (mB M_X12_plainSteps) 128 = .ok (.iadd, 1) := by decide +kernel
theorem d_X12_plainSteps_129 : decode (mB M_X12_plainSteps) 129 = .ok (.putfield 133, 3) := by decide +kernel
theorem d_X12_plainSteps_132 : decode (mB M_X12_plainSteps) 132 = .ok (.iinc 3 1, 3) := by decide +kernel
theorem d_X12_plainSteps_135 : decode (mB M_X12_plainSteps) 135 = .ok (.goto (-81), 3) := by decide +kernel
theorem d_X12_plainSteps_138 : decode (mB M_X12_plainSteps) 138 = .ok (.iinc 2 1, 3) := by decide +kernel
theorem d_X12_plainSteps_141 : decode (mB M_X12_plainSteps) 141 = .ok (.goto (-97), 3) := by decide +kernel
theorem d_X12_plainSteps_144 : decode (mB M_X12_plainSteps) 144 = .ok (.return_, 1) := by decide +kernel
theorem l_m_plainSteps {E : mEnv} (hE : E.1.stackTraces = false) (C : List mE) (N : Nat) : ∀ n : Nat, (∀ (v1 : Int32) (v2 : Int32) (t : xT) (r : xT), f_plainSteps_L N n 2 v1 v2 0 t = some r → Go E M_X12_plainSteps 0 (2, [some (.ref 0), some (.int v1), some (.int v2), none, none], [], (mw t, C)) (.inr (.inl (none, (mw r, C))))) ∧ (∀ (v2 : Int32) (t : xT) (r : xT), f_plainSteps_L N n 44 0 v2 0 t = some r → Go E M_X12_plainSteps 0 (44, [some (.ref 0), none, some (.int v2), none, none], [], (mw t, C)) (.inr (.inl (none, (mw r, C))))) ∧ (∀ (v2 : Int32) (v3 : Int32) (t : xT) (r : xT), f_plainSteps_L N n 54 0 v2 v3 t = some r → Go E M_X12_plainSteps 0 (54, [some (.ref 0), none, some (.int v2), some (.int v3), none], [], (mw t, C)) (.inr (.inl (none, (mw r, C))))) := by
  intro n
  induction n with
  | zero => exact ⟨(fun v1 v2 t r h => by cases h), (fun v2 t r h => by cases h), (fun v2 v3 t r h => by cases h)⟩
  | succ n ih =>
    refine ⟨?_, ?_, ?_⟩
    · intro v1 v2 t r h
      rw [u_plainSteps_2] at h
      refine g_iload_n d_X12_plainSteps_2 rfl ?_
      refine g_aload_n d_X12_plainSteps_3 rfl ?_
      refine g_callV (As := []) d_X12_plainSteps_4 o_X12_size l_X12_130 ⟨Nat.le_of_ble_eq_true rfl, Nat.le_of_ble_eq_true rfl⟩ (c_m_size hE C t) (gm0 t C) rfl rfl rfl rfl rfl ?_ (Nat.zero_add _)
      refine g_icmp_ge (tgt := 23) d_X12_plainSteps_7 (by decide) (fun c_7 => ?_) (fun c_7 => ?_)
      · replace h := opos c_7 h
        refine g_aload_n d_X12_plainSteps_23 rfl ?_
        refine g_getf d_X12_plainSteps_24 f_X12_32 (gm0 t C) rfl ?_
        refine g_iload_n d_X12_plainSteps_27 rfl ?_
        refine g_iconst (v := 0) d_X12_plainSteps_28 (by decide) ?_
        obtain ⟨i_29, h⟩ := ochk h
        obtain ⟨t_29, e_29, h⟩ := olet h
        refine g_iast (w' := (mw t_29, C)) d_X12_plainSteps_29 (gm_7 t C) (inB_in i_29) (by rw [e_29]; exact st_7 t C _) ?_
        refine g_aload_n d_X12_plainSteps_30 rfl ?_
        refine g_getf d_X12_plainSteps_31 f_X12_29 (gm0 t_29 C) rfl ?_
        refine g_iconst (v := 0) d_X12_plainSteps_34 (by decide) ?_
        refine g_iload_n d_X12_plainSteps_35 rfl ?_
        obtain ⟨t_36, e_36, h⟩ := olet h
        refine g_iast (w' := (mw t_36, C)) d_X12_plainSteps_36 (gm_6 t_29 C) (inB_in (by decide)) (by rw [e_36]; exact st_6 t_29 C _) ?_
        refine g_aload_n d_X12_plainSteps_37 rfl ?_
        refine g_iconst (v := 1) d_X12_plainSteps_38 (by decide) ?_
        obtain ⟨t_39, e_39, h⟩ := olet h
        refine g_putI (w' := (mw t_39, C)) d_X12_plainSteps_39 p_X12_133 rfl rfl (gm0 t_36 C) (Nat.le_of_ble_eq_true rfl) (by rw [e_39]; exact sc_16 t_36 C _) ?_
        refine g_iconst (v := 0) d_X12_plainSteps_42 (by decide) ?_
        refine g_istore_n (L' := [some (.ref 0), some (.int v1), some (.int 0), none, none]) d_X12_plainSteps_43 rfl rfl ?_
        refine g_drop [1] (L1 := [some (.ref 0), none, some (.int 0), none, none]) rfl ?_
        exact (ih).2.1 0 t_39 _ h
      · replace h := oneg c_7 h
        refine g_aload_n d_X12_plainSteps_10 rfl ?_
        refine g_getf d_X12_plainSteps_11 f_X12_32 (gm0 t C) rfl ?_
        refine g_iload_n d_X12_plainSteps_14 rfl ?_
        refine g_iconst (v := (-1)) d_X12_plainSteps_15 (by decide) ?_
        obtain ⟨i_16, h⟩ := ochk h
        obtain ⟨t_16, e_16, h⟩ := olet h
        refine g_iast (w' := (mw t_16, C)) d_X12_plainSteps_16 (gm_7 t C) (inB_in i_16) (by rw [e_16]; exact st_7 t C _) ?_
        refine g_iinc (v := (v2 + 1)) (L' := [some (.ref 0), some (.int v1), some (.int (v2 + 1)), none, none]) d_X12_plainSteps_17 rfl rfl rfl ?_
        refine g_goto (tgt := 2) d_X12_plainSteps_20 (by decide) ?_
        exact (ih).1 v1 (v2 + 1) t_16 _ h
    · intro v2 t r h
      rw [u_plainSteps_44] at h
      refine g_iload_n d_X12_plainSteps_44 rfl ?_
      refine g_aload_n d_X12_plainSteps_45 rfl ?_
      refine g_getf d_X12_plainSteps_46 f_X12_133 (gm0 t C) rfl ?_
      refine g_icmp_ge (tgt := 144) d_X12_plainSteps_49 (by decide) (fun c_49 => ?_) (fun c_49 => ?_)
      · replace h := opos c_49 h
        obtain rfl := osome h
        exact g_retV d_X12_plainSteps_144 rfl rfl
      · replace h := oneg c_49 h
        refine g_iconst (v := 0) d_X12_plainSteps_52 (by decide) ?_
        refine g_istore_n (L' := [some (.ref 0), none, some (.int v2), some (.int 0), none]) d_X12_plainSteps_53 rfl rfl ?_
        exact (ih).2.2 v2 0 t _ h
    · intro v2 v3 t r h
      rw [u_plainSteps_54] at h
      refine g_iload_n d_X12_plainSteps_54 rfl ?_
      refine g_iconst (v := 4) d_X12_plainSteps_55 (by decide) ?_
      refine g_icmp_ge (tgt := 138) d_X12_plainSteps_56 (by decide) (fun c_56 => ?_) (fun c_56 => ?_)
      · replace h := opos c_56 h
        refine g_iinc (v := (v2 + 1)) (L' := [some (.ref 0), none, some (.int (v2 + 1)), some (.int v3), none]) d_X12_plainSteps_138 rfl rfl rfl ?_
        refine g_goto (tgt := 44) d_X12_plainSteps_141 (by decide) ?_
        refine g_drop [3] (L1 := [some (.ref 0), none, some (.int (v2 + 1)), none, none]) rfl ?_
        exact (ih).2.1 (v2 + 1) t _ h
      · replace h := oneg c_56 h
        refine g_aload_n d_X12_plainSteps_59 rfl ?_
        refine g_aload_n d_X12_plainSteps_60 rfl ?_
        refine g_getf d_X12_plainSteps_61 f_X12_29 (gm0 t C) rfl ?_
        refine g_iload_n d_X12_plainSteps_64 rfl ?_
        obtain ⟨i_65, h⟩ := ochk h
        refine g_iald d_X12_plainSteps_65 (gm_6 t C) (inB_in i_65) ?_
        refine g_iload_n d_X12_plainSteps_66 rfl ?_
        obtain ⟨r_67, h_67, h⟩ := obind h
        refine g_callV (As := [.int ((ra t 6) (Int32.toNatClampNeg v2)), .int v3]) d_X12_plainSteps_67 o_X12_beside l_X12_136 ⟨Nat.le_of_ble_eq_true rfl, Nat.le_of_ble_eq_true rfl⟩ (c_m_beside hE C t ((ra t 6) (Int32.toNatClampNeg v2)) v3 _ h_67) (gm0 t C) rfl rfl rfl rfl rfl ?_ (Nat.zero_add _)
        refine g_istore (L' := [some (.ref 0), none, some (.int v2), some (.int v3), some (.int r_67)]) d_X12_plainSteps_70 rfl rfl ?_
        refine g_aload_n d_X12_plainSteps_72 rfl ?_
        refine g_iload d_X12_plainSteps_73 rfl ?_
        obtain ⟨r_75, h_75, h⟩ := obind h
        refine g_callV (As := [.int r_67]) d_X12_plainSteps_75 o_X12_isOpen l_X12_121 ⟨Nat.le_of_ble_eq_true rfl, Nat.le_of_ble_eq_true rfl⟩ (c_m_isOpen hE C t r_67 _ h_75) (gm0 t C) rfl rfl rfl rfl rfl ?_ (Nat.zero_add _)
        obtain ⟨r_78, h_78, hh_78⟩ := obind h
        refine Go.trans0 (S1 := (132, [some (.ref 0), none, some (.int v2), some (.int v3), none], [], (mw r_78, C))) ?_ ?_
        · replace h := h_78
          clear hh_78
          refine g_if_eq (tgt := 132) d_X12_plainSteps_78 (by decide) (fun c_78 => ?_) (fun c_78 => ?_)
          · replace h := opos c_78 h
            obtain rfl := osome h
            exact g_drop [4] rfl (g_end rfl)
          · replace h := oneg c_78 h
            refine g_aload_n d_X12_plainSteps_81 rfl ?_
            refine g_getf d_X12_plainSteps_82 f_X12_32 (gm0 t C) rfl ?_
            refine g_iload d_X12_plainSteps_85 rfl ?_
            obtain ⟨i_87, h⟩ := ochk h
            refine g_iald d_X12_plainSteps_87 (gm_7 t C) (inB_in i_87) ?_
            refine g_if_ge (tgt := 132) d_X12_plainSteps_88 (by decide) (fun c_88 => ?_) (fun c_88 => ?_)
            · replace h := opos c_88 h
              obtain rfl := osome h
              exact g_drop [4] rfl (g_end rfl)
            · replace h := oneg c_88 h
              refine g_aload_n d_X12_plainSteps_91 rfl ?_
              refine g_getf d_X12_plainSteps_92 f_X12_32 (gm0 t C) rfl ?_
              refine g_iload d_X12_plainSteps_95 rfl ?_
              refine g_aload_n d_X12_plainSteps_97 rfl ?_
              refine g_getf d_X12_plainSteps_98 f_X12_32 (gm0 t C) rfl ?_
              refine g_aload_n d_X12_plainSteps_101 rfl ?_
              refine g_getf d_X12_plainSteps_102 f_X12_29 (gm0 t C) rfl ?_
              refine g_iload_n d_X12_plainSteps_105 rfl ?_
              obtain ⟨i_106, h⟩ := ochk h
              refine g_iald d_X12_plainSteps_106 (gm_6 t C) (inB_in i_106) ?_
              obtain ⟨i_107, h⟩ := ochk h
              refine g_iald d_X12_plainSteps_107 (gm_7 t C) (inB_in i_107) ?_
              refine g_iconst (v := 1) d_X12_plainSteps_108 (by decide) ?_
              refine g_iadd d_X12_plainSteps_109 ?_
              obtain ⟨i_110, h⟩ := ochk h
              obtain ⟨t_110, e_110, h⟩ := olet h
              refine g_iast (w' := (mw t_110, C)) d_X12_plainSteps_110 (gm_7 t C) (inB_in i_110) (by rw [e_110]; exact st_7 t C _) ?_
              refine g_aload_n d_X12_plainSteps_111 rfl ?_
              refine g_getf d_X12_plainSteps_112 f_X12_29 (gm0 t_110 C) rfl ?_
              refine g_aload_n d_X12_plainSteps_115 rfl ?_
              refine g_getf d_X12_plainSteps_116 f_X12_133 (gm0 t_110 C) rfl ?_
              refine g_iload d_X12_plainSteps_119 rfl ?_
              obtain ⟨i_121, h⟩ := ochk h
              obtain ⟨t_121, e_121, h⟩ := olet h
              refine g_iast (w' := (mw t_121, C)) d_X12_plainSteps_121 (gm_6 t_110 C) (inB_in i_121) (by rw [e_121]; exact st_6 t_110 C _) ?_
              refine g_aload_n d_X12_plainSteps_122 rfl ?_
              refine g_dup d_X12_plainSteps_123 rfl ?_
              refine g_getf d_X12_plainSteps_124 f_X12_133 (gm0 t_121 C) rfl ?_
              refine g_iconst (v := 1) d_X12_plainSteps_127 (by decide) ?_
              refine g_iadd d_X12_plainSteps_128 ?_
              obtain ⟨t_129, e_129, h⟩ := olet h
              refine g_putI (w' := (mw t_129, C)) d_X12_plainSteps_129 p_X12_133 rfl rfl (gm0 t_121 C) (Nat.le_of_ble_eq_true rfl) (by rw [e_129]; exact sc_16 t_121 C _) ?_
              obtain rfl := osome h
              exact g_drop [4] rfl (g_end rfl)
        replace h := hh_78
        refine g_iinc (v := (v3 + 1)) (L' := [some (.ref 0), none, some (.int v2), some (.int (v3 + 1)), none]) d_X12_plainSteps_132 rfl rfl rfl ?_
        refine g_goto (tgt := 54) d_X12_plainSteps_135 (by decide) ?_
        exact (ih).2.2 v2 (v3 + 1) r_78 _ h
theorem c_m_plainSteps {E : mEnv} (hE : E.1.stackTraces = false) (C : List mE) (N : Nat) (t : xT) (a0 : Int32) (r : xT) (h : f_plainSteps N t a0 = some r) : Rt E M_X12_plainSteps 0 [.ref 0, .int a0] (mw t, C) none (mw r, C) := by
  unfold f_plainSteps at h
  refine Rt.of hE rfl pn_X12 (Nat.le_of_ble_eq_true rfl) ?_
  refine g_eq (S' := (0, [some (.ref 0), some (.int a0), none, none, none], [], (mw t, C))) rfl ?_
  refine g_iconst (v := 0) d_X12_plainSteps_0 (by decide) ?_
  refine g_istore_n (L' := [some (.ref 0), some (.int a0), some (.int 0), none, none]) d_X12_plainSteps_1 rfl rfl ?_
  exact (l_m_plainSteps hE C N N).1 a0 0 t _ h
def f_ordered_L (N : Nat) : Nat → Nat → Int32 → Int32 → Int32 → Int32 → Int32 → xT → Option (Int32 × xT)
  | 0, _, _, _, _, _, _, _ => none
  | n + 1, p, v1, v2, v3, v4, v5, t =>
    if p = 7 then (if v2 ≤ v3 then (Option.bind (f_plainSteps N t (rs t 24)) fun r_35 =>
        f_ordered_L N n 40 v1 v2 0 0 0 r_35)
      else (if inB v3 64 = true then (if inB v3 64 = true then (Option.bind (some (wa t 13 (upd (ra t 13) (Int32.toNatClampNeg v3) ((ra t 6) (Int32.toNatClampNeg v3))))) fun t_23 =>
        f_ordered_L N n 7 v1 v2 (v3 + 1) 0 0 t_23) else none) else none))
    else if p = 40 then (if v2 ≤ v3 then (some (((-1) : Int32), t))
      else (f_ordered_L N n 51 v1 v2 v3 0 0 t))
    else if p = 51 then (if v2 ≤ v5 then (if v4 = v1 then (if inB v3 64 = true then (some (((ra t 13) (Int32.toNatClampNeg v3)), t)) else none)
        else (f_ordered_L N n 40 v1 v2 (v3 + 1) 0 0 t))
      else (if inB v5 64 = true then (if inB ((ra t 13) (Int32.toNatClampNeg v5)) 64 = true then (if inB v3 64 = true then (if inB ((ra t 13) (Int32.toNatClampNeg v3)) 64 = true then (Option.bind (if 0 < (((ra t 7) (Int32.toNatClampNeg ((ra t 13) (Int32.toNatClampNeg v5)))) - ((ra t 7) (Int32.toNatClampNeg ((ra t 13) (Int32.toNatClampNeg v3))))) then (some (1 : Int32))
          else (if (((ra t 7) (Int32.toNatClampNeg ((ra t 13) (Int32.toNatClampNeg v5)))) - ((ra t 7) (Int32.toNatClampNeg ((ra t 13) (Int32.toNatClampNeg v3))))) = 0 then (if inB v5 64 = true then (if inB v3 64 = true then (if ((ra t 13) (Int32.toNatClampNeg v3)) ≤ ((ra t 13) (Int32.toNatClampNeg v5)) then (some (0 : Int32))
              else (some (1 : Int32))) else none) else none)
            else (some (0 : Int32)))) fun (r_87 : Int32) =>
        f_ordered_L N n 51 v1 v2 v3 (v4 + r_87) (v5 + 1) t) else none) else none) else none) else none))
    else none
theorem u_ordered_7 (N n : Nat) (v1 : Int32) (v2 : Int32) (v3 : Int32) (t : xT) : f_ordered_L N (n + 1) 7 v1 v2 v3 0 0 t = (if v2 ≤ v3 then (Option.bind (f_plainSteps N t (rs t 24)) fun r_35 =>
      f_ordered_L N n 40 v1 v2 0 0 0 r_35)
    else (if inB v3 64 = true then (if inB v3 64 = true then (Option.bind (some (wa t 13 (upd (ra t 13) (Int32.toNatClampNeg v3) ((ra t 6) (Int32.toNatClampNeg v3))))) fun t_23 =>
      f_ordered_L N n 7 v1 v2 (v3 + 1) 0 0 t_23) else none) else none)) := rfl
theorem u_ordered_40 (N n : Nat) (v1 : Int32) (v2 : Int32) (v3 : Int32) (t : xT) : f_ordered_L N (n + 1) 40 v1 v2 v3 0 0 t = (if v2 ≤ v3 then (some (((-1) : Int32), t))
    else (f_ordered_L N n 51 v1 v2 v3 0 0 t)) := rfl
theorem u_ordered_51 (N n : Nat) (v1 : Int32) (v2 : Int32) (v3 : Int32) (v4 : Int32) (v5 : Int32) (t : xT) : f_ordered_L N (n + 1) 51 v1 v2 v3 v4 v5 t = (if v2 ≤ v5 then (if v4 = v1 then (if inB v3 64 = true then (some (((ra t 13) (Int32.toNatClampNeg v3)), t)) else none)
      else (f_ordered_L N n 40 v1 v2 (v3 + 1) 0 0 t))
    else (if inB v5 64 = true then (if inB ((ra t 13) (Int32.toNatClampNeg v5)) 64 = true then (if inB v3 64 = true then (if inB ((ra t 13) (Int32.toNatClampNeg v3)) 64 = true then (Option.bind (if 0 < (((ra t 7) (Int32.toNatClampNeg ((ra t 13) (Int32.toNatClampNeg v5)))) - ((ra t 7) (Int32.toNatClampNeg ((ra t 13) (Int32.toNatClampNeg v3))))) then (some (1 : Int32))
        else (if (((ra t 7) (Int32.toNatClampNeg ((ra t 13) (Int32.toNatClampNeg v5)))) - ((ra t 7) (Int32.toNatClampNeg ((ra t 13) (Int32.toNatClampNeg v3))))) = 0 then (if inB v5 64 = true then (if inB v3 64 = true then (if ((ra t 13) (Int32.toNatClampNeg v3)) ≤ ((ra t 13) (Int32.toNatClampNeg v5)) then (some (0 : Int32))
            else (some (1 : Int32))) else none) else none)
          else (some (0 : Int32)))) fun (r_87 : Int32) =>
      f_ordered_L N n 51 v1 v2 v3 (v4 + r_87) (v5 + 1) t) else none) else none) else none) else none)) := rfl
def f_ordered (N : Nat) (t : xT) (a0 : Int32) : Option (Int32 × xT) :=
  f_ordered_L N N 7 a0 (rs t 16) 0 0 0 t
theorem d_X12_ordered_0 : decode (mB M_X12_ordered) 0 = .ok (.aload_n 0, 1) := by decide +kernel
theorem d_X12_ordered_1 : decode (mB M_X12_ordered) 1 = .ok (.getfield 133, 3) := by decide +kernel
theorem d_X12_ordered_4 : decode (mB M_X12_ordered) 4 = .ok (.istore_n 2, 1) := by decide +kernel
theorem d_X12_ordered_5 : decode (mB M_X12_ordered) 5 = .ok (.iconst 0, 1) := by decide +kernel
theorem d_X12_ordered_6 : decode (mB M_X12_ordered) 6 = .ok (.istore_n 3, 1) := by decide +kernel
theorem d_X12_ordered_7 : decode (mB M_X12_ordered) 7 = .ok (.iload_n 3, 1) := by decide +kernel
theorem d_X12_ordered_8 : decode (mB M_X12_ordered) 8 = .ok (.iload_n 2, 1) := by decide +kernel
theorem d_X12_ordered_9 : decode (mB M_X12_ordered) 9 = .ok (.if_icmp .ge 21, 3) := by decide +kernel
theorem d_X12_ordered_12 : decode (mB M_X12_ordered) 12 = .ok (.aload_n 0, 1) := by decide +kernel
theorem d_X12_ordered_13 : decode (mB M_X12_ordered) 13 = .ok (.getfield 51, 3) := by decide +kernel
theorem d_X12_ordered_16 : decode (mB M_X12_ordered) 16 = .ok (.iload_n 3, 1) := by decide +kernel
theorem d_X12_ordered_17 : decode (mB M_X12_ordered) 17 = .ok (.aload_n 0, 1) := by decide +kernel
theorem d_X12_ordered_18 : decode (mB M_X12_ordered) 18 = .ok (.getfield 29, 3) := by decide +kernel
theorem d_X12_ordered_21 : decode (mB M_X12_ordered) 21 = .ok (.iload_n 3, 1) := by decide +kernel
theorem d_X12_ordered_22 : decode (mB M_X12_ordered) 22 = .ok (.iaload, 1) := by decide +kernel
theorem d_X12_ordered_23 : decode (mB M_X12_ordered) 23 = .ok (.iastore, 1) := by decide +kernel
theorem d_X12_ordered_24 : decode (mB M_X12_ordered) 24 = .ok (.iinc 3 1, 3) := by decide +kernel
theorem d_X12_ordered_27 : decode (mB M_X12_ordered) 27 = .ok (.goto (-20), 3) := by decide +kernel
theorem d_X12_ordered_30 : decode (mB M_X12_ordered) 30 = .ok (.aload_n 0, 1) := by decide +kernel
theorem d_X12_ordered_31 : decode (mB M_X12_ordered) 31 = .ok (.aload_n 0, 1) := by decide +kernel
theorem d_X12_ordered_32 : decode (mB M_X12_ordered) 32 = .ok (.getfield 191, 3) := by decide +kernel
theorem d_X12_ordered_35 : decode (mB M_X12_ordered) 35 = .ok (.invokevirtual 197, 3) := by decide +kernel
theorem d_X12_ordered_38 : decode (mB M_X12_ordered) 38 = .ok (.iconst 0, 1) := by decide +kernel
theorem d_X12_ordered_39 : decode (mB M_X12_ordered) 39 = .ok (.istore_n 3, 1) := by decide +kernel
theorem d_X12_ordered_40 : decode (mB M_X12_ordered) 40 = .ok (.iload_n 3, 1) := by decide +kernel
theorem d_X12_ordered_41 : decode (mB M_X12_ordered) 41 = .ok (.iload_n 2, 1) := by decide +kernel
theorem d_X12_ordered_42 : decode (mB M_X12_ordered) 42 = .ok (.if_icmp .ge 102, 3) := by decide +kernel
theorem d_X12_ordered_45 : decode (mB M_X12_ordered) 45 = .ok (.iconst 0, 1) := by decide +kernel
theorem d_X12_ordered_46 : decode (mB M_X12_ordered) 46 = .ok (.istore 4, 2) := by decide +kernel
theorem d_X12_ordered_48 : decode (mB M_X12_ordered) 48 = .ok (.iconst 0, 1) := by decide +kernel
theorem d_X12_ordered_49 : decode (mB M_X12_ordered) 49 = .ok (.istore 5, 2) := by decide +kernel
theorem d_X12_ordered_51 : decode (mB M_X12_ordered) 51 = .ok (.iload 5, 2) := by decide +kernel
theorem d_X12_ordered_53 : decode (mB M_X12_ordered) 53 = .ok (.iload_n 2, 1) := by decide +kernel
theorem d_X12_ordered_54 : decode (mB M_X12_ordered) 54 = .ok (.if_icmp .ge 71, 3) := by decide +kernel
theorem d_X12_ordered_57 : decode (mB M_X12_ordered) 57 = .ok (.aload_n 0, 1) := by decide +kernel
theorem d_X12_ordered_58 : decode (mB M_X12_ordered) 58 = .ok (.getfield 32, 3) := by decide +kernel
theorem d_X12_ordered_61 : decode (mB M_X12_ordered) 61 = .ok (.aload_n 0, 1) := by decide +kernel
theorem d_X12_ordered_62 : decode (mB M_X12_ordered) 62 = .ok (.getfield 51, 3) := by decide +kernel
theorem d_X12_ordered_65 : decode (mB M_X12_ordered) 65 = .ok (.iload 5, 2) := by decide +kernel
theorem d_X12_ordered_67 : decode (mB M_X12_ordered) 67 = .ok (.iaload, 1) := by decide +kernel
theorem d_X12_ordered_68 : decode (mB M_X12_ordered) 68 = .ok (.iaload, 1) := by decide +kernel
theorem d_X12_ordered_69 : decode (mB M_X12_ordered) 69 = .ok (.aload_n 0, 1) := by decide +kernel
theorem d_X12_ordered_70 : decode (mB M_X12_ordered) 70 = .ok (.getfield 32, 3) := by decide +kernel
theorem d_X12_ordered_73 : decode (mB M_X12_ordered) 73 = .ok (.aload_n 0, 1) := by decide +kernel
theorem d_X12_ordered_74 : decode (mB M_X12_ordered) 74 = .ok (.getfield 51, 3) := by decide +kernel
theorem d_X12_ordered_77 : decode (mB M_X12_ordered) 77 = .ok (.iload_n 3, 1) := by decide +kernel
theorem d_X12_ordered_78 : decode (mB M_X12_ordered) 78 = .ok (.iaload, 1) := by decide +kernel
theorem d_X12_ordered_79 : decode (mB M_X12_ordered) 79 = .ok (.iaload, 1) := by decide +kernel
theorem d_X12_ordered_80 : decode (mB M_X12_ordered) 80 = .ok (.isub, 1) := by decide +kernel
theorem d_X12_ordered_81 : decode (mB M_X12_ordered) 81 = .ok (.istore 6, 2) := by decide +kernel
theorem d_X12_ordered_83 : decode (mB M_X12_ordered) 83 = .ok (.iload 4, 2) := by decide +kernel
theorem d_X12_ordered_85 : decode (mB M_X12_ordered) 85 = .ok (.iload 6, 2) := by decide +kernel
theorem d_X12_ordered_87 : decode (mB M_X12_ordered) 87 = .ok (.ifCond .gt 24, 3) := by decide +kernel
theorem d_X12_ordered_90 : decode (mB M_X12_ordered) 90 = .ok (.iload 6, 2) := by decide +kernel
theorem d_X12_ordered_92 : decode (mB M_X12_ordered) 92 = .ok (.ifCond .ne 23, 3) := by decide +kernel
theorem d_X12_ordered_95 : decode (mB M_X12_ordered) 95 = .ok (.aload_n 0, 1) := by decide +kernel
theorem d_X12_ordered_96 : decode (mB M_X12_ordered) 96 = .ok (.getfield 51, 3) := by decide +kernel
theorem d_X12_ordered_99 : decode (mB M_X12_ordered) 99 = .ok (.iload 5, 2) := by decide +kernel
theorem d_X12_ordered_101 : decode (mB M_X12_ordered) 101 = .ok (.iaload, 1) := by decide +kernel
theorem d_X12_ordered_102 : decode (mB M_X12_ordered) 102 = .ok (.aload_n 0, 1) := by decide +kernel
theorem d_X12_ordered_103 : decode (mB M_X12_ordered) 103 = .ok (.getfield 51, 3) := by decide +kernel
theorem d_X12_ordered_106 : decode (mB M_X12_ordered) 106 = .ok (.iload_n 3, 1) := by decide +kernel
theorem d_X12_ordered_107 : decode (mB M_X12_ordered) 107 = .ok (.iaload, 1) := by decide +kernel
theorem d_X12_ordered_108 : decode (mB M_X12_ordered) 108 = .ok (.if_icmp .ge 7, 3) := by decide +kernel
theorem d_X12_ordered_111 : decode (mB M_X12_ordered) 111 = .ok (.iconst 1, 1) := by decide +kernel
theorem d_X12_ordered_112 : decode (mB M_X12_ordered) 112 = .ok (.goto 4, 3) := by decide +kernel
theorem d_X12_ordered_115 : decode (mB M_X12_ordered) 115 = .ok (.iconst 0, 1) := by decide +kernel
theorem d_X12_ordered_116 : decode (mB M_X12_ordered) 116 = .ok (.iadd, 1) := by decide +kernel
theorem d_X12_ordered_117 : decode (mB M_X12_ordered) 117 = .ok (.istore 4, 2) := by decide +kernel
theorem d_X12_ordered_119 : decode (mB M_X12_ordered) 119 = .ok (.iinc 5 1, 3) := by decide +kernel
theorem d_X12_ordered_122 : decode (mB M_X12_ordered) 122 = .ok (.goto (-71), 3) := by decide +kernel
theorem d_X12_ordered_125 : decode (mB M_X12_ordered) 125 = .ok (.iload 4, 2) := by decide +kernel
theorem d_X12_ordered_127 : decode (mB M_X12_ordered) 127 = .ok (.iload_n 1, 1) := by decide +kernel
theorem d_X12_ordered_128 : decode (mB M_X12_ordered) 128 = .ok (.if_icmp .ne 10, 3) := by decide +kernel
theorem d_X12_ordered_131 : decode (mB M_X12_ordered) 131 = .ok (.aload_n 0, 1) := by decide +kernel
theorem d_X12_ordered_132 : decode (mB M_X12_ordered) 132 = .ok (.getfield 51, 3) := by decide +kernel
theorem d_X12_ordered_135 : decode (mB M_X12_ordered) 135 = .ok (.iload_n 3, 1) := by decide +kernel
theorem d_X12_ordered_136 : decode (mB M_X12_ordered) 136 = .ok (.iaload, 1) := by decide +kernel
theorem d_X12_ordered_137 : decode (mB M_X12_ordered) 137 = .ok (.ireturn, 1) := by decide +kernel
theorem d_X12_ordered_138 : decode (mB M_X12_ordered) 138 = .ok (.iinc 3 1, 3) := by decide +kernel
theorem d_X12_ordered_141 : decode (mB M_X12_ordered) 141 = .ok (.goto (-101), 3) := by decide +kernel
theorem d_X12_ordered_144 : decode (mB M_X12_ordered) 144 = .ok (.iconst (-1), 1) := by decide +kernel
theorem d_X12_ordered_145 : decode (mB M_X12_ordered) 145 = .ok (.ireturn, 1) := by decide +kernel
theorem l_m_ordered {E : mEnv} (hE : E.1.stackTraces = false) (C : List mE) (N : Nat) : ∀ n : Nat, (∀ (v1 : Int32) (v2 : Int32) (v3 : Int32) (t : xT) (r : Int32 × xT), f_ordered_L N n 7 v1 v2 v3 0 0 t = some r → Go E M_X12_ordered 0 (7, [some (.ref 0), some (.int v1), some (.int v2), some (.int v3), none, none, none], [], (mw t, C)) (.inr (.inl (some (.int r.1), (mw r.2, C))))) ∧ (∀ (v1 : Int32) (v2 : Int32) (v3 : Int32) (t : xT) (r : Int32 × xT), f_ordered_L N n 40 v1 v2 v3 0 0 t = some r → Go E M_X12_ordered 0 (40, [some (.ref 0), some (.int v1), some (.int v2), some (.int v3), none, none, none], [], (mw t, C)) (.inr (.inl (some (.int r.1), (mw r.2, C))))) ∧ (∀ (v1 : Int32) (v2 : Int32) (v3 : Int32) (v4 : Int32) (v5 : Int32) (t : xT) (r : Int32 × xT), f_ordered_L N n 51 v1 v2 v3 v4 v5 t = some r → Go E M_X12_ordered 0 (51, [some (.ref 0), some (.int v1), some (.int v2), some (.int v3), some (.int v4), some (.int v5), none], [], (mw t, C)) (.inr (.inl (some (.int r.1), (mw r.2, C))))) := by
  intro n
  induction n with
  | zero => exact ⟨(fun v1 v2 v3 t r h => by cases h), (fun v1 v2 v3 t r h => by cases h), (fun v1 v2 v3 v4 v5 t r h => by cases h)⟩
  | succ n ih =>
    refine ⟨?_, ?_, ?_⟩
    · intro v1 v2 v3 t r h
      rw [u_ordered_7] at h
      refine g_iload_n d_X12_ordered_7 rfl ?_
      refine g_iload_n d_X12_ordered_8 rfl ?_
      refine g_icmp_ge (tgt := 30) d_X12_ordered_9 (by decide) (fun c_9 => ?_) (fun c_9 => ?_)
      · replace h := opos c_9 h
        refine g_aload_n d_X12_ordered_30 rfl ?_
        refine g_aload_n d_X12_ordered_31 rfl ?_
        refine g_getf d_X12_ordered_32 f_X12_191 (gm0 t C) rfl ?_
        obtain ⟨r_35, h_35, h⟩ := obind h
        refine g_callV (As := [.int (rs t 24)]) d_X12_ordered_35 o_X12_plainSteps l_X12_197 ⟨Nat.le_of_ble_eq_true rfl, Nat.le_of_ble_eq_true rfl⟩ (c_m_plainSteps hE C N t (rs t 24) _ h_35) (gm0 t C) rfl rfl rfl rfl rfl ?_ (Nat.zero_add _)
        refine g_iconst (v := 0) d_X12_ordered_38 (by decide) ?_
        refine g_istore_n (L' := [some (.ref 0), some (.int v1), some (.int v2), some (.int 0), none, none, none]) d_X12_ordered_39 rfl rfl ?_
        exact (ih).2.1 v1 v2 0 r_35 _ h
      · replace h := oneg c_9 h
        refine g_aload_n d_X12_ordered_12 rfl ?_
        refine g_getf d_X12_ordered_13 f_X12_51 (gm0 t C) rfl ?_
        refine g_iload_n d_X12_ordered_16 rfl ?_
        refine g_aload_n d_X12_ordered_17 rfl ?_
        refine g_getf d_X12_ordered_18 f_X12_29 (gm0 t C) rfl ?_
        refine g_iload_n d_X12_ordered_21 rfl ?_
        obtain ⟨i_22, h⟩ := ochk h
        refine g_iald d_X12_ordered_22 (gm_6 t C) (inB_in i_22) ?_
        obtain ⟨i_23, h⟩ := ochk h
        obtain ⟨t_23, e_23, h⟩ := olet h
        refine g_iast (w' := (mw t_23, C)) d_X12_ordered_23 (gm_13 t C) (inB_in i_23) (by rw [e_23]; exact st_13 t C _) ?_
        refine g_iinc (v := (v3 + 1)) (L' := [some (.ref 0), some (.int v1), some (.int v2), some (.int (v3 + 1)), none, none, none]) d_X12_ordered_24 rfl rfl rfl ?_
        refine g_goto (tgt := 7) d_X12_ordered_27 (by decide) ?_
        exact (ih).1 v1 v2 (v3 + 1) t_23 _ h
    · intro v1 v2 v3 t r h
      rw [u_ordered_40] at h
      refine g_iload_n d_X12_ordered_40 rfl ?_
      refine g_iload_n d_X12_ordered_41 rfl ?_
      refine g_icmp_ge (tgt := 144) d_X12_ordered_42 (by decide) (fun c_42 => ?_) (fun c_42 => ?_)
      · replace h := opos c_42 h
        refine g_iconst (v := (-1)) d_X12_ordered_144 (by decide) ?_
        obtain rfl := osome h
        exact g_retI d_X12_ordered_145 rfl rfl rfl
      · replace h := oneg c_42 h
        refine g_iconst (v := 0) d_X12_ordered_45 (by decide) ?_
        refine g_istore (L' := [some (.ref 0), some (.int v1), some (.int v2), some (.int v3), some (.int 0), none, none]) d_X12_ordered_46 rfl rfl ?_
        refine g_iconst (v := 0) d_X12_ordered_48 (by decide) ?_
        refine g_istore (L' := [some (.ref 0), some (.int v1), some (.int v2), some (.int v3), some (.int 0), some (.int 0), none]) d_X12_ordered_49 rfl rfl ?_
        exact (ih).2.2 v1 v2 v3 0 0 t _ h
    · intro v1 v2 v3 v4 v5 t r h
      rw [u_ordered_51] at h
      refine g_iload d_X12_ordered_51 rfl ?_
      refine g_iload_n d_X12_ordered_53 rfl ?_
      refine g_icmp_ge (tgt := 125) d_X12_ordered_54 (by decide) (fun c_54 => ?_) (fun c_54 => ?_)
      · replace h := opos c_54 h
        refine g_iload d_X12_ordered_125 rfl ?_
        refine g_iload_n d_X12_ordered_127 rfl ?_
        refine g_icmp_ne (tgt := 138) d_X12_ordered_128 (by decide) (fun c_128 => ?_) (fun c_128 => ?_)
        · replace h := oneg c_128 h
          refine g_iinc (v := (v3 + 1)) (L' := [some (.ref 0), some (.int v1), some (.int v2), some (.int (v3 + 1)), some (.int v4), some (.int v5), none]) d_X12_ordered_138 rfl rfl rfl ?_
          refine g_goto (tgt := 40) d_X12_ordered_141 (by decide) ?_
          refine g_drop [4, 5] (L1 := [some (.ref 0), some (.int v1), some (.int v2), some (.int (v3 + 1)), none, none, none]) rfl ?_
          exact (ih).2.1 v1 v2 (v3 + 1) t _ h
        · replace h := opos c_128 h
          refine g_aload_n d_X12_ordered_131 rfl ?_
          refine g_getf d_X12_ordered_132 f_X12_51 (gm0 t C) rfl ?_
          refine g_iload_n d_X12_ordered_135 rfl ?_
          obtain ⟨i_136, h⟩ := ochk h
          refine g_iald d_X12_ordered_136 (gm_13 t C) (inB_in i_136) ?_
          obtain rfl := osome h
          exact g_retI d_X12_ordered_137 rfl rfl rfl
      · replace h := oneg c_54 h
        refine g_aload_n d_X12_ordered_57 rfl ?_
        refine g_getf d_X12_ordered_58 f_X12_32 (gm0 t C) rfl ?_
        refine g_aload_n d_X12_ordered_61 rfl ?_
        refine g_getf d_X12_ordered_62 f_X12_51 (gm0 t C) rfl ?_
        refine g_iload d_X12_ordered_65 rfl ?_
        obtain ⟨i_67, h⟩ := ochk h
        refine g_iald d_X12_ordered_67 (gm_13 t C) (inB_in i_67) ?_
        obtain ⟨i_68, h⟩ := ochk h
        refine g_iald d_X12_ordered_68 (gm_7 t C) (inB_in i_68) ?_
        refine g_aload_n d_X12_ordered_69 rfl ?_
        refine g_getf d_X12_ordered_70 f_X12_32 (gm0 t C) rfl ?_
        refine g_aload_n d_X12_ordered_73 rfl ?_
        refine g_getf d_X12_ordered_74 f_X12_51 (gm0 t C) rfl ?_
        refine g_iload_n d_X12_ordered_77 rfl ?_
        obtain ⟨i_78, h⟩ := ochk h
        refine g_iald d_X12_ordered_78 (gm_13 t C) (inB_in i_78) ?_
        obtain ⟨i_79, h⟩ := ochk h
        refine g_iald d_X12_ordered_79 (gm_7 t C) (inB_in i_79) ?_
        refine g_isub d_X12_ordered_80 ?_
        refine g_istore (L' := [some (.ref 0), some (.int v1), some (.int v2), some (.int v3), some (.int v4), some (.int v5), some (.int (((ra t 7) (Int32.toNatClampNeg ((ra t 13) (Int32.toNatClampNeg v5)))) - ((ra t 7) (Int32.toNatClampNeg ((ra t 13) (Int32.toNatClampNeg v3))))))]) d_X12_ordered_81 rfl rfl ?_
        refine g_iload d_X12_ordered_83 rfl ?_
        refine g_iload d_X12_ordered_85 rfl ?_
        obtain ⟨r_87, h_87, hh_87⟩ := obind h
        refine Go.trans0 (S1 := (116, [some (.ref 0), some (.int v1), some (.int v2), some (.int v3), none, some (.int v5), none], [.int r_87, .int v4], (mw t, C))) ?_ ?_
        · replace h := h_87
          clear hh_87
          refine g_if_gt (tgt := 111) d_X12_ordered_87 (by decide) (fun c_87 => ?_) (fun c_87 => ?_)
          · replace h := opos c_87 h
            refine g_iconst (v := 1) d_X12_ordered_111 (by decide) ?_
            refine g_goto (tgt := 116) d_X12_ordered_112 (by decide) ?_
            obtain rfl := osome h
            exact g_drop [4, 6] rfl (g_end rfl)
          · replace h := oneg c_87 h
            refine g_iload d_X12_ordered_90 rfl ?_
            refine g_if_ne (tgt := 115) d_X12_ordered_92 (by decide) (fun c_92 => ?_) (fun c_92 => ?_)
            · replace h := oneg c_92 h
              refine g_iconst (v := 0) d_X12_ordered_115 (by decide) ?_
              obtain rfl := osome h
              exact g_drop [4, 6] rfl (g_end rfl)
            · replace h := opos c_92 h
              refine g_aload_n d_X12_ordered_95 rfl ?_
              refine g_getf d_X12_ordered_96 f_X12_51 (gm0 t C) rfl ?_
              refine g_iload d_X12_ordered_99 rfl ?_
              obtain ⟨i_101, h⟩ := ochk h
              refine g_iald d_X12_ordered_101 (gm_13 t C) (inB_in i_101) ?_
              refine g_aload_n d_X12_ordered_102 rfl ?_
              refine g_getf d_X12_ordered_103 f_X12_51 (gm0 t C) rfl ?_
              refine g_iload_n d_X12_ordered_106 rfl ?_
              obtain ⟨i_107, h⟩ := ochk h
              refine g_iald d_X12_ordered_107 (gm_13 t C) (inB_in i_107) ?_
              refine g_icmp_ge (tgt := 115) d_X12_ordered_108 (by decide) (fun c_108 => ?_) (fun c_108 => ?_)
              · replace h := opos c_108 h
                refine g_iconst (v := 0) d_X12_ordered_115 (by decide) ?_
                obtain rfl := osome h
                exact g_drop [4, 6] rfl (g_end rfl)
              · replace h := oneg c_108 h
                refine g_iconst (v := 1) d_X12_ordered_111 (by decide) ?_
                refine g_goto (tgt := 116) d_X12_ordered_112 (by decide) ?_
                obtain rfl := osome h
                exact g_drop [4, 6] rfl (g_end rfl)
        replace h := hh_87
        refine g_iadd d_X12_ordered_116 ?_
        refine g_istore (L' := [some (.ref 0), some (.int v1), some (.int v2), some (.int v3), some (.int (v4 + r_87)), some (.int v5), none]) d_X12_ordered_117 rfl rfl ?_
        refine g_iinc (v := (v5 + 1)) (L' := [some (.ref 0), some (.int v1), some (.int v2), some (.int v3), some (.int (v4 + r_87)), some (.int (v5 + 1)), none]) d_X12_ordered_119 rfl rfl rfl ?_
        refine g_goto (tgt := 51) d_X12_ordered_122 (by decide) ?_
        exact (ih).2.2 v1 v2 v3 (v4 + r_87) (v5 + 1) t _ h
theorem c_m_ordered {E : mEnv} (hE : E.1.stackTraces = false) (C : List mE) (N : Nat) (t : xT) (a0 : Int32) (r : Int32 × xT) (h : f_ordered N t a0 = some r) : Rt E M_X12_ordered 0 [.ref 0, .int a0] (mw t, C) (some (.int r.1)) (mw r.2, C) := by
  unfold f_ordered at h
  refine Rt.of hE rfl pn_X12 (Nat.le_of_ble_eq_true rfl) ?_
  refine g_eq (S' := (0, [some (.ref 0), some (.int a0), none, none, none, none, none], [], (mw t, C))) rfl ?_
  refine g_aload_n d_X12_ordered_0 rfl ?_
  refine g_getf d_X12_ordered_1 f_X12_133 (gm0 t C) rfl ?_
  refine g_istore_n (L' := [some (.ref 0), some (.int a0), some (.int (rs t 16)), none, none, none, none]) d_X12_ordered_4 rfl rfl ?_
  refine g_iconst (v := 0) d_X12_ordered_5 (by decide) ?_
  refine g_istore_n (L' := [some (.ref 0), some (.int a0), some (.int (rs t 16)), some (.int 0), none, none, none]) d_X12_ordered_6 rfl rfl ?_
  exact (l_m_ordered hE C N N).1 a0 (rs t 16) 0 t _ h
def f_goalRoom (N : Nat) (t : xT) (a0 : Int32) (a1 : Int32) : Option (Int32 × xT) :=
  Option.bind (f_hasRoom t) fun r_2 =>
  Option.bind (if r_2 = 0 then (some (1 : Int32))
    else (some (0 : Int32))) fun (r_5 : Int32) =>
  Option.bind (some (ws t 9 r_5)) fun t_13 =>
  if (rs t_13 9) ≤ 0 then (if a0 < 0 then (Option.bind (f_fails t_13 2) fun r_40 =>
      some (r_40.1, r_40.2))
    else (Option.bind (f_goalRooms N t_13 (-1)) fun r_32 =>
      if a0 < r_32.1 then (Option.bind (f_goalRooms N r_32.2 a0) fun r_46 =>
        if 0 ≤ a1 then (Option.bind (if (rs r_46.2 16) ≤ a1 then (Option.bind (f_fails r_46.2 2) fun r_103 =>
              some (r_103.1, r_103.2))
            else (Option.bind (f_ordered N r_46.2 a1) fun r_95 =>
              some (r_95.1, r_95.2))) fun (r_90 : Int32 × xT) =>
          some (r_90.1, r_90.2))
        else (Option.bind (if a1 = (-1) then (some ((rs r_46.2 24), r_46.2))
            else (if a1 = (-2) then (some ((rs r_46.2 16), r_46.2))
              else (Option.bind (f_fails r_46.2 2) fun r_81 =>
                some (r_81.1, r_81.2)))) fun (r_56 : Int32 × xT) =>
          some (r_56.1, r_56.2)))
      else (Option.bind (f_fails r_32.2 2) fun r_40 =>
        some (r_40.1, r_40.2))))
  else (some ((0 : Int32), t_13))
theorem d_X12_goalRoom_0 : decode (mB M_X12_goalRoom) 0 = .ok (.aload_n 0, 1) := by decide +kernel
theorem d_X12_goalRoom_1 : decode (mB M_X12_goalRoom) 1 = .ok (.aload_n 0, 1) := by decide +kernel
theorem d_X12_goalRoom_2 : decode (mB M_X12_goalRoom) 2 = .ok (.invokevirtual 83, 3) := by decide +kernel
theorem d_X12_goalRoom_5 : decode (mB M_X12_goalRoom) 5 = .ok (.ifCond .eq 7, 3) := by decide +kernel
theorem d_X12_goalRoom_8 : decode (mB M_X12_goalRoom) 8 = .ok (.iconst 0, 1) := by decide +kernel
theorem d_X12_goalRoom_9 : decode (mB M_X12_goalRoom) 9 = .ok (.goto 4, 3) := by decide +kernel
theorem d_X12_goalRoom_12 : decode (mB M_X12_goalRoom) 12 = .ok (.iconst 1, 1) := by decide +kernel
theorem d_X12_goalRoom_13 : decode (mB M_X12_goalRoom) 13 = .ok (.putfield 73, 3) := by decide +kernel
theorem d_X12_goalRoom_16 : decode (mB M_X12_goalRoom) 16 = .ok (.aload_n 0, 1) := by decide +kernel
theorem d_X12_goalRoom_17 : decode (mB M_X12_goalRoom) 17 = .ok (.getfield 73, 3) := by decide +kernel
theorem d_X12_goalRoom_20 : decode (mB M_X12_goalRoom) 20 = .ok (.ifCond .le 5, 3) := by decide +kernel
theorem d_X12_goalRoom_23 : decode (mB M_X12_goalRoom) 23 = .ok (.iconst 0, 1) := by decide +kernel
theorem d_X12_goalRoom_24 : decode (mB M_X12_goalRoom) 24 = .ok (.ireturn, 1) := by decide +kernel
theorem d_X12_goalRoom_25 : decode (mB M_X12_goalRoom) 25 = .ok (.iload_n 1, 1) := by decide +kernel
theorem d_X12_goalRoom_26 : decode (mB M_X12_goalRoom) 26 = .ok (.ifCond .lt 12, 3) := by decide +kernel
theorem d_X12_goalRoom_29 : decode (mB M_X12_goalRoom) 29 = .ok (.iload_n 1, 1) := by decide +kernel
theorem d_X12_goalRoom_30 : decode (mB M_X12_goalRoom) 30 = .ok (.aload_n 0, 1) := by decide +kernel
theorem d_X12_goalRoom_31 : decode (mB M_X12_goalRoom) 31 = .ok (.iconst (-1), 1) := by decide +kernel
theorem d_X12_goalRoom_32 : decode (mB M_X12_goalRoom) 32 = .ok (.invokevirtual 179, 3) := by decide +kernel
theorem d_X12_goalRoom_35 : decode (mB M_X12_goalRoom) 35 = .ok (.if_icmp .lt 9, 3) := by decide +kernel
theorem d_X12_goalRoom_38 : decode (mB M_X12_goalRoom) 38 = .ok (.aload_n 0, 1) := by decide +kernel
theorem d_X12_goalRoom_39 : decode (mB M_X12_goalRoom) 39 = .ok (.iconst 2, 1) := by decide +kernel
theorem d_X12_goalRoom_40 : decode (mB M_X12_goalRoom) 40 = .ok (.invokevirtual 114, 3) := by decide +kernel
theorem d_X12_goalRoom_43 : decode (mB M_X12_goalRoom) 43 = .ok (.ireturn, 1) := by decide +kernel
theorem d_X12_goalRoom_44 : decode (mB M_X12_goalRoom) 44 = .ok (.aload_n 0, 1) := by decide +kernel
theorem d_X12_goalRoom_45 : decode (mB M_X12_goalRoom) 45 = .ok (.iload_n 1, 1) := by decide +kernel
theorem d_X12_goalRoom_46 : decode (mB M_X12_goalRoom) 46 = .ok (.invokevirtual 179, 3) := by decide +kernel
theorem d_X12_goalRoom_49 : decode (mB M_X12_goalRoom) 49 = .ok (.pop, 1) := by decide +kernel
theorem d_X12_goalRoom_50 : decode (mB M_X12_goalRoom) 50 = .ok (.iload_n 2, 1) := by decide +kernel
theorem d_X12_goalRoom_51 : decode (mB M_X12_goalRoom) 51 = .ok (.ifCond .ge 34, 3) := by decide +kernel
theorem d_X12_goalRoom_54 : decode (mB M_X12_goalRoom) 54 = .ok (.iload_n 2, 1) := by decide +kernel
theorem d_X12_goalRoom_55 : decode (mB M_X12_goalRoom) 55 = .ok (.iconst (-1), 1) := by decide +kernel
theorem d_X12_goalRoom_56 : decode (mB M_X12_goalRoom) 56 = .ok (.if_icmp .ne 10, 3) := by decide +kernel
theorem d_X12_goalRoom_59 : decode (mB M_X12_goalRoom) 59 = .ok (.aload_n 0, 1) := by decide +kernel
theorem d_X12_goalRoom_60 : decode (mB M_X12_goalRoom) 60 = .ok (.getfield 191, 3) := by decide +kernel
theorem d_X12_goalRoom_63 : decode (mB M_X12_goalRoom) 63 = .ok (.goto 21, 3) := by decide +kernel
theorem d_X12_goalRoom_66 : decode (mB M_X12_goalRoom) 66 = .ok (.iload_n 2, 1) := by decide +kernel
theorem d_X12_goalRoom_67 : decode (mB M_X12_goalRoom) 67 = .ok (.bipush (-2), 2) := by decide +kernel
theorem d_X12_goalRoom_69 : decode (mB M_X12_goalRoom) 69 = .ok (.if_icmp .ne 10, 3) := by decide +kernel
theorem d_X12_goalRoom_72 : decode (mB M_X12_goalRoom) 72 = .ok (.aload_n 0, 1) := by decide +kernel
theorem d_X12_goalRoom_73 : decode (mB M_X12_goalRoom) 73 = .ok (.getfield 133, 3) := by decide +kernel
theorem d_X12_goalRoom_76 : decode (mB M_X12_goalRoom) 76 = .ok (.goto 8, 3) := by decide +kernel
theorem d_X12_goalRoom_79 : decode (mB M_X12_goalRoom) 79 = .ok (.aload_n 0, 1) := by decide +kernel
theorem d_X12_goalRoom_80 : decode (mB M_X12_goalRoom) 80 = .ok (.iconst 2, 1) := by decide +kernel
theorem d_X12_goalRoom_81 : decode (mB M_X12_goalRoom) 81 = .ok (.invokevirtual 114, 3) := by decide +kernel
theorem d_X12_goalRoom_84 : decode (mB M_X12_goalRoom) 84 = .ok (.ireturn, 1) := by decide +kernel
theorem d_X12_goalRoom_85 : decode (mB M_X12_goalRoom) 85 = .ok (.iload_n 2, 1) := by decide +kernel
theorem d_X12_goalRoom_86 : decode (mB M_X12_goalRoom) 86 = .ok (.aload_n 0, 1) := by decide +kernel
theorem d_X12_goalRoom_87 : decode (mB M_X12_goalRoom) 87 = .ok (.getfield 133, 3) := by decide +kernel
theorem d_X12_goalRoom_90 : decode (mB M_X12_goalRoom) 90 = .ok (.if_icmp .ge 11, 3) := by decide +kernel
theorem d_X12_goalRoom_93 : decode (mB M_X12_goalRoom) 93 = .ok (.aload_n 0, 1) := by decide +kernel
theorem d_X12_goalRoom_94 : decode (mB M_X12_goalRoom) 94 = .ok (.iload_n 2, 1) := by decide +kernel
theorem d_X12_goalRoom_95 : decode (mB M_X12_goalRoom) 95 = .ok (.invokevirtual 200, 3) := by decide +kernel
theorem d_X12_goalRoom_98 : decode (mB M_X12_goalRoom) 98 = .ok (.goto 8, 3) := by decide +kernel
theorem d_X12_goalRoom_101 : decode (mB M_X12_goalRoom) 101 = .ok (.aload_n 0, 1) := by decide +kernel
theorem d_X12_goalRoom_102 : decode (mB M_X12_goalRoom) 102 = .ok (.iconst 2, 1) := by decide +kernel
theorem d_X12_goalRoom_103 : decode (mB M_X12_goalRoom) 103 = .ok (.invokevirtual 114, 3) := by decide +kernel
theorem d_X12_goalRoom_106 : decode (mB M_X12_goalRoom) 106 = .ok (.ireturn, 1) := by decide +kernel
theorem c_m_goalRoom {E : mEnv} (hE : E.1.stackTraces = false) (C : List mE) (N : Nat) (t : xT) (a0 : Int32) (a1 : Int32) (r : Int32 × xT) (h : f_goalRoom N t a0 a1 = some r) : Rt E M_X12_goalRoom 0 [.ref 0, .int a0, .int a1] (mw t, C) (some (.int r.1)) (mw r.2, C) := by
  unfold f_goalRoom at h
  refine Rt.of hE rfl pn_X12 (Nat.le_of_ble_eq_true rfl) ?_
  refine g_eq (S' := (0, [some (.ref 0), some (.int a0), some (.int a1)], [], (mw t, C))) rfl ?_
  refine g_aload_n d_X12_goalRoom_0 rfl ?_
  refine g_aload_n d_X12_goalRoom_1 rfl ?_
  obtain ⟨r_2, h_2, h⟩ := obind h
  refine g_callV (As := []) d_X12_goalRoom_2 o_X12_hasRoom l_X12_83 ⟨Nat.le_of_ble_eq_true rfl, Nat.le_of_ble_eq_true rfl⟩ (c_m_hasRoom hE C t _ h_2) (gm0 t C) rfl rfl rfl rfl rfl ?_ (Nat.zero_add _)
  obtain ⟨r_5, h_5, hh_5⟩ := obind h
  refine Go.trans0 (S1 := (13, [some (.ref 0), some (.int a0), some (.int a1)], [.int r_5, .ref 0], (mw t, C))) ?_ ?_
  · replace h := h_5
    clear hh_5
    refine g_if_eq (tgt := 12) d_X12_goalRoom_5 (by decide) (fun c_5 => ?_) (fun c_5 => ?_)
    · replace h := opos c_5 h
      refine g_iconst (v := 1) d_X12_goalRoom_12 (by decide) ?_
      obtain rfl := osome h
      exact g_end rfl
    · replace h := oneg c_5 h
      refine g_iconst (v := 0) d_X12_goalRoom_8 (by decide) ?_
      refine g_goto (tgt := 13) d_X12_goalRoom_9 (by decide) ?_
      obtain rfl := osome h
      exact g_end rfl
  replace h := hh_5
  obtain ⟨t_13, e_13, h⟩ := olet h
  refine g_putI (w' := (mw t_13, C)) d_X12_goalRoom_13 p_X12_73 rfl rfl (gm0 t C) (Nat.le_of_ble_eq_true rfl) (by rw [e_13]; exact sc_9 t C _) ?_
  refine g_aload_n d_X12_goalRoom_16 rfl ?_
  refine g_getf d_X12_goalRoom_17 f_X12_73 (gm0 t_13 C) rfl ?_
  refine g_if_le (tgt := 25) d_X12_goalRoom_20 (by decide) (fun c_20 => ?_) (fun c_20 => ?_)
  · replace h := opos c_20 h
    refine g_iload_n d_X12_goalRoom_25 rfl ?_
    refine g_if_lt (tgt := 38) d_X12_goalRoom_26 (by decide) (fun c_26 => ?_) (fun c_26 => ?_)
    · replace h := opos c_26 h
      refine g_aload_n d_X12_goalRoom_38 rfl ?_
      refine g_iconst (v := 2) d_X12_goalRoom_39 (by decide) ?_
      obtain ⟨r_40, h_40, h⟩ := obind h
      refine g_callV (As := [.int 2]) d_X12_goalRoom_40 o_X12_fails l_X12_114 ⟨Nat.le_of_ble_eq_true rfl, Nat.le_of_ble_eq_true rfl⟩ (c_m_fails hE C t_13 2 _ h_40) (gm0 t_13 C) rfl rfl rfl rfl rfl ?_ (Nat.zero_add _)
      obtain rfl := osome h
      exact g_retI d_X12_goalRoom_43 rfl rfl rfl
    · replace h := oneg c_26 h
      refine g_iload_n d_X12_goalRoom_29 rfl ?_
      refine g_aload_n d_X12_goalRoom_30 rfl ?_
      refine g_iconst (v := (-1)) d_X12_goalRoom_31 (by decide) ?_
      obtain ⟨r_32, h_32, h⟩ := obind h
      refine g_callV (As := [.int (-1)]) d_X12_goalRoom_32 o_X12_goalRooms l_X12_179 ⟨Nat.le_of_ble_eq_true rfl, Nat.le_of_ble_eq_true rfl⟩ (c_m_goalRooms hE C N t_13 (-1) _ h_32) (gm0 t_13 C) rfl rfl rfl rfl rfl ?_ (Nat.zero_add _)
      refine g_icmp_lt (tgt := 44) d_X12_goalRoom_35 (by decide) (fun c_35 => ?_) (fun c_35 => ?_)
      · replace h := opos c_35 h
        refine g_aload_n d_X12_goalRoom_44 rfl ?_
        refine g_iload_n d_X12_goalRoom_45 rfl ?_
        obtain ⟨r_46, h_46, h⟩ := obind h
        refine g_callV (As := [.int a0]) d_X12_goalRoom_46 o_X12_goalRooms l_X12_179 ⟨Nat.le_of_ble_eq_true rfl, Nat.le_of_ble_eq_true rfl⟩ (c_m_goalRooms hE C N r_32.2 a0 _ h_46) (gm0 r_32.2 C) rfl rfl rfl rfl rfl ?_ (Nat.zero_add _)
        refine g_pop d_X12_goalRoom_49 rfl ?_
        refine g_iload_n d_X12_goalRoom_50 rfl ?_
        refine g_if_ge (tgt := 85) d_X12_goalRoom_51 (by decide) (fun c_51 => ?_) (fun c_51 => ?_)
        · replace h := opos c_51 h
          refine g_iload_n d_X12_goalRoom_85 rfl ?_
          refine g_aload_n d_X12_goalRoom_86 rfl ?_
          refine g_getf d_X12_goalRoom_87 f_X12_133 (gm0 r_46.2 C) rfl ?_
          obtain ⟨r_90, h_90, hh_90⟩ := obind h
          refine Go.trans0 (S1 := (106, [none, none, none], [.int r_90.1], (mw r_90.2, C))) ?_ ?_
          · replace h := h_90
            clear hh_90
            refine g_icmp_ge (tgt := 101) d_X12_goalRoom_90 (by decide) (fun c_90 => ?_) (fun c_90 => ?_)
            · replace h := opos c_90 h
              refine g_aload_n d_X12_goalRoom_101 rfl ?_
              refine g_iconst (v := 2) d_X12_goalRoom_102 (by decide) ?_
              obtain ⟨r_103, h_103, h⟩ := obind h
              refine g_callV (As := [.int 2]) d_X12_goalRoom_103 o_X12_fails l_X12_114 ⟨Nat.le_of_ble_eq_true rfl, Nat.le_of_ble_eq_true rfl⟩ (c_m_fails hE C r_46.2 2 _ h_103) (gm0 r_46.2 C) rfl rfl rfl rfl rfl ?_ (Nat.zero_add _)
              obtain rfl := osome h
              exact g_drop [0, 1, 2] rfl (g_end rfl)
            · replace h := oneg c_90 h
              refine g_aload_n d_X12_goalRoom_93 rfl ?_
              refine g_iload_n d_X12_goalRoom_94 rfl ?_
              obtain ⟨r_95, h_95, h⟩ := obind h
              refine g_callV (As := [.int a1]) d_X12_goalRoom_95 o_X12_ordered l_X12_200 ⟨Nat.le_of_ble_eq_true rfl, Nat.le_of_ble_eq_true rfl⟩ (c_m_ordered hE C N r_46.2 a1 _ h_95) (gm0 r_46.2 C) rfl rfl rfl rfl rfl ?_ (Nat.zero_add _)
              refine g_goto (tgt := 106) d_X12_goalRoom_98 (by decide) ?_
              obtain rfl := osome h
              exact g_drop [0, 1, 2] rfl (g_end rfl)
          replace h := hh_90
          obtain rfl := osome h
          exact g_retI d_X12_goalRoom_106 rfl rfl rfl
        · replace h := oneg c_51 h
          refine g_iload_n d_X12_goalRoom_54 rfl ?_
          refine g_iconst (v := (-1)) d_X12_goalRoom_55 (by decide) ?_
          obtain ⟨r_56, h_56, hh_56⟩ := obind h
          refine Go.trans0 (S1 := (84, [none, none, none], [.int r_56.1], (mw r_56.2, C))) ?_ ?_
          · replace h := h_56
            clear hh_56
            refine g_icmp_ne (tgt := 66) d_X12_goalRoom_56 (by decide) (fun c_56 => ?_) (fun c_56 => ?_)
            · replace h := oneg c_56 h
              refine g_iload_n d_X12_goalRoom_66 rfl ?_
              refine g_bipush (v := (-2)) d_X12_goalRoom_67 (by decide) ?_
              refine g_icmp_ne (tgt := 79) d_X12_goalRoom_69 (by decide) (fun c_69 => ?_) (fun c_69 => ?_)
              · replace h := oneg c_69 h
                refine g_aload_n d_X12_goalRoom_79 rfl ?_
                refine g_iconst (v := 2) d_X12_goalRoom_80 (by decide) ?_
                obtain ⟨r_81, h_81, h⟩ := obind h
                refine g_callV (As := [.int 2]) d_X12_goalRoom_81 o_X12_fails l_X12_114 ⟨Nat.le_of_ble_eq_true rfl, Nat.le_of_ble_eq_true rfl⟩ (c_m_fails hE C r_46.2 2 _ h_81) (gm0 r_46.2 C) rfl rfl rfl rfl rfl ?_ (Nat.zero_add _)
                obtain rfl := osome h
                exact g_drop [0, 1, 2] rfl (g_end rfl)
              · replace h := opos c_69 h
                refine g_aload_n d_X12_goalRoom_72 rfl ?_
                refine g_getf d_X12_goalRoom_73 f_X12_133 (gm0 r_46.2 C) rfl ?_
                refine g_goto (tgt := 84) d_X12_goalRoom_76 (by decide) ?_
                obtain rfl := osome h
                exact g_drop [0, 1, 2] rfl (g_end rfl)
            · replace h := opos c_56 h
              refine g_aload_n d_X12_goalRoom_59 rfl ?_
              refine g_getf d_X12_goalRoom_60 f_X12_191 (gm0 r_46.2 C) rfl ?_
              refine g_goto (tgt := 84) d_X12_goalRoom_63 (by decide) ?_
              obtain rfl := osome h
              exact g_drop [0, 1, 2] rfl (g_end rfl)
          replace h := hh_56
          obtain rfl := osome h
          exact g_retI d_X12_goalRoom_84 rfl rfl rfl
      · replace h := oneg c_35 h
        refine g_aload_n d_X12_goalRoom_38 rfl ?_
        refine g_iconst (v := 2) d_X12_goalRoom_39 (by decide) ?_
        obtain ⟨r_40, h_40, h⟩ := obind h
        refine g_callV (As := [.int 2]) d_X12_goalRoom_40 o_X12_fails l_X12_114 ⟨Nat.le_of_ble_eq_true rfl, Nat.le_of_ble_eq_true rfl⟩ (c_m_fails hE C r_32.2 2 _ h_40) (gm0 r_32.2 C) rfl rfl rfl rfl rfl ?_ (Nat.zero_add _)
        obtain rfl := osome h
        exact g_retI d_X12_goalRoom_43 rfl rfl rfl
  · replace h := oneg c_20 h
    refine g_iconst (v := 0) d_X12_goalRoom_23 (by decide) ?_
    obtain rfl := osome h
    exact g_retI d_X12_goalRoom_24 rfl rfl rfl
def f_reasonForBox (t : xT) (a0 : Int32) (a1 : Int32) : Option (Int32 × xT) :=
  Option.bind (f_beside t a0 a1) fun r_3 =>
  Option.bind (some (ws t 26 a0)) fun t_9 =>
  Option.bind (f_isOpen t_9 r_3) fun r_14 =>
  if r_14 = 0 then (some ((2 : Int32), t_9))
  else (Option.bind (some (ws t_9 26 r_3)) fun t_24 =>
    Option.bind (f_isBox t_24 r_3) fun r_29 =>
    Option.bind (if r_29 = 0 then (some (0 : Int32))
      else (some (3 : Int32))) fun (r_32 : Int32) =>
    some (r_32, t_24))
theorem d_X12_reasonForBox_0 : decode (mB M_X12_reasonForBox) 0 = .ok (.aload_n 0, 1) := by decide +kernel
theorem d_X12_reasonForBox_1 : decode (mB M_X12_reasonForBox) 1 = .ok (.iload_n 1, 1) := by decide +kernel
theorem d_X12_reasonForBox_2 : decode (mB M_X12_reasonForBox) 2 = .ok (.iload_n 2, 1) := by decide +kernel
theorem d_X12_reasonForBox_3 : decode (mB M_X12_reasonForBox) 3 = .ok (.invokevirtual 136, 3) := by decide +kernel
theorem d_X12_reasonForBox_6 : decode (mB M_X12_reasonForBox) 6 = .ok (.istore_n 3, 1) := by decide +kernel
theorem d_X12_reasonForBox_7 : decode (mB M_X12_reasonForBox) 7 = .ok (.aload_n 0, 1) := by decide +kernel
theorem d_X12_reasonForBox_8 : decode (mB M_X12_reasonForBox) 8 = .ok (.iload_n 1, 1) := by decide +kernel
theorem d_X12_reasonForBox_9 : decode (mB M_X12_reasonForBox) 9 = .ok (.putfield 203, 3) := by decide +kernel
theorem d_X12_reasonForBox_12 : decode (mB M_X12_reasonForBox) 12 = .ok (.aload_n 0, 1) := by decide +kernel
theorem d_X12_reasonForBox_13 : decode (mB M_X12_reasonForBox) 13 = .ok (.iload_n 3, 1) := by decide +kernel
theorem d_X12_reasonForBox_14 : decode (mB M_X12_reasonForBox) 14 = .ok (.invokevirtual 121, 3) := by decide +kernel
theorem d_X12_reasonForBox_17 : decode (mB M_X12_reasonForBox) 17 = .ok (.ifCond .ne 5, 3) := by decide +kernel
theorem d_X12_reasonForBox_20 : decode (mB M_X12_reasonForBox) 20 = .ok (.iconst 2, 1) := by decide +kernel
theorem d_X12_reasonForBox_21 : decode (mB M_X12_reasonForBox) 21 = .ok (.ireturn, 1) := by decide +kernel
theorem d_X12_reasonForBox_22 : decode (mB M_X12_reasonForBox) 22 = .ok (.aload_n 0, 1) := by decide +kernel
theorem d_X12_reasonForBox_23 : decode (mB M_X12_reasonForBox) 23 = .ok (.iload_n 3, 1) := by decide +kernel
theorem d_X12_reasonForBox_24 : decode (mB M_X12_reasonForBox) 24 = .ok (.putfield 203, 3) := by decide +kernel
theorem d_X12_reasonForBox_27 : decode (mB M_X12_reasonForBox) 27 = .ok (.aload_n 0, 1) := by decide +kernel
theorem d_X12_reasonForBox_28 : decode (mB M_X12_reasonForBox) 28 = .ok (.iload_n 3, 1) := by decide +kernel
theorem d_X12_reasonForBox_29 : decode (mB M_X12_reasonForBox) 29 = .ok (.invokevirtual 124, 3) := by decide +kernel
theorem d_X12_reasonForBox_32 : decode (mB M_X12_reasonForBox) 32 = .ok (.ifCond .eq 7, 3) := by decide +kernel
theorem d_X12_reasonForBox_35 : decode (mB M_X12_reasonForBox) 35 = .ok (.iconst 3, 1) := by decide +kernel
theorem d_X12_reasonForBox_36 : decode (mB M_X12_reasonForBox) 36 = .ok (.goto 4, 3) := by decide +kernel
theorem d_X12_reasonForBox_39 : decode (mB M_X12_reasonForBox) 39 = .ok (.iconst 0, 1) := by decide +kernel
theorem d_X12_reasonForBox_40 : decode (mB M_X12_reasonForBox) 40 = .ok (.ireturn, 1) := by decide +kernel
theorem c_m_reasonForBox {E : mEnv} (hE : E.1.stackTraces = false) (C : List mE) (t : xT) (a0 : Int32) (a1 : Int32) (r : Int32 × xT) (h : f_reasonForBox t a0 a1 = some r) : Rt E M_X12_reasonForBox 0 [.ref 0, .int a0, .int a1] (mw t, C) (some (.int r.1)) (mw r.2, C) := by
  unfold f_reasonForBox at h
  refine Rt.of hE rfl pn_X12 (Nat.le_of_ble_eq_true rfl) ?_
  refine g_eq (S' := (0, [some (.ref 0), some (.int a0), some (.int a1), none], [], (mw t, C))) rfl ?_
  refine g_aload_n d_X12_reasonForBox_0 rfl ?_
  refine g_iload_n d_X12_reasonForBox_1 rfl ?_
  refine g_iload_n d_X12_reasonForBox_2 rfl ?_
  obtain ⟨r_3, h_3, h⟩ := obind h
  refine g_callV (As := [.int a0, .int a1]) d_X12_reasonForBox_3 o_X12_beside l_X12_136 ⟨Nat.le_of_ble_eq_true rfl, Nat.le_of_ble_eq_true rfl⟩ (c_m_beside hE C t a0 a1 _ h_3) (gm0 t C) rfl rfl rfl rfl rfl ?_ (Nat.zero_add _)
  refine g_istore_n (L' := [some (.ref 0), some (.int a0), some (.int a1), some (.int r_3)]) d_X12_reasonForBox_6 rfl rfl ?_
  refine g_aload_n d_X12_reasonForBox_7 rfl ?_
  refine g_iload_n d_X12_reasonForBox_8 rfl ?_
  obtain ⟨t_9, e_9, h⟩ := olet h
  refine g_putI (w' := (mw t_9, C)) d_X12_reasonForBox_9 p_X12_203 rfl rfl (gm0 t C) (Nat.le_of_ble_eq_true rfl) (by rw [e_9]; exact sc_26 t C _) ?_
  refine g_aload_n d_X12_reasonForBox_12 rfl ?_
  refine g_iload_n d_X12_reasonForBox_13 rfl ?_
  obtain ⟨r_14, h_14, h⟩ := obind h
  refine g_callV (As := [.int r_3]) d_X12_reasonForBox_14 o_X12_isOpen l_X12_121 ⟨Nat.le_of_ble_eq_true rfl, Nat.le_of_ble_eq_true rfl⟩ (c_m_isOpen hE C t_9 r_3 _ h_14) (gm0 t_9 C) rfl rfl rfl rfl rfl ?_ (Nat.zero_add _)
  refine g_if_ne (tgt := 22) d_X12_reasonForBox_17 (by decide) (fun c_17 => ?_) (fun c_17 => ?_)
  · replace h := oneg c_17 h
    refine g_aload_n d_X12_reasonForBox_22 rfl ?_
    refine g_iload_n d_X12_reasonForBox_23 rfl ?_
    obtain ⟨t_24, e_24, h⟩ := olet h
    refine g_putI (w' := (mw t_24, C)) d_X12_reasonForBox_24 p_X12_203 rfl rfl (gm0 t_9 C) (Nat.le_of_ble_eq_true rfl) (by rw [e_24]; exact sc_26 t_9 C _) ?_
    refine g_aload_n d_X12_reasonForBox_27 rfl ?_
    refine g_iload_n d_X12_reasonForBox_28 rfl ?_
    obtain ⟨r_29, h_29, h⟩ := obind h
    refine g_callV (As := [.int r_3]) d_X12_reasonForBox_29 o_X12_isBox l_X12_124 ⟨Nat.le_of_ble_eq_true rfl, Nat.le_of_ble_eq_true rfl⟩ (c_m_isBox hE C t_24 r_3 _ h_29) (gm0 t_24 C) rfl rfl rfl rfl rfl ?_ (Nat.zero_add _)
    obtain ⟨r_32, h_32, hh_32⟩ := obind h
    refine Go.trans0 (S1 := (40, [none, none, none, none], [.int r_32], (mw t_24, C))) ?_ ?_
    · replace h := h_32
      clear hh_32
      refine g_if_eq (tgt := 39) d_X12_reasonForBox_32 (by decide) (fun c_32 => ?_) (fun c_32 => ?_)
      · replace h := opos c_32 h
        refine g_iconst (v := 0) d_X12_reasonForBox_39 (by decide) ?_
        obtain rfl := osome h
        exact g_drop [0, 1, 2, 3] rfl (g_end rfl)
      · replace h := oneg c_32 h
        refine g_iconst (v := 3) d_X12_reasonForBox_35 (by decide) ?_
        refine g_goto (tgt := 40) d_X12_reasonForBox_36 (by decide) ?_
        obtain rfl := osome h
        exact g_drop [0, 1, 2, 3] rfl (g_end rfl)
    replace h := hh_32
    obtain rfl := osome h
    exact g_retI d_X12_reasonForBox_40 rfl rfl rfl
  · replace h := opos c_17 h
    refine g_iconst (v := 2) d_X12_reasonForBox_20 (by decide) ?_
    obtain rfl := osome h
    exact g_retI d_X12_reasonForBox_21 rfl rfl rfl
def f_reasonForStep (t : xT) (a0 : Int32) : Option (Int32 × xT) :=
  Option.bind (f_beside t ((ra t 1) (Int32.toNatClampNeg 3)) a0) fun r_8 =>
  Option.bind (some (ws t 26 ((ra t 1) (Int32.toNatClampNeg 3)))) fun t_19 =>
  Option.bind (f_isOpen t_19 r_8) fun r_24 =>
  if r_24 = 0 then (some ((1 : Int32), t_19))
  else (Option.bind (f_isBox t_19 r_8) fun r_34 =>
    Option.bind (if r_34 = 0 then (some ((0 : Int32), t_19))
      else (Option.bind (f_reasonForBox t_19 r_8 a0) fun r_43 =>
        some (r_43.1, r_43.2))) fun (r_37 : Int32 × xT) =>
    some (r_37.1, r_37.2))
theorem d_X12_reasonForStep_0 : decode (mB M_X12_reasonForStep) 0 = .ok (.aload_n 0, 1) := by decide +kernel
theorem d_X12_reasonForStep_1 : decode (mB M_X12_reasonForStep) 1 = .ok (.aload_n 0, 1) := by decide +kernel
theorem d_X12_reasonForStep_2 : decode (mB M_X12_reasonForStep) 2 = .ok (.getfield 7, 3) := by decide +kernel
theorem d_X12_reasonForStep_5 : decode (mB M_X12_reasonForStep) 5 = .ok (.iconst 3, 1) := by decide +kernel
theorem d_X12_reasonForStep_6 : decode (mB M_X12_reasonForStep) 6 = .ok (.iaload, 1) := by decide +kernel
theorem d_X12_reasonForStep_7 : decode (mB M_X12_reasonForStep) 7 = .ok (.iload_n 1, 1) := by decide +kernel
theorem d_X12_reasonForStep_8 : decode (mB M_X12_reasonForStep) 8 = .ok (.invokevirtual 136, 3) := by decide +kernel
theorem d_X12_reasonForStep_11 : decode (mB M_X12_reasonForStep) 11 = .ok (.istore_n 2, 1) := by decide +kernel
theorem d_X12_reasonForStep_12 : decode (mB M_X12_reasonForStep) 12 = .ok (.aload_n 0, 1) := by decide +kernel
theorem d_X12_reasonForStep_13 : decode (mB M_X12_reasonForStep) 13 = .ok (.aload_n 0, 1) := by decide +kernel
theorem d_X12_reasonForStep_14 : decode (mB M_X12_reasonForStep) 14 = .ok (.getfield 7, 3) := by decide +kernel
theorem d_X12_reasonForStep_17 : decode (mB M_X12_reasonForStep) 17 = .ok (.iconst 3, 1) := by decide +kernel
theorem d_X12_reasonForStep_18 : decode (mB M_X12_reasonForStep) 18 = .ok (.iaload, 1) := by decide +kernel
theorem d_X12_reasonForStep_19 : decode (mB M_X12_reasonForStep) 19 = .ok (.putfield 203, 3) := by decide +kernel
theorem d_X12_reasonForStep_22 : decode (mB M_X12_reasonForStep) 22 = .ok (.aload_n 0, 1) := by decide +kernel
theorem d_X12_reasonForStep_23 : decode (mB M_X12_reasonForStep) 23 = .ok (.iload_n 2, 1) := by decide +kernel
theorem d_X12_reasonForStep_24 : decode (mB M_X12_reasonForStep) 24 = .ok (.invokevirtual 121, 3) := by decide +kernel
theorem d_X12_reasonForStep_27 : decode (mB M_X12_reasonForStep) 27 = .ok (.ifCond .ne 5, 3) := by decide +kernel
theorem d_X12_reasonForStep_30 : decode (mB M_X12_reasonForStep) 30 = .ok (.iconst 1, 1) := by decide +kernel
theorem d_X12_reasonForStep_31 : decode (mB M_X12_reasonForStep) 31 = .ok (.ireturn, 1) := by decide +kernel
theorem d_X12_reasonForStep_32 : decode (mB M_X12_reasonForStep) 32 = .ok (.aload_n 0, 1) := by decide +kernel
theorem d_X12_reasonForStep_33 : decode (mB M_X12_reasonForStep) 33 = .ok (.iload_n 2, 1) := by decide +kernel
theorem d_X12_reasonForStep_34 : decode (mB M_X12_reasonForStep) 34 = .ok (.invokevirtual 124, 3) := by decide +kernel
theorem d_X12_reasonForStep_37 : decode (mB M_X12_reasonForStep) 37 = .ok (.ifCond .eq 12, 3) := by decide +kernel
theorem d_X12_reasonForStep_40 : decode (mB M_X12_reasonForStep) 40 = .ok (.aload_n 0, 1) := by decide +kernel
theorem d_X12_reasonForStep_41 : decode (mB M_X12_reasonForStep) 41 = .ok (.iload_n 2, 1) := by decide +kernel
theorem d_X12_reasonForStep_42 : decode (mB M_X12_reasonForStep) 42 = .ok (.iload_n 1, 1) := by decide +kernel
theorem d_X12_reasonForStep_43 : decode (mB M_X12_reasonForStep) 43 = .ok (.invokevirtual 206, 3) := by decide +kernel
theorem d_X12_reasonForStep_46 : decode (mB M_X12_reasonForStep) 46 = .ok (.goto 4, 3) := by decide +kernel
theorem d_X12_reasonForStep_49 : decode (mB M_X12_reasonForStep) 49 = .ok (.iconst 0, 1) := by decide +kernel
theorem d_X12_reasonForStep_50 : decode (mB M_X12_reasonForStep) 50 = .ok (.ireturn, 1) := by decide +kernel
theorem c_m_reasonForStep {E : mEnv} (hE : E.1.stackTraces = false) (C : List mE) (t : xT) (a0 : Int32) (r : Int32 × xT) (h : f_reasonForStep t a0 = some r) : Rt E M_X12_reasonForStep 0 [.ref 0, .int a0] (mw t, C) (some (.int r.1)) (mw r.2, C) := by
  unfold f_reasonForStep at h
  refine Rt.of hE rfl pn_X12 (Nat.le_of_ble_eq_true rfl) ?_
  refine g_eq (S' := (0, [some (.ref 0), some (.int a0), none], [], (mw t, C))) rfl ?_
  refine g_aload_n d_X12_reasonForStep_0 rfl ?_
  refine g_aload_n d_X12_reasonForStep_1 rfl ?_
  refine g_getf d_X12_reasonForStep_2 f_X12_7 (gm0 t C) rfl ?_
  refine g_iconst (v := 3) d_X12_reasonForStep_5 (by decide) ?_
  refine g_iald d_X12_reasonForStep_6 (gm_1 t C) (inB_in (by decide)) ?_
  refine g_iload_n d_X12_reasonForStep_7 rfl ?_
  obtain ⟨r_8, h_8, h⟩ := obind h
  refine g_callV (As := [.int ((ra t 1) (Int32.toNatClampNeg 3)), .int a0]) d_X12_reasonForStep_8 o_X12_beside l_X12_136 ⟨Nat.le_of_ble_eq_true rfl, Nat.le_of_ble_eq_true rfl⟩ (c_m_beside hE C t ((ra t 1) (Int32.toNatClampNeg 3)) a0 _ h_8) (gm0 t C) rfl rfl rfl rfl rfl ?_ (Nat.zero_add _)
  refine g_istore_n (L' := [some (.ref 0), some (.int a0), some (.int r_8)]) d_X12_reasonForStep_11 rfl rfl ?_
  refine g_aload_n d_X12_reasonForStep_12 rfl ?_
  refine g_aload_n d_X12_reasonForStep_13 rfl ?_
  refine g_getf d_X12_reasonForStep_14 f_X12_7 (gm0 t C) rfl ?_
  refine g_iconst (v := 3) d_X12_reasonForStep_17 (by decide) ?_
  refine g_iald d_X12_reasonForStep_18 (gm_1 t C) (inB_in (by decide)) ?_
  obtain ⟨t_19, e_19, h⟩ := olet h
  refine g_putI (w' := (mw t_19, C)) d_X12_reasonForStep_19 p_X12_203 rfl rfl (gm0 t C) (Nat.le_of_ble_eq_true rfl) (by rw [e_19]; exact sc_26 t C _) ?_
  refine g_aload_n d_X12_reasonForStep_22 rfl ?_
  refine g_iload_n d_X12_reasonForStep_23 rfl ?_
  obtain ⟨r_24, h_24, h⟩ := obind h
  refine g_callV (As := [.int r_8]) d_X12_reasonForStep_24 o_X12_isOpen l_X12_121 ⟨Nat.le_of_ble_eq_true rfl, Nat.le_of_ble_eq_true rfl⟩ (c_m_isOpen hE C t_19 r_8 _ h_24) (gm0 t_19 C) rfl rfl rfl rfl rfl ?_ (Nat.zero_add _)
  refine g_if_ne (tgt := 32) d_X12_reasonForStep_27 (by decide) (fun c_27 => ?_) (fun c_27 => ?_)
  · replace h := oneg c_27 h
    refine g_aload_n d_X12_reasonForStep_32 rfl ?_
    refine g_iload_n d_X12_reasonForStep_33 rfl ?_
    obtain ⟨r_34, h_34, h⟩ := obind h
    refine g_callV (As := [.int r_8]) d_X12_reasonForStep_34 o_X12_isBox l_X12_124 ⟨Nat.le_of_ble_eq_true rfl, Nat.le_of_ble_eq_true rfl⟩ (c_m_isBox hE C t_19 r_8 _ h_34) (gm0 t_19 C) rfl rfl rfl rfl rfl ?_ (Nat.zero_add _)
    obtain ⟨r_37, h_37, hh_37⟩ := obind h
    refine Go.trans0 (S1 := (50, [none, none, none], [.int r_37.1], (mw r_37.2, C))) ?_ ?_
    · replace h := h_37
      clear hh_37
      refine g_if_eq (tgt := 49) d_X12_reasonForStep_37 (by decide) (fun c_37 => ?_) (fun c_37 => ?_)
      · replace h := opos c_37 h
        refine g_iconst (v := 0) d_X12_reasonForStep_49 (by decide) ?_
        obtain rfl := osome h
        exact g_drop [0, 1, 2] rfl (g_end rfl)
      · replace h := oneg c_37 h
        refine g_aload_n d_X12_reasonForStep_40 rfl ?_
        refine g_iload_n d_X12_reasonForStep_41 rfl ?_
        refine g_iload_n d_X12_reasonForStep_42 rfl ?_
        obtain ⟨r_43, h_43, h⟩ := obind h
        refine g_callV (As := [.int r_8, .int a0]) d_X12_reasonForStep_43 o_X12_reasonForBox l_X12_206 ⟨Nat.le_of_ble_eq_true rfl, Nat.le_of_ble_eq_true rfl⟩ (c_m_reasonForBox hE C t_19 r_8 a0 _ h_43) (gm0 t_19 C) rfl rfl rfl rfl rfl ?_ (Nat.zero_add _)
        refine g_goto (tgt := 50) d_X12_reasonForStep_46 (by decide) ?_
        obtain rfl := osome h
        exact g_drop [0, 1, 2] rfl (g_end rfl)
    replace h := hh_37
    obtain rfl := osome h
    exact g_retI d_X12_reasonForStep_50 rfl rfl rfl
  · replace h := opos c_27 h
    refine g_iconst (v := 1) d_X12_reasonForStep_30 (by decide) ?_
    obtain rfl := osome h
    exact g_retI d_X12_reasonForStep_31 rfl rfl rfl
def f_keeps (t : xT) (a0 : Int32) (a1 : Int32) : Option (Int32 × xT) :=
  Option.bind (some (ws t 6 a0)) fun t_2 =>
  Option.bind (some (ws t_2 7 (rs t_2 26))) fun t_10 =>
  Option.bind (f_fails t_10 a1) fun r_15 =>
  some (r_15.1, r_15.2)
theorem d_X12_keeps_0 : decode (mB M_X12_keeps) 0 = .ok (.aload_n 0, 1) := by decide +kernel
theorem d_X12_keeps_1 : decode (mB M_X12_keeps) 1 = .ok (.iload_n 1, 1) := by decide +kernel
theorem d_X12_keeps_2 : decode (mB M_X12_keeps) 2 = .ok (.putfield 209, 3) := by decide +kernel
theorem d_X12_keeps_5 : decode (mB M_X12_keeps) 5 = .ok (.aload_n 0, 1) := by decide +kernel
theorem d_X12_keeps_6 : decode (mB M_X12_keeps) 6 = .ok (.aload_n 0, 1) := by decide +kernel
theorem d_X12_keeps_7 : decode (mB M_X12_keeps) 7 = .ok (.getfield 203, 3) := by decide +kernel
theorem d_X12_keeps_10 : decode (mB M_X12_keeps) 10 = .ok (.putfield 212, 3) := by decide +kernel
theorem d_X12_keeps_13 : decode (mB M_X12_keeps) 13 = .ok (.aload_n 0, 1) := by decide +kernel
theorem d_X12_keeps_14 : decode (mB M_X12_keeps) 14 = .ok (.iload_n 2, 1) := by decide +kernel
theorem d_X12_keeps_15 : decode (mB M_X12_keeps) 15 = .ok (.invokevirtual 114, 3) := by decide +kernel
theorem d_X12_keeps_18 : decode (mB M_X12_keeps) 18 = .ok (.ireturn, 1) := by decide +kernel
theorem c_m_keeps {E : mEnv} (hE : E.1.stackTraces = false) (C : List mE) (t : xT) (a0 : Int32) (a1 : Int32) (r : Int32 × xT) (h : f_keeps t a0 a1 = some r) : Rt E M_X12_keeps 0 [.ref 0, .int a0, .int a1] (mw t, C) (some (.int r.1)) (mw r.2, C) := by
  unfold f_keeps at h
  refine Rt.of hE rfl pn_X12 (Nat.le_of_ble_eq_true rfl) ?_
  refine g_eq (S' := (0, [some (.ref 0), some (.int a0), some (.int a1)], [], (mw t, C))) rfl ?_
  refine g_aload_n d_X12_keeps_0 rfl ?_
  refine g_iload_n d_X12_keeps_1 rfl ?_
  obtain ⟨t_2, e_2, h⟩ := olet h
  refine g_putI (w' := (mw t_2, C)) d_X12_keeps_2 p_X12_209 rfl rfl (gm0 t C) (Nat.le_of_ble_eq_true rfl) (by rw [e_2]; exact sc_6 t C _) ?_
  refine g_aload_n d_X12_keeps_5 rfl ?_
  refine g_aload_n d_X12_keeps_6 rfl ?_
  refine g_getf d_X12_keeps_7 f_X12_203 (gm0 t_2 C) rfl ?_
  obtain ⟨t_10, e_10, h⟩ := olet h
  refine g_putI (w' := (mw t_10, C)) d_X12_keeps_10 p_X12_212 rfl rfl (gm0 t_2 C) (Nat.le_of_ble_eq_true rfl) (by rw [e_10]; exact sc_7 t_2 C _) ?_
  refine g_aload_n d_X12_keeps_13 rfl ?_
  refine g_iload_n d_X12_keeps_14 rfl ?_
  obtain ⟨r_15, h_15, h⟩ := obind h
  refine g_callV (As := [.int a1]) d_X12_keeps_15 o_X12_fails l_X12_114 ⟨Nat.le_of_ble_eq_true rfl, Nat.le_of_ble_eq_true rfl⟩ (c_m_fails hE C t_10 a1 _ h_15) (gm0 t_10 C) rfl rfl rfl rfl rfl ?_ (Nat.zero_add _)
  obtain rfl := osome h
  exact g_retI d_X12_keeps_18 rfl rfl rfl
def f_remembers_L (N : Nat) : Nat → Int32 → xT → Option (xT)
  | 0, _, _ => none
  | n + 1, v1, t =>
    if 602 ≤ v1 then (some t)
    else (if inB v1 602 = true then (if inB v1 602 = true then (Option.bind (some (wa t 3 (upd (ra t 3) (Int32.toNatClampNeg v1) ((ra t 1) (Int32.toNatClampNeg v1))))) fun t_20 =>
      f_remembers_L N n (v1 + 1) t_20) else none) else none)
theorem u_remembers_2 (N n : Nat) (v1 : Int32) (t : xT) : f_remembers_L N (n + 1) v1 t = (if 602 ≤ v1 then (some t)
    else (if inB v1 602 = true then (if inB v1 602 = true then (Option.bind (some (wa t 3 (upd (ra t 3) (Int32.toNatClampNeg v1) ((ra t 1) (Int32.toNatClampNeg v1))))) fun t_20 =>
      f_remembers_L N n (v1 + 1) t_20) else none) else none)) := rfl
def f_remembers (N : Nat) (t : xT)  : Option (xT) :=
  f_remembers_L N N 0 t
theorem d_X12_remembers_0 : decode (mB M_X12_remembers) 0 = .ok (.iconst 0, 1) := by decide +kernel
theorem d_X12_remembers_1 : decode (mB M_X12_remembers) 1 = .ok (.istore_n 1, 1) := by decide +kernel
theorem d_X12_remembers_2 : decode (mB M_X12_remembers) 2 = .ok (.iload_n 1, 1) := by decide +kernel
theorem d_X12_remembers_3 : decode (mB M_X12_remembers) 3 = .ok (.sipush 602, 3) := by decide +kernel
theorem d_X12_remembers_6 : decode (mB M_X12_remembers) 6 = .ok (.if_icmp .ge 21, 3) := by decide +kernel
theorem d_X12_remembers_9 : decode (mB M_X12_remembers) 9 = .ok (.aload_n 0, 1) := by decide +kernel
theorem d_X12_remembers_10 : decode (mB M_X12_remembers) 10 = .ok (.getfield 16, 3) := by decide +kernel
theorem d_X12_remembers_13 : decode (mB M_X12_remembers) 13 = .ok (.iload_n 1, 1) := by decide +kernel
theorem d_X12_remembers_14 : decode (mB M_X12_remembers) 14 = .ok (.aload_n 0, 1) := by decide +kernel
theorem d_X12_remembers_15 : decode (mB M_X12_remembers) 15 = .ok (.getfield 7, 3) := by decide +kernel
theorem d_X12_remembers_18 : decode (mB M_X12_remembers) 18 = .ok (.iload_n 1, 1) := by decide +kernel
theorem d_X12_remembers_19 : decode (mB M_X12_remembers) 19 = .ok (.iaload, 1) := by decide +kernel
theorem d_X12_remembers_20 : decode (mB M_X12_remembers) 20 = .ok (.iastore, 1) := by decide +kernel
theorem d_X12_remembers_21 : decode (mB M_X12_remembers) 21 = .ok (.iinc 1 1, 3) := by decide +kernel
theorem d_X12_remembers_24 : decode (mB M_X12_remembers) 24 = .ok (.goto (-22), 3) := by decide +kernel
theorem d_X12_remembers_27 : decode (mB M_X12_remembers) 27 = .ok (.return_, 1) := by decide +kernel
theorem l_m_remembers {E : mEnv} (hE : E.1.stackTraces = false) (C : List mE) (N : Nat) : ∀ n : Nat, (∀ (v1 : Int32) (t : xT) (r : xT), f_remembers_L N n v1 t = some r → Go E M_X12_remembers 0 (2, [some (.ref 0), some (.int v1)], [], (mw t, C)) (.inr (.inl (none, (mw r, C))))) := by
  intro n
  induction n with
  | zero => exact fun v1 t r h => by cases h
  | succ n ih =>
    intro v1 t r h
    rw [u_remembers_2] at h
    refine g_iload_n d_X12_remembers_2 rfl ?_
    refine g_sipush (v := 602) d_X12_remembers_3 (by decide) ?_
    refine g_icmp_ge (tgt := 27) d_X12_remembers_6 (by decide) (fun c_6 => ?_) (fun c_6 => ?_)
    · replace h := opos c_6 h
      obtain rfl := osome h
      exact g_retV d_X12_remembers_27 rfl rfl
    · replace h := oneg c_6 h
      refine g_aload_n d_X12_remembers_9 rfl ?_
      refine g_getf d_X12_remembers_10 f_X12_16 (gm0 t C) rfl ?_
      refine g_iload_n d_X12_remembers_13 rfl ?_
      refine g_aload_n d_X12_remembers_14 rfl ?_
      refine g_getf d_X12_remembers_15 f_X12_7 (gm0 t C) rfl ?_
      refine g_iload_n d_X12_remembers_18 rfl ?_
      obtain ⟨i_19, h⟩ := ochk h
      refine g_iald d_X12_remembers_19 (gm_1 t C) (inB_in i_19) ?_
      obtain ⟨i_20, h⟩ := ochk h
      obtain ⟨t_20, e_20, h⟩ := olet h
      refine g_iast (w' := (mw t_20, C)) d_X12_remembers_20 (gm_3 t C) (inB_in i_20) (by rw [e_20]; exact st_3 t C _) ?_
      refine g_iinc (v := (v1 + 1)) (L' := [some (.ref 0), some (.int (v1 + 1))]) d_X12_remembers_21 rfl rfl rfl ?_
      refine g_goto (tgt := 2) d_X12_remembers_24 (by decide) ?_
      exact (ih) (v1 + 1) t_20 _ h
theorem c_m_remembers {E : mEnv} (hE : E.1.stackTraces = false) (C : List mE) (N : Nat) (t : xT)  (r : xT) (h : f_remembers N t = some r) : Rt E M_X12_remembers 0 [.ref 0] (mw t, C) none (mw r, C) := by
  unfold f_remembers at h
  refine Rt.of hE rfl pn_X12 (Nat.le_of_ble_eq_true rfl) ?_
  refine g_eq (S' := (0, [some (.ref 0), none], [], (mw t, C))) rfl ?_
  refine g_iconst (v := 0) d_X12_remembers_0 (by decide) ?_
  refine g_istore_n (L' := [some (.ref 0), some (.int 0)]) d_X12_remembers_1 rfl rfl ?_
  exact (l_m_remembers hE C N N) 0 t _ h
def f_commands_L (N : Nat) : Nat → Nat → Int32 → xT → Option (xT)
  | 0, _, _, _ => none
  | n + 1, p, v1, t =>
    if p = 11 then (if 4214 ≤ v1 then (Option.bind (some (ws t 5 ((rs t 5) - 1))) fun t_47 =>
        f_commands_L N n 52 0 t_47)
      else (if inB (v1 + 602) 4816 = true then (if inB v1 4816 = true then (Option.bind (some (wa t 4 (upd (ra t 4) (Int32.toNatClampNeg v1) ((ra t 4) (Int32.toNatClampNeg (v1 + 602)))))) fun t_33 =>
        f_commands_L N n 11 (v1 + 1) t_33) else none) else none))
    else if p = 52 then (if 602 ≤ v1 then (Option.bind (some (ws t 5 ((rs t 5) + 1))) fun t_93 =>
        some t_93)
      else (if inB v1 602 = true then (if inB ((602 * (rs t 5)) + v1) 4816 = true then (Option.bind (some (wa t 4 (upd (ra t 4) (Int32.toNatClampNeg ((602 * (rs t 5)) + v1)) ((ra t 3) (Int32.toNatClampNeg v1))))) fun t_79 =>
        f_commands_L N n 52 (v1 + 1) t_79) else none) else none))
    else none
theorem u_commands_11 (N n : Nat) (v1 : Int32) (t : xT) : f_commands_L N (n + 1) 11 v1 t = (if 4214 ≤ v1 then (Option.bind (some (ws t 5 ((rs t 5) - 1))) fun t_47 =>
      f_commands_L N n 52 0 t_47)
    else (if inB (v1 + 602) 4816 = true then (if inB v1 4816 = true then (Option.bind (some (wa t 4 (upd (ra t 4) (Int32.toNatClampNeg v1) ((ra t 4) (Int32.toNatClampNeg (v1 + 602)))))) fun t_33 =>
      f_commands_L N n 11 (v1 + 1) t_33) else none) else none)) := rfl
theorem u_commands_52 (N n : Nat) (v1 : Int32) (t : xT) : f_commands_L N (n + 1) 52 v1 t = (if 602 ≤ v1 then (Option.bind (some (ws t 5 ((rs t 5) + 1))) fun t_93 =>
      some t_93)
    else (if inB v1 602 = true then (if inB ((602 * (rs t 5)) + v1) 4816 = true then (Option.bind (some (wa t 4 (upd (ra t 4) (Int32.toNatClampNeg ((602 * (rs t 5)) + v1)) ((ra t 3) (Int32.toNatClampNeg v1))))) fun t_79 =>
      f_commands_L N n 52 (v1 + 1) t_79) else none) else none)) := rfl
def f_commands (N : Nat) (t : xT)  : Option (xT) :=
  if (rs t 5) = 8 then (f_commands_L N N 11 0 t)
  else (f_commands_L N N 52 0 t)
theorem d_X12_commands_0 : decode (mB M_X12_commands) 0 = .ok (.aload_n 0, 1) := by decide +kernel
theorem d_X12_commands_1 : decode (mB M_X12_commands) 1 = .ok (.getfield 80, 3) := by decide +kernel
theorem d_X12_commands_4 : decode (mB M_X12_commands) 4 = .ok (.bipush 8, 2) := by decide +kernel
theorem d_X12_commands_6 : decode (mB M_X12_commands) 6 = .ok (.if_icmp .ne 44, 3) := by decide +kernel
theorem d_X12_commands_9 : decode (mB M_X12_commands) 9 = .ok (.iconst 0, 1) := by decide +kernel
theorem d_X12_commands_10 : decode (mB M_X12_commands) 10 = .ok (.istore_n 1, 1) := by decide +kernel
theorem d_X12_commands_11 : decode (mB M_X12_commands) 11 = .ok (.iload_n 1, 1) := by decide +kernel
theorem d_X12_commands_12 : decode (mB M_X12_commands) 12 = .ok (.sipush 4214, 3) := by decide +kernel
theorem d_X12_commands_15 : decode (mB M_X12_commands) 15 = .ok (.if_icmp .ge 25, 3) := by decide +kernel
theorem d_X12_commands_18 : decode (mB M_X12_commands) 18 = .ok (.aload_n 0, 1) := by decide +kernel
theorem d_X12_commands_19 : decode (mB M_X12_commands) 19 = .ok (.getfield 19, 3) := by decide +kernel
theorem d_X12_commands_22 : decode (mB M_X12_commands) 22 = .ok (.iload_n 1, 1) := by decide +kernel
theorem d_X12_commands_23 : decode (mB M_X12_commands) 23 = .ok (.aload_n 0, 1) := by decide +kernel
theorem d_X12_commands_24 : decode (mB M_X12_commands) 24 = .ok (.getfield 19, 3) := by decide +kernel
theorem d_X12_commands_27 : decode (mB M_X12_commands) 27 = .ok (.iload_n 1, 1) := by decide +kernel
theorem d_X12_commands_28 : decode (mB M_X12_commands) 28 = .ok (.sipush 602, 3) := by decide +kernel
theorem d_X12_commands_31 : decode (mB M_X12_commands) 31 = .ok (.iadd, 1) := by decide +kernel
theorem d_X12_commands_32 : decode (mB M_X12_commands) 32 = .ok (.iaload, 1) := by decide +kernel
theorem d_X12_commands_33 : decode (mB M_X12_commands) 33 = .ok (.iastore, 1) := by decide +kernel
theorem d_X12_commands_34 : decode (mB M_X12_commands) 34 = .ok (.iinc 1 1, 3) := by decide +kernel
theorem d_X12_commands_37 : decode (mB M_X12_commands) 37 = .ok (.goto (-26), 3) := by decide +kernel
theorem d_X12_commands_40 : decode (mB M_X12_commands) 40 = .ok (.aload_n 0, 1) := by decide +kernel
theorem d_X12_commands_41 : decode (mB M_X12_commands) 41 = .ok (.dup, 1) := by decide +kernel
theorem d_X12_commands_42 : decode (mB M_X12_commands) 42 = .ok (.getfield 80, 3) := by decide +kernel
theorem d_X12_commands_45 : decode (mB M_X12_commands) 45 = .ok (.iconst 1, 1) := by decide +kernel
theorem d_X12_commands_46 : decode (mB M_X12_commands) 46 = .ok (.isub, 1) := by decide +kernel
theorem d_X12_commands_47 : decode (mB M_X12_commands) 47 = .ok (.putfield 80, 3) := by decide +kernel
theorem d_X12_commands_50 : decode (mB M_X12_commands) 50 = .ok (.iconst 0, 1) := by decide +kernel
theorem d_X12_commands_51 : decode (mB M_X12_commands) 51 = .ok (.istore_n 1, 1) := by decide +kernel
theorem d_X12_commands_52 : decode (mB M_X12_commands) 52 = .ok (.iload_n 1, 1) := by decide +kernel
theorem d_X12_commands_53 : decode (mB M_X12_commands) 53 = .ok (.sipush 602, 3) := by decide +kernel
theorem d_X12_commands_56 : decode (mB M_X12_commands) 56 = .ok (.if_icmp .ge 30, 3) := by decide +kernel
theorem d_X12_commands_59 : decode (mB M_X12_commands) 59 = .ok (.aload_n 0, 1) := by decide +kernel
theorem d_X12_commands_60 : decode (mB M_X12_commands) 60 = .ok (.getfield 19, 3) := by decide +kernel
theorem d_X12_commands_63 : decode (mB M_X12_commands) 63 = .ok (.sipush 602, 3) := by decide +kernel
theorem d_X12_commands_66 : decode (mB M_X12_commands) 66 = .ok (.aload_n 0, 1) := by decide +kernel
theorem d_X12_commands_67 : decode (mB M_X12_commands) 67 = .ok (.getfield 80, 3) := by decide +kernel
theorem d_X12_commands_70 : decode (mB M_X12_commands) 70 = .ok (.imul, 1) := by decide +kernel
theorem d_X12_commands_71 : decode (mB M_X12_commands) 71 = .ok (.iload_n 1, 1) := by decide +kernel
theorem d_X12_commands_72 : decode (mB M_X12_commands) 72 = .ok (.iadd, 1) := by decide +kernel
theorem d_X12_commands_73 : decode (mB M_X12_commands) 73 = .ok (.aload_n 0, 1) := by decide +kernel
theorem d_X12_commands_74 : decode (mB M_X12_commands) 74 = .ok (.getfield 16, 3) := by decide +kernel
theorem d_X12_commands_77 : decode (mB M_X12_commands) 77 = .ok (.iload_n 1, 1) := by decide +kernel
theorem d_X12_commands_78 : decode (mB M_X12_commands) 78 = .ok (.iaload, 1) := by decide +kernel
theorem d_X12_commands_79 : decode (mB M_X12_commands) 79 = .ok (.iastore, 1) := by decide +kernel
theorem d_X12_commands_80 : decode (mB M_X12_commands) 80 = .ok (.iinc 1 1, 3) := by decide +kernel
theorem d_X12_commands_83 : decode (mB M_X12_commands) 83 = .ok (.goto (-31), 3) := by decide +kernel
theorem d_X12_commands_86 : decode (mB M_X12_commands) 86 = .ok (.aload_n 0, 1) := by decide +kernel
theorem d_X12_commands_87 : decode (mB M_X12_commands) 87 = .ok (.dup, 1) := by decide +kernel
theorem d_X12_commands_88 : decode (mB M_X12_commands) 88 = .ok (.getfield 80, 3) := by decide +kernel
theorem d_X12_commands_91 : decode (mB M_X12_commands) 91 = .ok (.iconst 1, 1) := by decide +kernel
theorem d_X12_commands_92 : decode (mB M_X12_commands) 92 = .ok (.iadd, 1) := by decide +kernel
theorem d_X12_commands_93 : decode (mB M_X12_commands) 93 = .ok (.putfield 80, 3) := by decide +kernel
theorem d_X12_commands_96 : decode (mB M_X12_commands) 96 = .ok (.return_, 1) := by decide +kernel
theorem l_m_commands {E : mEnv} (hE : E.1.stackTraces = false) (C : List mE) (N : Nat) : ∀ n : Nat, (∀ (v1 : Int32) (t : xT) (r : xT), f_commands_L N n 11 v1 t = some r → Go E M_X12_commands 0 (11, [some (.ref 0), some (.int v1)], [], (mw t, C)) (.inr (.inl (none, (mw r, C))))) ∧ (∀ (v1 : Int32) (t : xT) (r : xT), f_commands_L N n 52 v1 t = some r → Go E M_X12_commands 0 (52, [some (.ref 0), some (.int v1)], [], (mw t, C)) (.inr (.inl (none, (mw r, C))))) := by
  intro n
  induction n with
  | zero => exact ⟨(fun v1 t r h => by cases h), (fun v1 t r h => by cases h)⟩
  | succ n ih =>
    refine ⟨?_, ?_⟩
    · intro v1 t r h
      rw [u_commands_11] at h
      refine g_iload_n d_X12_commands_11 rfl ?_
      refine g_sipush (v := 4214) d_X12_commands_12 (by decide) ?_
      refine g_icmp_ge (tgt := 40) d_X12_commands_15 (by decide) (fun c_15 => ?_) (fun c_15 => ?_)
      · replace h := opos c_15 h
        refine g_aload_n d_X12_commands_40 rfl ?_
        refine g_dup d_X12_commands_41 rfl ?_
        refine g_getf d_X12_commands_42 f_X12_80 (gm0 t C) rfl ?_
        refine g_iconst (v := 1) d_X12_commands_45 (by decide) ?_
        refine g_isub d_X12_commands_46 ?_
        obtain ⟨t_47, e_47, h⟩ := olet h
        refine g_putI (w' := (mw t_47, C)) d_X12_commands_47 p_X12_80 rfl rfl (gm0 t C) (Nat.le_of_ble_eq_true rfl) (by rw [e_47]; exact sc_5 t C _) ?_
        refine g_iconst (v := 0) d_X12_commands_50 (by decide) ?_
        refine g_istore_n (L' := [some (.ref 0), some (.int 0)]) d_X12_commands_51 rfl rfl ?_
        exact (ih).2 0 t_47 _ h
      · replace h := oneg c_15 h
        refine g_aload_n d_X12_commands_18 rfl ?_
        refine g_getf d_X12_commands_19 f_X12_19 (gm0 t C) rfl ?_
        refine g_iload_n d_X12_commands_22 rfl ?_
        refine g_aload_n d_X12_commands_23 rfl ?_
        refine g_getf d_X12_commands_24 f_X12_19 (gm0 t C) rfl ?_
        refine g_iload_n d_X12_commands_27 rfl ?_
        refine g_sipush (v := 602) d_X12_commands_28 (by decide) ?_
        refine g_iadd d_X12_commands_31 ?_
        obtain ⟨i_32, h⟩ := ochk h
        refine g_iald d_X12_commands_32 (gm_4 t C) (inB_in i_32) ?_
        obtain ⟨i_33, h⟩ := ochk h
        obtain ⟨t_33, e_33, h⟩ := olet h
        refine g_iast (w' := (mw t_33, C)) d_X12_commands_33 (gm_4 t C) (inB_in i_33) (by rw [e_33]; exact st_4 t C _) ?_
        refine g_iinc (v := (v1 + 1)) (L' := [some (.ref 0), some (.int (v1 + 1))]) d_X12_commands_34 rfl rfl rfl ?_
        refine g_goto (tgt := 11) d_X12_commands_37 (by decide) ?_
        exact (ih).1 (v1 + 1) t_33 _ h
    · intro v1 t r h
      rw [u_commands_52] at h
      refine g_iload_n d_X12_commands_52 rfl ?_
      refine g_sipush (v := 602) d_X12_commands_53 (by decide) ?_
      refine g_icmp_ge (tgt := 86) d_X12_commands_56 (by decide) (fun c_56 => ?_) (fun c_56 => ?_)
      · replace h := opos c_56 h
        refine g_aload_n d_X12_commands_86 rfl ?_
        refine g_dup d_X12_commands_87 rfl ?_
        refine g_getf d_X12_commands_88 f_X12_80 (gm0 t C) rfl ?_
        refine g_iconst (v := 1) d_X12_commands_91 (by decide) ?_
        refine g_iadd d_X12_commands_92 ?_
        obtain ⟨t_93, e_93, h⟩ := olet h
        refine g_putI (w' := (mw t_93, C)) d_X12_commands_93 p_X12_80 rfl rfl (gm0 t C) (Nat.le_of_ble_eq_true rfl) (by rw [e_93]; exact sc_5 t C _) ?_
        obtain rfl := osome h
        exact g_retV d_X12_commands_96 rfl rfl
      · replace h := oneg c_56 h
        refine g_aload_n d_X12_commands_59 rfl ?_
        refine g_getf d_X12_commands_60 f_X12_19 (gm0 t C) rfl ?_
        refine g_sipush (v := 602) d_X12_commands_63 (by decide) ?_
        refine g_aload_n d_X12_commands_66 rfl ?_
        refine g_getf d_X12_commands_67 f_X12_80 (gm0 t C) rfl ?_
        refine g_imul d_X12_commands_70 ?_
        refine g_iload_n d_X12_commands_71 rfl ?_
        refine g_iadd d_X12_commands_72 ?_
        refine g_aload_n d_X12_commands_73 rfl ?_
        refine g_getf d_X12_commands_74 f_X12_16 (gm0 t C) rfl ?_
        refine g_iload_n d_X12_commands_77 rfl ?_
        obtain ⟨i_78, h⟩ := ochk h
        refine g_iald d_X12_commands_78 (gm_3 t C) (inB_in i_78) ?_
        obtain ⟨i_79, h⟩ := ochk h
        obtain ⟨t_79, e_79, h⟩ := olet h
        refine g_iast (w' := (mw t_79, C)) d_X12_commands_79 (gm_4 t C) (inB_in i_79) (by rw [e_79]; exact st_4 t C _) ?_
        refine g_iinc (v := (v1 + 1)) (L' := [some (.ref 0), some (.int (v1 + 1))]) d_X12_commands_80 rfl rfl rfl ?_
        refine g_goto (tgt := 52) d_X12_commands_83 (by decide) ?_
        exact (ih).2 (v1 + 1) t_79 _ h
theorem c_m_commands {E : mEnv} (hE : E.1.stackTraces = false) (C : List mE) (N : Nat) (t : xT)  (r : xT) (h : f_commands N t = some r) : Rt E M_X12_commands 0 [.ref 0] (mw t, C) none (mw r, C) := by
  unfold f_commands at h
  refine Rt.of hE rfl pn_X12 (Nat.le_of_ble_eq_true rfl) ?_
  refine g_eq (S' := (0, [some (.ref 0), none], [], (mw t, C))) rfl ?_
  refine g_aload_n d_X12_commands_0 rfl ?_
  refine g_getf d_X12_commands_1 f_X12_80 (gm0 t C) rfl ?_
  refine g_bipush (v := 8) d_X12_commands_4 (by decide) ?_
  refine g_icmp_ne (tgt := 50) d_X12_commands_6 (by decide) (fun c_6 => ?_) (fun c_6 => ?_)
  · replace h := oneg c_6 h
    refine g_iconst (v := 0) d_X12_commands_50 (by decide) ?_
    refine g_istore_n (L' := [some (.ref 0), some (.int 0)]) d_X12_commands_51 rfl rfl ?_
    exact (l_m_commands hE C N N).2 0 t _ h
  · replace h := opos c_6 h
    refine g_iconst (v := 0) d_X12_commands_9 (by decide) ?_
    refine g_istore_n (L' := [some (.ref 0), some (.int 0)]) d_X12_commands_10 rfl rfl ?_
    exact (l_m_commands hE C N N).1 0 t _ h
