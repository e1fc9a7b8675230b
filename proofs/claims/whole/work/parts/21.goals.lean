/-! GoalRooms and Matching -/
def enF (g : gT) (s : Int64) : Int64 := gBs g s &&& (gG g ^^^ (-1))
theorem d_X1_entrances_0 : decode (mB M_X1_entrances) 0 = .ok (.aload_n 0, 1) := by decide +kernel
theorem d_X1_entrances_1 : decode (mB M_X1_entrances) 1 = .ok (.getfield 9, 3) := by decide +kernel
theorem d_X1_entrances_4 : decode (mB M_X1_entrances) 4 = .ok (.lload_n 1, 1) := by decide +kernel
theorem d_X1_entrances_5 : decode (mB M_X1_entrances) 5 = .ok (.invokevirtual 48, 3) := by decide +kernel
theorem d_X1_entrances_8 : decode (mB M_X1_entrances) 8 = .ok (.aload_n 0, 1) := by decide +kernel
theorem d_X1_entrances_9 : decode (mB M_X1_entrances) 9 = .ok (.getfield 9, 3) := by decide +kernel
theorem d_X1_entrances_12 : decode (mB M_X1_entrances) 12 = .ok (.getfield 26, 3) := by decide +kernel
theorem d_X1_entrances_15 : decode (mB M_X1_entrances) 15 = .ok (.ldc2_w 36, 3) := by decide +kernel
theorem d_X1_entrances_18 : decode (mB M_X1_entrances) 18 = .ok (.lxor, 1) := by decide +kernel
theorem d_X1_entrances_19 : decode (mB M_X1_entrances) 19 = .ok (.land, 1) := by decide +kernel
theorem d_X1_entrances_20 : decode (mB M_X1_entrances) 20 = .ok (.lreturn, 1) := by decide +kernel
theorem c_entrances {E : mEnv} (hE : E.1.stackTraces = false) (m : List mE) (t : cT) (s : Int64) : Rt E M_X1_entrances 0 [.ref 124, .long s] ((m, cw t)) (some (.long (enF (qG (tG t)) s))) ((m, cw t)) := by
  refine Rt.of hE rfl pn_X1 (Nat.le_of_ble_eq_true rfl) ?_
  refine g_eq (S' := (0, [some (.ref 124), some (.long s), none], [], (m, cw t))) rfl ?_
  refine g_aload_n d_X1_entrances_0 rfl ?_
  refine g_getf d_X1_entrances_1 f_X1_9 rfl rfl ?_
  refine g_lload_n d_X1_entrances_4 rfl ?_
  refine g_callV (As := [.long s]) d_X1_entrances_5 o_X2_beside l_X1_48 ⟨Nat.le_of_ble_eq_true rfl, Nat.le_of_ble_eq_true rfl⟩ (c_beside hE 105 (qG (tG t)) _ rfl s) rfl rfl rfl rfl rfl rfl ?_ (Nat.zero_add _)
  refine g_aload_n d_X1_entrances_8 rfl ?_
  refine g_getf d_X1_entrances_9 f_X1_9 rfl rfl ?_
  refine g_getf d_X1_entrances_12 f_X1_26 rfl rfl ?_
  refine g_ldc2 (v := (-1)) d_X1_entrances_15 k_X1_36 ?_
  refine g_lxor d_X1_entrances_18 ?_
  refine g_land d_X1_entrances_19 ?_
  exact g_retL d_X1_entrances_20 rfl (rfl) (rfl)
def goL (g : gT) (r : Int32) : Nat → Int64 → Int32 → Int64
  | 0, _, _ => 0
  | n + 1, q, i => if q = 0 then 0 else if bcF (enF g (gSp g (q &&& (-q)) (gG g))) = 1 then (if i = r then gSp g (q &&& (-q)) (gG g) else goL g r n (q &&& (gSp g (q &&& (-q)) (gG g) ^^^ (-1))) (i + 1)) else goL g r n (q &&& (gSp g (q &&& (-q)) (gG g) ^^^ (-1))) i
def goF (g : gT) (r : Int32) : Int64 := goL g r 64 (gG g) 0
theorem d_X1_goalsOf_0 : decode (mB M_X1_goalsOf) 0 = .ok (.aload_n 0, 1) := by decide +kernel
theorem d_X1_goalsOf_1 : decode (mB M_X1_goalsOf) 1 = .ok (.getfield 9, 3) := by decide +kernel
theorem d_X1_goalsOf_4 : decode (mB M_X1_goalsOf) 4 = .ok (.getfield 26, 3) := by decide +kernel
theorem d_X1_goalsOf_7 : decode (mB M_X1_goalsOf) 7 = .ok (.lstore_n 2, 1) := by decide +kernel
theorem d_X1_goalsOf_8 : decode (mB M_X1_goalsOf) 8 = .ok (.iconst 0, 1) := by decide +kernel
theorem d_X1_goalsOf_9 : decode (mB M_X1_goalsOf) 9 = .ok (.istore 4, 2) := by decide +kernel
theorem d_X1_goalsOf_11 : decode (mB M_X1_goalsOf) 11 = .ok (.iconst 0, 1) := by decide +kernel
theorem d_X1_goalsOf_12 : decode (mB M_X1_goalsOf) 12 = .ok (.istore 5, 2) := by decide +kernel
theorem d_X1_goalsOf_14 : decode (mB M_X1_goalsOf) 14 = .ok (.iload 5, 2) := by decide +kernel
theorem d_X1_goalsOf_16 : decode (mB M_X1_goalsOf) 16 = .ok (.bipush 64, 2) := by decide +kernel
theorem d_X1_goalsOf_18 : decode (mB M_X1_goalsOf) 18 = .ok (.if_icmp .ge 69, 3) := by decide +kernel
theorem d_X1_goalsOf_21 : decode (mB M_X1_goalsOf) 21 = .ok (.lload_n 2, 1) := by decide +kernel
theorem d_X1_goalsOf_22 : decode (mB M_X1_goalsOf) 22 = .ok (.lconst 0, 1) := by decide +kernel
theorem d_X1_goalsOf_23 : decode (mB M_X1_goalsOf) 23 = .ok (.lcmp, 1) := by decide +kernel
theorem d_X1_goalsOf_24 : decode (mB M_X1_goalsOf) 24 = .ok (.ifCond .eq 63, 3) := by decide +kernel
theorem d_X1_goalsOf_27 : decode (mB M_X1_goalsOf) 27 = .ok (.aload_n 0, 1) := by decide +kernel
theorem d_X1_goalsOf_28 : decode (mB M_X1_goalsOf) 28 = .ok (.getfield 9, 3) := by decide +kernel
theorem d_X1_goalsOf_31 : decode (mB M_X1_goalsOf) 31 = .ok (.lload_n 2, 1) := by decide +kernel
theorem d_X1_goalsOf_32 : decode (mB M_X1_goalsOf) 32 = .ok (.lload_n 2, 1) := by decide +kernel
theorem d_X1_goalsOf_33 : decode (mB M_X1_goalsOf) 33 = .ok (.lneg, 1) := by decide +kernel
theorem d_X1_goalsOf_34 : decode (mB M_X1_goalsOf) 34 = .ok (.land, 1) := by decide +kernel
theorem d_X1_goalsOf_35 : decode (mB M_X1_goalsOf) 35 = .ok (.aload_n 0, 1) := by decide +kernel
theorem d_X1_goalsOf_36 : decode (mB M_X1_goalsOf) 36 = .ok (.getfield 9, 3) := by decide +kernel
theorem d_X1_goalsOf_39 : decode (mB M_X1_goalsOf) 39 = .ok (.getfield 26, 3) := by decide +kernel
theorem d_X1_goalsOf_42 : decode (mB M_X1_goalsOf) 42 = .ok (.invokevirtual 32, 3) := by decide +kernel
theorem d_X1_goalsOf_45 : decode (mB M_X1_goalsOf) 45 = .ok (.lstore 6, 2) := by decide +kernel
theorem d_X1_goalsOf_47 : decode (mB M_X1_goalsOf) 47 = .ok (.lload_n 2, 1) := by decide +kernel
theorem d_X1_goalsOf_48 : decode (mB M_X1_goalsOf) 48 = .ok (.lload 6, 2) := by decide +kernel
theorem d_X1_goalsOf_50 : decode (mB M_X1_goalsOf) 50 = .ok (.ldc2_w 36, 3) := by decide +kernel
theorem d_X1_goalsOf_53 : decode (mB M_X1_goalsOf) 53 = .ok (.lxor, 1) := by decide +kernel
theorem d_X1_goalsOf_54 : decode (mB M_X1_goalsOf) 54 = .ok (.land, 1) := by decide +kernel
theorem d_X1_goalsOf_55 : decode (mB M_X1_goalsOf) 55 = .ok (.lstore_n 2, 1) := by decide +kernel
theorem d_X1_goalsOf_56 : decode (mB M_X1_goalsOf) 56 = .ok (.aload_n 0, 1) := by decide +kernel
theorem d_X1_goalsOf_57 : decode (mB M_X1_goalsOf) 57 = .ok (.lload 6, 2) := by decide +kernel
theorem d_X1_goalsOf_59 : decode (mB M_X1_goalsOf) 59 = .ok (.invokevirtual 38, 3) := by decide +kernel
theorem d_X1_goalsOf_62 : decode (mB M_X1_goalsOf) 62 = .ok (.invokestatic 42, 3) := by decide +kernel
theorem d_X1_goalsOf_65 : decode (mB M_X1_goalsOf) 65 = .ok (.iconst 1, 1) := by decide +kernel
theorem d_X1_goalsOf_66 : decode (mB M_X1_goalsOf) 66 = .ok (.if_icmp .ne 15, 3) := by decide +kernel
theorem d_X1_goalsOf_69 : decode (mB M_X1_goalsOf) 69 = .ok (.iload 4, 2) := by decide +kernel
theorem d_X1_goalsOf_71 : decode (mB M_X1_goalsOf) 71 = .ok (.iload_n 1, 1) := by decide +kernel
theorem d_X1_goalsOf_72 : decode (mB M_X1_goalsOf) 72 = .ok (.if_icmp .ne 6, 3) := by decide +kernel
theorem d_X1_goalsOf_75 : decode (mB M_X1_goalsOf) 75 = .ok (.lload 6, 2) := by decide +kernel
theorem d_X1_goalsOf_77 : decode (mB M_X1_goalsOf) 77 = .ok (.lreturn, 1) := by decide +kernel
theorem d_X1_goalsOf_78 : decode (mB M_X1_goalsOf) 78 = .ok (.iinc 4 1, 3) := by decide +kernel
theorem d_X1_goalsOf_81 : decode (mB M_X1_goalsOf) 81 = .ok (.iinc 5 1, 3) := by decide +kernel
theorem d_X1_goalsOf_84 : decode (mB M_X1_goalsOf) 84 = .ok (.goto (-70), 3) := by decide +kernel
theorem d_X1_goalsOf_87 : decode (mB M_X1_goalsOf) 87 = .ok (.lconst 0, 1) := by decide +kernel
theorem d_X1_goalsOf_88 : decode (mB M_X1_goalsOf) 88 = .ok (.lreturn, 1) := by decide +kernel
theorem l_goalsOf {E : mEnv} (hE : E.1.stackTraces = false) (m : List mE) (t : cT) (r : Int32) : ∀ (n : Nat) (k : Nat) (q : Int64) (i : Int32), k + n = 64 → Go E M_X1_goalsOf 0 (14, [some (.ref 124), some (.int r), some (.long q), none, some (.int i), some (.int (nI k)), none, none], [], (m, cw t)) (.inr (.inl (some (.long (goL (qG (tG t)) r n q i)), (m, cw t)))) := by
  intro n
  induction n with
  | zero =>
    intro k q i hk
    obtain rfl : k = 64 := by omega
    refine g_iload d_X1_goalsOf_14 rfl ?_
    refine g_bipush (v := 64) d_X1_goalsOf_16 (by decide) ?_
    refine g_icmp_ge (tgt := 87) d_X1_goalsOf_18 (by decide) (fun c_18 => ?_) (fun c_18 => absurd c_18 (absurd (nI_le (Nat.le_refl 64) (by decide)) c_18))
    refine g_lconst (v := 0) d_X1_goalsOf_87 (by decide) ?_
    exact g_retL d_X1_goalsOf_88 rfl (rfl) (rfl)
  | succ n ih =>
    intro k q i hk
    refine g_iload d_X1_goalsOf_14 rfl ?_
    refine g_bipush (v := 64) d_X1_goalsOf_16 (by decide) ?_
    refine g_icmp_ge (tgt := 87) d_X1_goalsOf_18 (by decide) (fun c_18 => absurd c_18 (nI_ge (a := k) (b := 64) (by omega) (by decide))) (fun c_18 => ?_)
    refine g_lload_n d_X1_goalsOf_21 rfl ?_
    refine g_lconst (v := 0) d_X1_goalsOf_22 (by decide) ?_
    refine g_lcmp_eq (tgt := 87) d_X1_goalsOf_23 d_X1_goalsOf_24 (by decide) (fun c_23 => ?_) (fun c_23 => ?_)
    · refine g_lconst (v := 0) d_X1_goalsOf_87 (by decide) ?_
      exact g_retL d_X1_goalsOf_88 rfl (by simp only [goL, eq_true c_23, ↓reduceIte, Bool.false_eq_true]) (rfl)
    · refine g_aload_n d_X1_goalsOf_27 rfl ?_
      refine g_getf d_X1_goalsOf_28 f_X1_9 rfl rfl ?_
      refine g_lload_n d_X1_goalsOf_31 rfl ?_
      refine g_lload_n d_X1_goalsOf_32 rfl ?_
      refine g_lneg d_X1_goalsOf_33 ?_
      refine g_land d_X1_goalsOf_34 ?_
      refine g_aload_n d_X1_goalsOf_35 rfl ?_
      refine g_getf d_X1_goalsOf_36 f_X1_9 rfl rfl ?_
      refine g_getf d_X1_goalsOf_39 f_X1_26 rfl rfl ?_
      refine g_callV (As := [.long (q &&& (-q)), .long (gG (qG (tG t)))]) d_X1_goalsOf_42 o_X2_spread l_X1_32 ⟨Nat.le_of_ble_eq_true rfl, Nat.le_of_ble_eq_true rfl⟩ (c_spread hE 105 (qG (tG t)) _ rfl (q &&& (-q)) (gG (qG (tG t)))) rfl rfl rfl rfl rfl rfl ?_ (Nat.zero_add _)
      refine g_lstore (L' := [some (.ref 124), some (.int r), some (.long q), none, some (.int i), some (.int (nI k)), some (.long (gSp (qG (tG t)) (q &&& (-q)) (gG (qG (tG t))))), none]) d_X1_goalsOf_45 rfl rfl ?_
      refine g_lload_n d_X1_goalsOf_47 rfl ?_
      refine g_lload d_X1_goalsOf_48 rfl ?_
      refine g_ldc2 (v := (-1)) d_X1_goalsOf_50 k_X1_36 ?_
      refine g_lxor d_X1_goalsOf_53 ?_
      refine g_land d_X1_goalsOf_54 ?_
      refine g_lstore_n (L' := [some (.ref 124), some (.int r), some (.long (q &&& ((gSp (qG (tG t)) (q &&& (-q)) (gG (qG (tG t)))) ^^^ (-1)))), none, some (.int i), some (.int (nI k)), some (.long (gSp (qG (tG t)) (q &&& (-q)) (gG (qG (tG t))))), none]) d_X1_goalsOf_55 rfl rfl ?_
      refine g_aload_n d_X1_goalsOf_56 rfl ?_
      refine g_lload d_X1_goalsOf_57 rfl ?_
      refine g_callV (As := [.long (gSp (qG (tG t)) (q &&& (-q)) (gG (qG (tG t))))]) d_X1_goalsOf_59 o_X1_entrances l_X1_38 ⟨Nat.le_of_ble_eq_true rfl, Nat.le_of_ble_eq_true rfl⟩ (c_entrances hE m t (gSp (qG (tG t)) (q &&& (-q)) (gG (qG (tG t))))) rfl rfl rfl rfl rfl rfl ?_ (Nat.zero_add _)
      refine g_callS (As := [.long (enF (qG (tG t)) (gSp (qG (tG t)) (q &&& (-q)) (gG (qG (tG t)))))]) d_X1_goalsOf_62 o_J13_bitCount_95d88 l_X1_42 ⟨Nat.le_of_ble_eq_true rfl, Nat.le_of_ble_eq_true rfl⟩ (c_bitCount hE (enF (qG (tG t)) (gSp (qG (tG t)) (q &&& (-q)) (gG (qG (tG t))))) _) rfl rfl ?_ (Nat.zero_add _)
      refine g_iconst (v := 1) d_X1_goalsOf_65 (by decide) ?_
      refine g_icmp_ne (tgt := 81) d_X1_goalsOf_66 (by decide) (fun c_66 => ?_) (fun c_66 => ?_)
      · refine g_iinc (v := ((nI k) + 1)) (L' := [some (.ref 124), some (.int r), some (.long (q &&& ((gSp (qG (tG t)) (q &&& (-q)) (gG (qG (tG t)))) ^^^ (-1)))), none, some (.int i), some (.int ((nI k) + 1)), some (.long (gSp (qG (tG t)) (q &&& (-q)) (gG (qG (tG t))))), none]) d_X1_goalsOf_81 rfl rfl rfl ?_
        refine g_goto (tgt := 14) d_X1_goalsOf_84 (by decide) ?_
        refine g_drop [6] (L1 := [some (.ref 124), some (.int r), some (.long (q &&& ((gSp (qG (tG t)) (q &&& (-q)) (gG (qG (tG t)))) ^^^ (-1)))), none, some (.int i), some (.int ((nI k) + 1)), none, none]) rfl ?_
        refine g_eq (S' := (14, [some (.ref 124), some (.int r), some (.long (q &&& ((gSp (qG (tG t)) (q &&& (-q)) (gG (qG (tG t)))) ^^^ (-1)))), none, some (.int i), some (.int (nI (k + 1))), none, none], [], (m, cw t))) (by first | rfl | (rw [nI_1]; rfl) | (simp only [nI_1]; rfl) | simp only [nI_1]) ?_
        rw [show goL (qG (tG t)) r (n + 1) q i = goL (qG (tG t)) r n (q &&& ((gSp (qG (tG t)) (q &&& (-q)) (gG (qG (tG t)))) ^^^ (-1))) i by simp only [goL, eq_false c_23, eq_false c_66, ↓reduceIte]]
        exact ih (k + 1) _ _ (by omega)
      · refine g_iload d_X1_goalsOf_69 rfl ?_
        refine g_iload_n d_X1_goalsOf_71 rfl ?_
        refine g_icmp_ne (tgt := 78) d_X1_goalsOf_72 (by decide) (fun c_72 => ?_) (fun c_72 => ?_)
        · refine g_iinc (v := (i + 1)) (L' := [some (.ref 124), some (.int r), some (.long (q &&& ((gSp (qG (tG t)) (q &&& (-q)) (gG (qG (tG t)))) ^^^ (-1)))), none, some (.int (i + 1)), some (.int (nI k)), some (.long (gSp (qG (tG t)) (q &&& (-q)) (gG (qG (tG t))))), none]) d_X1_goalsOf_78 rfl rfl rfl ?_
          refine g_iinc (v := ((nI k) + 1)) (L' := [some (.ref 124), some (.int r), some (.long (q &&& ((gSp (qG (tG t)) (q &&& (-q)) (gG (qG (tG t)))) ^^^ (-1)))), none, some (.int (i + 1)), some (.int ((nI k) + 1)), some (.long (gSp (qG (tG t)) (q &&& (-q)) (gG (qG (tG t))))), none]) d_X1_goalsOf_81 rfl rfl rfl ?_
          refine g_goto (tgt := 14) d_X1_goalsOf_84 (by decide) ?_
          refine g_drop [6] (L1 := [some (.ref 124), some (.int r), some (.long (q &&& ((gSp (qG (tG t)) (q &&& (-q)) (gG (qG (tG t)))) ^^^ (-1)))), none, some (.int (i + 1)), some (.int ((nI k) + 1)), none, none]) rfl ?_
          refine g_eq (S' := (14, [some (.ref 124), some (.int r), some (.long (q &&& ((gSp (qG (tG t)) (q &&& (-q)) (gG (qG (tG t)))) ^^^ (-1)))), none, some (.int (i + 1)), some (.int (nI (k + 1))), none, none], [], (m, cw t))) (by first | rfl | (rw [nI_1]; rfl) | (simp only [nI_1]; rfl) | simp only [nI_1]) ?_
          rw [show goL (qG (tG t)) r (n + 1) q i = goL (qG (tG t)) r n (q &&& ((gSp (qG (tG t)) (q &&& (-q)) (gG (qG (tG t)))) ^^^ (-1))) (i + 1) by simp only [goL, eq_false c_23, eq_true c_66, eq_false c_72, ↓reduceIte]]
          exact ih (k + 1) _ _ (by omega)
        · refine g_lload d_X1_goalsOf_75 rfl ?_
          exact g_retL d_X1_goalsOf_77 rfl (by simp only [goL, eq_false c_23, eq_true c_66, eq_true c_72, ↓reduceIte, Bool.false_eq_true]) (rfl)
theorem c_goalsOf {E : mEnv} (hE : E.1.stackTraces = false) (m : List mE) (t : cT) (r : Int32) : Rt E M_X1_goalsOf 0 [.ref 124, .int r] ((m, cw t)) (some (.long (goF (qG (tG t)) r))) ((m, cw t)) := by
  refine Rt.of hE rfl pn_X1 (Nat.le_of_ble_eq_true rfl) ?_
  refine g_eq (S' := (0, [some (.ref 124), some (.int r), none, none, none, none, none, none], [], (m, cw t))) rfl ?_
  refine g_aload_n d_X1_goalsOf_0 rfl ?_
  refine g_getf d_X1_goalsOf_1 f_X1_9 rfl rfl ?_
  refine g_getf d_X1_goalsOf_4 f_X1_26 rfl rfl ?_
  refine g_lstore_n (L' := [some (.ref 124), some (.int r), some (.long (gG (qG (tG t)))), none, none, none, none, none]) d_X1_goalsOf_7 rfl rfl ?_
  refine g_iconst (v := 0) d_X1_goalsOf_8 (by decide) ?_
  refine g_istore (L' := [some (.ref 124), some (.int r), some (.long (gG (qG (tG t)))), none, some (.int 0), none, none, none]) d_X1_goalsOf_9 rfl rfl ?_
  refine g_iconst (v := 0) d_X1_goalsOf_11 (by decide) ?_
  refine g_istore (L' := [some (.ref 124), some (.int r), some (.long (gG (qG (tG t)))), none, some (.int 0), some (.int 0), none, none]) d_X1_goalsOf_12 rfl rfl ?_
  refine g_eq (S' := (14, [some (.ref 124), some (.int r), some (.long (gG (qG (tG t)))), none, some (.int 0), some (.int (nI 0)), none, none], [], (m, cw t))) (rfl) ?_
  exact l_goalsOf hE m t r 64 0 _ _ (by omega)
def hmL (g : gT) : Nat → Nat → Int32
  | 0, k => nI k
  | n + 1, k => if goF g (nI k) = 0 then nI k else hmL g n (k + 1)
theorem d_X1_howMany_0 : decode (mB M_X1_howMany) 0 = .ok (.iconst 0, 1) := by decide +kernel
theorem d_X1_howMany_1 : decode (mB M_X1_howMany) 1 = .ok (.istore_n 1, 1) := by decide +kernel
theorem d_X1_howMany_2 : decode (mB M_X1_howMany) 2 = .ok (.iload_n 1, 1) := by decide +kernel
theorem d_X1_howMany_3 : decode (mB M_X1_howMany) 3 = .ok (.bipush 64, 2) := by decide +kernel
theorem d_X1_howMany_5 : decode (mB M_X1_howMany) 5 = .ok (.if_icmp .ge 19, 3) := by decide +kernel
theorem d_X1_howMany_8 : decode (mB M_X1_howMany) 8 = .ok (.aload_n 0, 1) := by decide +kernel
theorem d_X1_howMany_9 : decode (mB M_X1_howMany) 9 = .ok (.iload_n 1, 1) := by decide +kernel
theorem d_X1_howMany_10 : decode (mB M_X1_howMany) 10 = .ok (.invokevirtual 22, 3) := by decide +kernel
theorem d_X1_howMany_13 : decode (mB M_X1_howMany) 13 = .ok (.lconst 0, 1) := by decide +kernel
theorem d_X1_howMany_14 : decode (mB M_X1_howMany) 14 = .ok (.lcmp, 1) := by decide +kernel
theorem d_X1_howMany_15 : decode (mB M_X1_howMany) 15 = .ok (.ifCond .eq 9, 3) := by decide +kernel
theorem d_X1_howMany_18 : decode (mB M_X1_howMany) 18 = .ok (.iinc 1 1, 3) := by decide +kernel
theorem d_X1_howMany_21 : decode (mB M_X1_howMany) 21 = .ok (.goto (-19), 3) := by decide +kernel
theorem d_X1_howMany_24 : decode (mB M_X1_howMany) 24 = .ok (.iload_n 1, 1) := by decide +kernel
theorem d_X1_howMany_25 : decode (mB M_X1_howMany) 25 = .ok (.ireturn, 1) := by decide +kernel
theorem l_howMany {E : mEnv} (hE : E.1.stackTraces = false) (m : List mE) (t : cT) : ∀ (n : Nat) (k : Nat), k + n = 64 → Go E M_X1_howMany 0 (2, [some (.ref 124), some (.int (nI k))], [], (m, cw t)) (.inr (.inl (some (.int (hmL (qG (tG t)) n k)), (m, cw t)))) := by
  intro n
  induction n with
  | zero =>
    intro k hk
    obtain rfl : k = 64 := by omega
    refine g_iload_n d_X1_howMany_2 rfl ?_
    refine g_bipush (v := 64) d_X1_howMany_3 (by decide) ?_
    refine g_icmp_ge (tgt := 24) d_X1_howMany_5 (by decide) (fun c_5 => ?_) (fun c_5 => absurd c_5 (absurd (nI_le (Nat.le_refl 64) (by decide)) c_5))
    refine g_iload_n d_X1_howMany_24 rfl ?_
    exact g_retI d_X1_howMany_25 rfl (rfl) (rfl)
  | succ n ih =>
    intro k hk
    refine g_iload_n d_X1_howMany_2 rfl ?_
    refine g_bipush (v := 64) d_X1_howMany_3 (by decide) ?_
    refine g_icmp_ge (tgt := 24) d_X1_howMany_5 (by decide) (fun c_5 => absurd c_5 (nI_ge (a := k) (b := 64) (by omega) (by decide))) (fun c_5 => ?_)
    refine g_aload_n d_X1_howMany_8 rfl ?_
    refine g_iload_n d_X1_howMany_9 rfl ?_
    refine g_callV (As := [.int (nI k)]) d_X1_howMany_10 o_X1_goalsOf l_X1_22 ⟨Nat.le_of_ble_eq_true rfl, Nat.le_of_ble_eq_true rfl⟩ (c_goalsOf hE m t (nI k)) rfl rfl rfl rfl rfl rfl ?_ (Nat.zero_add _)
    refine g_lconst (v := 0) d_X1_howMany_13 (by decide) ?_
    refine g_lcmp_eq (tgt := 24) d_X1_howMany_14 d_X1_howMany_15 (by decide) (fun c_14 => ?_) (fun c_14 => ?_)
    · refine g_iload_n d_X1_howMany_24 rfl ?_
      exact g_retI d_X1_howMany_25 rfl (by simp only [hmL, eq_true c_14, ↓reduceIte, Bool.false_eq_true]) (rfl)
    · refine g_iinc (v := ((nI k) + 1)) (L' := [some (.ref 124), some (.int ((nI k) + 1))]) d_X1_howMany_18 rfl rfl rfl ?_
      refine g_goto (tgt := 2) d_X1_howMany_21 (by decide) ?_
      refine g_eq (S' := (2, [some (.ref 124), some (.int (nI (k + 1)))], [], (m, cw t))) (by first | rfl | (rw [nI_1]; rfl) | (simp only [nI_1]; rfl) | simp only [nI_1]) ?_
      rw [show hmL (qG (tG t)) (n + 1) k = hmL (qG (tG t)) n (k + 1) by simp only [hmL, eq_false c_14, ↓reduceIte]]
      exact ih (k + 1) (by omega)
theorem c_howMany {E : mEnv} (hE : E.1.stackTraces = false) (m : List mE) (t : cT)  : Rt E M_X1_howMany 0 [.ref 124] ((m, cw t)) (some (.int (hmL (qG (tG t)) 64 0))) ((m, cw t)) := by
  refine Rt.of hE rfl pn_X1 (Nat.le_of_ble_eq_true rfl) ?_
  refine g_eq (S' := (0, [some (.ref 124), none], [], (m, cw t))) rfl ?_
  refine g_iconst (v := 0) d_X1_howMany_0 (by decide) ?_
  refine g_istore_n (L' := [some (.ref 124), some (.int 0)]) d_X1_howMany_1 rfl rfl ?_
  refine g_eq (S' := (2, [some (.ref 124), some (.int (nI 0))], [], (m, cw t))) (rfl) ?_
  exact l_howMany hE m t 64 0 (by omega)
def gaI (f : Nat → Int64) (z i p : Int32) : Nat → Nat → Int32 → Option Int32 × Int32
  | 0, _, b => (none, b)
  | n + 1, k, b => if hasF (yAt f z i) (nI k) = true then (if b = p then (some (nI k), b) else gaI f z i p n (k + 1) (b + 1)) else gaI f z i p n (k + 1) b
def gaO (f : Nat → Int64) (z p : Int32) : Nat → Int32 → Int32
  | 0, _ => -1
  | n + 1, b => match gaI f z (nI (n + 1)) p 64 0 b with
    | (some c, _) => c
    | (none, b2) => gaO f z p n b2
def gaW (w : mW) (i : Int32) (p : Int32) (s : Int64) (r : Option Int32 × Int32) : mG := match r with
  | (some c, _) => .inr (.inl (some (.int c), w))
  | (none, b) => .inl (81, [some (.ref 124), some (.long s), none, some (.int p), some (.int b), some (.int i), none], [], w)
theorem d_X1_goalAt_0 : decode (mB M_X1_goalAt) 0 = .ok (.aload_n 0, 1) := by decide +kernel
theorem d_X1_goalAt_1 : decode (mB M_X1_goalAt) 1 = .ok (.getfield 18, 3) := by decide +kernel
theorem d_X1_goalAt_4 : decode (mB M_X1_goalAt) 4 = .ok (.aload_n 0, 1) := by decide +kernel
theorem d_X1_goalAt_5 : decode (mB M_X1_goalAt) 5 = .ok (.getfield 9, 3) := by decide +kernel
theorem d_X1_goalAt_8 : decode (mB M_X1_goalAt) 8 = .ok (.aload_n 0, 1) := by decide +kernel
theorem d_X1_goalAt_9 : decode (mB M_X1_goalAt) 9 = .ok (.lload_n 1, 1) := by decide +kernel
theorem d_X1_goalAt_10 : decode (mB M_X1_goalAt) 10 = .ok (.invokevirtual 38, 3) := by decide +kernel
theorem d_X1_goalAt_13 : decode (mB M_X1_goalAt) 13 = .ok (.lload_n 1, 1) := by decide +kernel
theorem d_X1_goalAt_14 : decode (mB M_X1_goalAt) 14 = .ok (.invokevirtual 51, 3) := by decide +kernel
theorem d_X1_goalAt_17 : decode (mB M_X1_goalAt) 17 = .ok (.iconst 0, 1) := by decide +kernel
theorem d_X1_goalAt_18 : decode (mB M_X1_goalAt) 18 = .ok (.istore 4, 2) := by decide +kernel
theorem d_X1_goalAt_20 : decode (mB M_X1_goalAt) 20 = .ok (.aload_n 0, 1) := by decide +kernel
theorem d_X1_goalAt_21 : decode (mB M_X1_goalAt) 21 = .ok (.getfield 18, 3) := by decide +kernel
theorem d_X1_goalAt_24 : decode (mB M_X1_goalAt) 24 = .ok (.getfield 55, 3) := by decide +kernel
theorem d_X1_goalAt_27 : decode (mB M_X1_goalAt) 27 = .ok (.iconst 1, 1) := by decide +kernel
theorem d_X1_goalAt_28 : decode (mB M_X1_goalAt) 28 = .ok (.isub, 1) := by decide +kernel
theorem d_X1_goalAt_29 : decode (mB M_X1_goalAt) 29 = .ok (.istore 5, 2) := by decide +kernel
theorem d_X1_goalAt_31 : decode (mB M_X1_goalAt) 31 = .ok (.iload 5, 2) := by decide +kernel
theorem d_X1_goalAt_33 : decode (mB M_X1_goalAt) 33 = .ok (.ifCond .le 54, 3) := by decide +kernel
theorem d_X1_goalAt_36 : decode (mB M_X1_goalAt) 36 = .ok (.iconst 0, 1) := by decide +kernel
theorem d_X1_goalAt_37 : decode (mB M_X1_goalAt) 37 = .ok (.istore 6, 2) := by decide +kernel
theorem d_X1_goalAt_39 : decode (mB M_X1_goalAt) 39 = .ok (.iload 6, 2) := by decide +kernel
theorem d_X1_goalAt_41 : decode (mB M_X1_goalAt) 41 = .ok (.bipush 64, 2) := by decide +kernel
theorem d_X1_goalAt_43 : decode (mB M_X1_goalAt) 43 = .ok (.if_icmp .ge 38, 3) := by decide +kernel
theorem d_X1_goalAt_46 : decode (mB M_X1_goalAt) 46 = .ok (.aload_n 0, 1) := by decide +kernel
theorem d_X1_goalAt_47 : decode (mB M_X1_goalAt) 47 = .ok (.getfield 18, 3) := by decide +kernel
theorem d_X1_goalAt_50 : decode (mB M_X1_goalAt) 50 = .ok (.iload 5, 2) := by decide +kernel
theorem d_X1_goalAt_52 : decode (mB M_X1_goalAt) 52 = .ok (.invokevirtual 59, 3) := by decide +kernel
theorem d_X1_goalAt_55 : decode (mB M_X1_goalAt) 55 = .ok (.iload 6, 2) := by decide +kernel
theorem d_X1_goalAt_57 : decode (mB M_X1_goalAt) 57 = .ok (.invokestatic 62, 3) := by decide +kernel
theorem d_X1_goalAt_60 : decode (mB M_X1_goalAt) 60 = .ok (.ifCond .eq 15, 3) := by decide +kernel
theorem d_X1_goalAt_63 : decode (mB M_X1_goalAt) 63 = .ok (.iload 4, 2) := by decide +kernel
theorem d_X1_goalAt_65 : decode (mB M_X1_goalAt) 65 = .ok (.iload_n 3, 1) := by decide +kernel
theorem d_X1_goalAt_66 : decode (mB M_X1_goalAt) 66 = .ok (.if_icmp .ne 6, 3) := by decide +kernel
theorem d_X1_goalAt_69 : decode (mB M_X1_goalAt) 69 = .ok (.iload 6, 2) := by decide +kernel
theorem d_X1_goalAt_71 : decode (mB M_X1_goalAt) 71 = .ok (.ireturn, 1) := by decide +kernel
theorem d_X1_goalAt_72 : decode (mB M_X1_goalAt) 72 = .ok (.iinc 4 1, 3) := by decide +kernel
theorem d_X1_goalAt_75 : decode (mB M_X1_goalAt) 75 = .ok (.iinc 6 1, 3) := by decide +kernel
theorem d_X1_goalAt_78 : decode (mB M_X1_goalAt) 78 = .ok (.goto (-39), 3) := by decide +kernel
theorem d_X1_goalAt_81 : decode (mB M_X1_goalAt) 81 = .ok (.iinc 5 (-1), 3) := by decide +kernel
theorem d_X1_goalAt_84 : decode (mB M_X1_goalAt) 84 = .ok (.goto (-53), 3) := by decide +kernel
theorem d_X1_goalAt_87 : decode (mB M_X1_goalAt) 87 = .ok (.iconst (-1), 1) := by decide +kernel
theorem d_X1_goalAt_88 : decode (mB M_X1_goalAt) 88 = .ok (.ireturn, 1) := by decide +kernel
theorem l_goalAtI {E : mEnv} (hE : E.1.stackTraces = false) (m : List mE) (t : cT) (s : Int64) (p i : Int32) : ∀ (n : Nat) (k : Nat) (b : Int32), k + n = 64 → Go E M_X1_goalAt 0 (39, [some (.ref 124), some (.long s), none, some (.int p), some (.int b), some (.int i), some (.int (nI k))], [], (m, cw t)) (gaW (m, cw t) i p s (gaI (tL t).1 (tL t).2 i p n k b)) := by
  intro n
  induction n with
  | zero =>
    intro k b hk
    obtain rfl : k = 64 := by omega
    refine g_iload d_X1_goalAt_39 rfl ?_
    refine g_bipush (v := 64) d_X1_goalAt_41 (by decide) ?_
    refine g_icmp_ge (tgt := 81) d_X1_goalAt_43 (by decide) (fun c_43 => ?_) (fun c_43 => absurd c_43 (absurd (nI_le (Nat.le_refl 64) (by decide)) c_43))
    refine g_drop [6] rfl ?_
    exact g_end rfl
  | succ n ih =>
    intro k b hk
    refine g_iload d_X1_goalAt_39 rfl ?_
    refine g_bipush (v := 64) d_X1_goalAt_41 (by decide) ?_
    refine g_icmp_ge (tgt := 81) d_X1_goalAt_43 (by decide) (fun c_43 => absurd c_43 (nI_ge (a := k) (b := 64) (by omega) (by decide))) (fun c_43 => ?_)
    refine g_aload_n d_X1_goalAt_46 rfl ?_
    refine g_getf d_X1_goalAt_47 f_X1_18 rfl rfl ?_
    refine g_iload d_X1_goalAt_50 rfl ?_
    refine g_callV (As := [.int i]) d_X1_goalAt_52 o_X4_at l_X1_59 ⟨Nat.le_of_ble_eq_true rfl, Nat.le_of_ble_eq_true rfl⟩ (c_yat hE 125 126 (tL t).2 (tL t).1 _ rfl rfl i) rfl rfl rfl rfl rfl rfl ?_ (Nat.zero_add _)
    refine g_iload d_X1_goalAt_55 rfl ?_
    refine g_callN (As := [.long (yAt (tL t).1 (tL t).2 i), .int (nI k)]) d_X1_goalAt_57 o_X11_has n_X1_62 ⟨Nat.le_of_ble_eq_true rfl, Nat.le_of_ble_eq_true rfl⟩ (c_has hE (yAt (tL t).1 (tL t).2 i) (nI k) _) rfl rfl ?_ (Nat.zero_add _)
    refine g_ifb_eq (tgt := 75) d_X1_goalAt_60 (by decide) (fun c_60 => ?_) (fun c_60 => ?_)
    · refine g_iinc (v := ((nI k) + 1)) (L' := [some (.ref 124), some (.long s), none, some (.int p), some (.int b), some (.int i), some (.int ((nI k) + 1))]) d_X1_goalAt_75 rfl rfl rfl ?_
      refine g_goto (tgt := 39) d_X1_goalAt_78 (by decide) ?_
      refine g_eq (S' := (39, [some (.ref 124), some (.long s), none, some (.int p), some (.int b), some (.int i), some (.int (nI (k + 1)))], [], (m, cw t))) (by first | rfl | (rw [nI_1]; rfl) | (simp only [nI_1]; rfl) | simp only [nI_1]) ?_
      rw [show gaI (tL t).1 (tL t).2 i p (n + 1) k b = gaI (tL t).1 (tL t).2 i p n (k + 1) b by simp only [gaI, c_60, ↓reduceIte, Bool.false_eq_true]]
      exact ih (k + 1) _ (by omega)
    · refine g_iload d_X1_goalAt_63 rfl ?_
      refine g_iload_n d_X1_goalAt_65 rfl ?_
      refine g_icmp_ne (tgt := 72) d_X1_goalAt_66 (by decide) (fun c_66 => ?_) (fun c_66 => ?_)
      · refine g_iinc (v := (b + 1)) (L' := [some (.ref 124), some (.long s), none, some (.int p), some (.int (b + 1)), some (.int i), some (.int (nI k))]) d_X1_goalAt_72 rfl rfl rfl ?_
        refine g_iinc (v := ((nI k) + 1)) (L' := [some (.ref 124), some (.long s), none, some (.int p), some (.int (b + 1)), some (.int i), some (.int ((nI k) + 1))]) d_X1_goalAt_75 rfl rfl rfl ?_
        refine g_goto (tgt := 39) d_X1_goalAt_78 (by decide) ?_
        refine g_eq (S' := (39, [some (.ref 124), some (.long s), none, some (.int p), some (.int (b + 1)), some (.int i), some (.int (nI (k + 1)))], [], (m, cw t))) (by first | rfl | (rw [nI_1]; rfl) | (simp only [nI_1]; rfl) | simp only [nI_1]) ?_
        rw [show gaI (tL t).1 (tL t).2 i p (n + 1) k b = gaI (tL t).1 (tL t).2 i p n (k + 1) (b + 1) by simp only [gaI, c_60, eq_false c_66, ↓reduceIte, Bool.false_eq_true]]
        exact ih (k + 1) _ (by omega)
      · rw [show gaI (tL t).1 (tL t).2 i p (n + 1) k b = (some (nI k), b) by simp only [gaI, c_60, eq_true c_66, ↓reduceIte]]
        refine g_iload d_X1_goalAt_69 rfl ?_
        exact g_retI d_X1_goalAt_71 rfl (rfl) (rfl)
theorem l_goalAt {E : mEnv} (hE : E.1.stackTraces = false) (m : List mE) (t : cT) (s : Int64) (p : Int32) : ∀ (n : Nat) (b i : Int32), n < 2 ^ 31 → (i = nI n ∨ (n = 0 ∧ i ≤ 0)) → Go E M_X1_goalAt 0 (31, [some (.ref 124), some (.long s), none, some (.int p), some (.int b), some (.int i), none], [], (m, cw t)) (.inr (.inl (some (.int (gaO (tL t).1 (tL t).2 p n b)), (m, cw t)))) := by
  intro n
  induction n with
  | zero =>
    intro b i hn hi
    have h0 : i ≤ 0 := hi.elim (fun h => by rw [h]; decide) (fun h => h.2)
    refine g_iload d_X1_goalAt_31 rfl ?_
    refine g_if_le (tgt := 87) d_X1_goalAt_33 (by decide) (fun c_33 => ?_) (fun c_33 => absurd h0 c_33)
    refine g_iconst (v := (-1)) d_X1_goalAt_87 (by decide) ?_
    exact g_retI d_X1_goalAt_88 rfl rfl rfl
  | succ n ih =>
    intro b i hn hi
    obtain rfl : i = nI (n + 1) := hi.elim id (fun h => absurd h.1 (Nat.succ_ne_zero n))
    refine g_iload d_X1_goalAt_31 rfl ?_
    refine g_if_le (tgt := 87) d_X1_goalAt_33 (by decide) (fun c_33 => absurd c_33 (nI_nle (by omega) hn)) (fun c_33 => ?_)
    refine g_iconst (v := 0) d_X1_goalAt_36 (by decide) ?_
    refine g_istore (L' := [some (.ref 124), some (.long s), none, some (.int p), some (.int b), some (.int (nI (n + 1))), some (.int 0)]) d_X1_goalAt_37 rfl rfl ?_
    have h1 := l_goalAtI hE m t s p (nI (n + 1)) 64 0 b (by omega)
    cases hr : gaI (tL t).1 (tL t).2 (nI (n + 1)) p 64 0 b with
    | mk o b2 =>
      rw [hr] at h1
      cases o with
      | some c =>
        rw [show gaO (tL t).1 (tL t).2 p (n + 1) b = c by simp only [gaO, hr]]
        exact h1
      | none =>
        rw [show gaO (tL t).1 (tL t).2 p (n + 1) b = gaO (tL t).1 (tL t).2 p n b2 by simp only [gaO, hr]]
        refine Go.trans0 h1 ?_
        refine g_iinc (v := (nI (n + 1) + (-1))) (L' := [some (.ref 124), some (.long s), none, some (.int p), some (.int b2), some (.int (nI (n + 1) + (-1))), none]) d_X1_goalAt_81 rfl rfl rfl ?_
        refine g_goto (tgt := 31) d_X1_goalAt_84 (by decide) ?_
        exact ih b2 _ (by omega) (Or.inl (pk_m1 n))
def gaF (g : gT) (s : Int64) (p : Int32) (f : Nat → Int64) : Int32 := gaO (yLay g (enF g s) s f).1 (nI (yLay g (enF g s) s f).2) p ((yLay g (enF g s) s f).2 - 1) 0
def laL (g : gT) (s : Int64) (f : Nat → Int64) : (Nat → Int64) × Int32 := ((yLay g (enF g s) s f).1, nI (yLay g (enF g s) s f).2)
theorem c_goalAt {E : mEnv} (hE : E.1.stackTraces = false) (m : List mE) (t : cT) (s : Int64) (p : Int32) : Rt E M_X1_goalAt 0 [.ref 124, .long s, .int p] ((m, cw t)) (some (.int (gaF (qG (tG t)) s p (tL t).1))) ((m, cw (wL t (laL (qG (tG t)) s (tL t).1)))) := by
  have hs0 : (yLay (qG (tG t)) (enF (qG (tG t)) s) s (tL t).1).2 ≤ 0 + 64 := yLa_size _ _ 64 0 _ _ _
  refine Rt.of hE rfl pn_X1 (Nat.le_of_ble_eq_true rfl) ?_
  refine g_eq (S' := (0, [some (.ref 124), some (.long s), none, some (.int p), none, none, none], [], (m, cw t))) rfl ?_
  refine g_aload_n d_X1_goalAt_0 rfl ?_
  refine g_getf d_X1_goalAt_1 f_X1_18 rfl rfl ?_
  refine g_aload_n d_X1_goalAt_4 rfl ?_
  refine g_getf d_X1_goalAt_5 f_X1_9 rfl rfl ?_
  refine g_aload_n d_X1_goalAt_8 rfl ?_
  refine g_lload_n d_X1_goalAt_9 rfl ?_
  refine g_callV (As := [.long s]) d_X1_goalAt_10 o_X1_entrances l_X1_38 ⟨Nat.le_of_ble_eq_true rfl, Nat.le_of_ble_eq_true rfl⟩ (c_entrances hE m t s) rfl rfl rfl rfl rfl rfl ?_ (Nat.zero_add _)
  refine g_lload_n d_X1_goalAt_13 rfl ?_
  refine g_callV (As := [.ref 105, .long (enF (qG (tG t)) s), .long s]) d_X1_goalAt_14 o_X4_lay l_X1_51 ⟨Nat.le_of_ble_eq_true rfl, Nat.le_of_ble_eq_true rfl⟩ (c_lay hE 125 126 105 (tL t).2 (tL t).1 (qG (tG t)) _ rfl rfl rfl (by decide) (by decide) (by decide) (enF (qG (tG t)) s) s) rfl rfl rfl rfl rfl rfl ?_ (Nat.zero_add _)
  refine g_eq (S' := (17, [some (.ref 124), some (.long s), none, some (.int p), none, none, none], [], (m, cw (wL t (laL (qG (tG t)) s (tL t).1))))) rfl ?_
  refine g_iconst (v := 0) d_X1_goalAt_17 (by decide) ?_
  refine g_istore (L' := [some (.ref 124), some (.long s), none, some (.int p), some (.int 0), none, none]) d_X1_goalAt_18 rfl rfl ?_
  refine g_aload_n d_X1_goalAt_20 rfl ?_
  refine g_getf d_X1_goalAt_21 f_X1_18 rfl rfl ?_
  refine g_getf d_X1_goalAt_24 f_X1_55 rfl rfl ?_
  refine g_iconst (v := 1) d_X1_goalAt_27 (by decide) ?_
  refine g_isub d_X1_goalAt_28 ?_
  refine g_istore (L' := [some (.ref 124), some (.long s), none, some (.int p), some (.int 0), some (.int ((tL (wL t (laL (qG (tG t)) s (tL t).1))).2 - 1)), none]) d_X1_goalAt_29 rfl rfl ?_
  refine l_goalAt hE m (wL t (laL (qG (tG t)) s (tL t).1)) s p ((yLay (qG (tG t)) (enF (qG (tG t)) s) s (tL t).1).2 - 1) 0 _ (by omega) ?_
  show nI (yLay (qG (tG t)) (enF (qG (tG t)) s) s (tL t).1).2 - 1 = nI ((yLay (qG (tG t)) (enF (qG (tG t)) s) s (tL t).1).2 - 1) ∨ ((yLay (qG (tG t)) (enF (qG (tG t)) s) s (tL t).1).2 - 1 = 0 ∧ nI (yLay (qG (tG t)) (enF (qG (tG t)) s) s (tL t).1).2 - 1 ≤ 0)
  rcases Nat.eq_zero_or_pos (yLay (qG (tG t)) (enF (qG (tG t)) s) s (tL t).1).2 with h | h
  · right; rw [h]; exact ⟨rfl, by decide⟩
  · left
    obtain ⟨j, hj⟩ : ∃ j, (yLay (qG (tG t)) (enF (qG (tG t)) s) s (tL t).1).2 = j + 1 := ⟨(yLay (qG (tG t)) (enF (qG (tG t)) s) s (tL t).1).2 - 1, by omega⟩
    rw [hj, nI_pred]; rfl
