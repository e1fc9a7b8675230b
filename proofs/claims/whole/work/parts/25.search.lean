/-! Search: a push looked at, a position visited, the run -/
/-- where the box goes, the boxes behind the push -/
def lkT (g : gT) (q : Int64) (c d : Int32) : Int64 := gMv g (jshl 1 c) d &&& (q ^^^ (-1))
def lkA (g : gT) (q : Int64) (c d : Int32) : Int64 := (q &&& (jshl 1 c ^^^ (-1))) ||| lkT g q c d
def lkS (g : gT) (q : SeT) (i : Int32) (ar : Int64) (c d : Int32) : SeT := if lkT g (longAtF 1000 (sB q) i) c d = 0 then q else if gMv g (jshl 1 c) ((d + 2) &&& 3) &&& ar = 0 then q else if sW q = true then (if gSr g (lkA g (longAtF 1000 (sB q) i) c d) = 0 then adS q (lkA g (longAtF 1000 (sB q) i) c d) (lowF (gSp g (jshl 1 c) (gO g &&& (lkA g (longAtF 1000 (sB q) i) c d ^^^ (-1))))) i (4 * c + d) else q) else adS q (lkA g (longAtF 1000 (sB q) i) c d) (lowF (gSp g (jshl 1 c) (gO g &&& (lkA g (longAtF 1000 (sB q) i) c d ^^^ (-1))))) i (4 * c + d)
theorem d_X8_lookAt_0 : decode (mB M_X8_lookAt) 0 = .ok (.aload_n 0, 1) := by decide +kernel
theorem d_X8_lookAt_1 : decode (mB M_X8_lookAt) 1 = .ok (.getfield 15, 3) := by decide +kernel
theorem d_X8_lookAt_4 : decode (mB M_X8_lookAt) 4 = .ok (.iload_n 1, 1) := by decide +kernel
theorem d_X8_lookAt_5 : decode (mB M_X8_lookAt) 5 = .ok (.invokestatic 74, 3) := by decide +kernel
theorem d_X8_lookAt_8 : decode (mB M_X8_lookAt) 8 = .ok (.lstore 6, 2) := by decide +kernel
theorem d_X8_lookAt_10 : decode (mB M_X8_lookAt) 10 = .ok (.iload 4, 2) := by decide +kernel
theorem d_X8_lookAt_12 : decode (mB M_X8_lookAt) 12 = .ok (.invokestatic 89, 3) := by decide +kernel
theorem d_X8_lookAt_15 : decode (mB M_X8_lookAt) 15 = .ok (.lstore 8, 2) := by decide +kernel
theorem d_X8_lookAt_17 : decode (mB M_X8_lookAt) 17 = .ok (.aload_n 0, 1) := by decide +kernel
theorem d_X8_lookAt_18 : decode (mB M_X8_lookAt) 18 = .ok (.getfield 9, 3) := by decide +kernel
theorem d_X8_lookAt_21 : decode (mB M_X8_lookAt) 21 = .ok (.lload 8, 2) := by decide +kernel
theorem d_X8_lookAt_23 : decode (mB M_X8_lookAt) 23 = .ok (.iload 5, 2) := by decide +kernel
theorem d_X8_lookAt_25 : decode (mB M_X8_lookAt) 25 = .ok (.invokevirtual 108, 3) := by decide +kernel
theorem d_X8_lookAt_28 : decode (mB M_X8_lookAt) 28 = .ok (.lload 6, 2) := by decide +kernel
theorem d_X8_lookAt_30 : decode (mB M_X8_lookAt) 30 = .ok (.ldc2_w 83, 3) := by decide +kernel
theorem d_X8_lookAt_33 : decode (mB M_X8_lookAt) 33 = .ok (.lxor, 1) := by decide +kernel
theorem d_X8_lookAt_34 : decode (mB M_X8_lookAt) 34 = .ok (.land, 1) := by decide +kernel
theorem d_X8_lookAt_35 : decode (mB M_X8_lookAt) 35 = .ok (.lstore 10, 2) := by decide +kernel
theorem d_X8_lookAt_37 : decode (mB M_X8_lookAt) 37 = .ok (.lload 10, 2) := by decide +kernel
theorem d_X8_lookAt_39 : decode (mB M_X8_lookAt) 39 = .ok (.lconst 0, 1) := by decide +kernel
theorem d_X8_lookAt_40 : decode (mB M_X8_lookAt) 40 = .ok (.lcmp, 1) := by decide +kernel
theorem d_X8_lookAt_41 : decode (mB M_X8_lookAt) 41 = .ok (.ifCond .eq 24, 3) := by decide +kernel
theorem d_X8_lookAt_44 : decode (mB M_X8_lookAt) 44 = .ok (.aload_n 0, 1) := by decide +kernel
theorem d_X8_lookAt_45 : decode (mB M_X8_lookAt) 45 = .ok (.getfield 9, 3) := by decide +kernel
theorem d_X8_lookAt_48 : decode (mB M_X8_lookAt) 48 = .ok (.lload 8, 2) := by decide +kernel
theorem d_X8_lookAt_50 : decode (mB M_X8_lookAt) 50 = .ok (.iload 5, 2) := by decide +kernel
theorem d_X8_lookAt_52 : decode (mB M_X8_lookAt) 52 = .ok (.invokestatic 112, 3) := by decide +kernel
theorem d_X8_lookAt_55 : decode (mB M_X8_lookAt) 55 = .ok (.invokevirtual 108, 3) := by decide +kernel
theorem d_X8_lookAt_58 : decode (mB M_X8_lookAt) 58 = .ok (.lload_n 2, 1) := by decide +kernel
theorem d_X8_lookAt_59 : decode (mB M_X8_lookAt) 59 = .ok (.land, 1) := by decide +kernel
theorem d_X8_lookAt_60 : decode (mB M_X8_lookAt) 60 = .ok (.lconst 0, 1) := by decide +kernel
theorem d_X8_lookAt_61 : decode (mB M_X8_lookAt) 61 = .ok (.lcmp, 1) := by decide +kernel
theorem d_X8_lookAt_62 : decode (mB M_X8_lookAt) 62 = .ok (.ifCond .ne 4, 3) := by decide +kernel
theorem d_X8_lookAt_65 : decode (mB M_X8_lookAt) 65 = .ok (.return_, 1) := by decide +kernel
theorem d_X8_lookAt_66 : decode (mB M_X8_lookAt) 66 = .ok (.lload 6, 2) := by decide +kernel
theorem d_X8_lookAt_68 : decode (mB M_X8_lookAt) 68 = .ok (.lload 8, 2) := by decide +kernel
theorem d_X8_lookAt_70 : decode (mB M_X8_lookAt) 70 = .ok (.ldc2_w 83, 3) := by decide +kernel
theorem d_X8_lookAt_73 : decode (mB M_X8_lookAt) 73 = .ok (.lxor, 1) := by decide +kernel
theorem d_X8_lookAt_74 : decode (mB M_X8_lookAt) 74 = .ok (.land, 1) := by decide +kernel
theorem d_X8_lookAt_75 : decode (mB M_X8_lookAt) 75 = .ok (.lload 10, 2) := by decide +kernel
theorem d_X8_lookAt_77 : decode (mB M_X8_lookAt) 77 = .ok (.lor, 1) := by decide +kernel
theorem d_X8_lookAt_78 : decode (mB M_X8_lookAt) 78 = .ok (.lstore 12, 2) := by decide +kernel
theorem d_X8_lookAt_80 : decode (mB M_X8_lookAt) 80 = .ok (.aload_n 0, 1) := by decide +kernel
theorem d_X8_lookAt_81 : decode (mB M_X8_lookAt) 81 = .ok (.getfield 36, 3) := by decide +kernel
theorem d_X8_lookAt_84 : decode (mB M_X8_lookAt) 84 = .ok (.ifCond .eq 16, 3) := by decide +kernel
theorem d_X8_lookAt_87 : decode (mB M_X8_lookAt) 87 = .ok (.aload_n 0, 1) := by decide +kernel
theorem d_X8_lookAt_88 : decode (mB M_X8_lookAt) 88 = .ok (.getfield 9, 3) := by decide +kernel
theorem d_X8_lookAt_91 : decode (mB M_X8_lookAt) 91 = .ok (.lload 12, 2) := by decide +kernel
theorem d_X8_lookAt_93 : decode (mB M_X8_lookAt) 93 = .ok (.invokevirtual 116, 3) := by decide +kernel
theorem d_X8_lookAt_96 : decode (mB M_X8_lookAt) 96 = .ok (.ifCond .eq 4, 3) := by decide +kernel
theorem d_X8_lookAt_99 : decode (mB M_X8_lookAt) 99 = .ok (.return_, 1) := by decide +kernel
theorem d_X8_lookAt_100 : decode (mB M_X8_lookAt) 100 = .ok (.aload_n 0, 1) := by decide +kernel
theorem d_X8_lookAt_101 : decode (mB M_X8_lookAt) 101 = .ok (.getfield 9, 3) := by decide +kernel
theorem d_X8_lookAt_104 : decode (mB M_X8_lookAt) 104 = .ok (.lload 8, 2) := by decide +kernel
theorem d_X8_lookAt_106 : decode (mB M_X8_lookAt) 106 = .ok (.aload_n 0, 1) := by decide +kernel
theorem d_X8_lookAt_107 : decode (mB M_X8_lookAt) 107 = .ok (.getfield 9, 3) := by decide +kernel
theorem d_X8_lookAt_110 : decode (mB M_X8_lookAt) 110 = .ok (.getfield 93, 3) := by decide +kernel
theorem d_X8_lookAt_113 : decode (mB M_X8_lookAt) 113 = .ok (.lload 12, 2) := by decide +kernel
theorem d_X8_lookAt_115 : decode (mB M_X8_lookAt) 115 = .ok (.ldc2_w 83, 3) := by decide +kernel
theorem d_X8_lookAt_118 : decode (mB M_X8_lookAt) 118 = .ok (.lxor, 1) := by decide +kernel
theorem d_X8_lookAt_119 : decode (mB M_X8_lookAt) 119 = .ok (.land, 1) := by decide +kernel
theorem d_X8_lookAt_120 : decode (mB M_X8_lookAt) 120 = .ok (.invokevirtual 96, 3) := by decide +kernel
theorem d_X8_lookAt_123 : decode (mB M_X8_lookAt) 123 = .ok (.lstore 14, 2) := by decide +kernel
theorem d_X8_lookAt_125 : decode (mB M_X8_lookAt) 125 = .ok (.aload_n 0, 1) := by decide +kernel
theorem d_X8_lookAt_126 : decode (mB M_X8_lookAt) 126 = .ok (.lload 12, 2) := by decide +kernel
theorem d_X8_lookAt_128 : decode (mB M_X8_lookAt) 128 = .ok (.lload 14, 2) := by decide +kernel
theorem d_X8_lookAt_130 : decode (mB M_X8_lookAt) 130 = .ok (.invokestatic 62, 3) := by decide +kernel
theorem d_X8_lookAt_133 : decode (mB M_X8_lookAt) 133 = .ok (.iload_n 1, 1) := by decide +kernel
theorem d_X8_lookAt_134 : decode (mB M_X8_lookAt) 134 = .ok (.iconst 4, 1) := by decide +kernel
theorem d_X8_lookAt_135 : decode (mB M_X8_lookAt) 135 = .ok (.iload 4, 2) := by decide +kernel
theorem d_X8_lookAt_137 : decode (mB M_X8_lookAt) 137 = .ok (.imul, 1) := by decide +kernel
theorem d_X8_lookAt_138 : decode (mB M_X8_lookAt) 138 = .ok (.iload 5, 2) := by decide +kernel
theorem d_X8_lookAt_140 : decode (mB M_X8_lookAt) 140 = .ok (.iadd, 1) := by decide +kernel
theorem d_X8_lookAt_141 : decode (mB M_X8_lookAt) 141 = .ok (.invokevirtual 66, 3) := by decide +kernel
theorem d_X8_lookAt_144 : decode (mB M_X8_lookAt) 144 = .ok (.return_, 1) := by decide +kernel
theorem c_lookAt {E : mEnv} (hE : E.1.stackTraces = false) (m : List mE) (t : cT) (i : Int32) (ar : Int64) (c d : Int32) : Rt E M_X8_lookAt 0 [.ref 130, .int i, .long ar, .int c, .int d] ((m, cw t)) none ((m, cw (wE t (lkS (qG (tG t)) (tE t) i ar c d)))) := by
  refine Rt.of hE rfl pn_X8 (Nat.le_of_ble_eq_true rfl) ?_
  refine g_eq (S' := (0, [some (.ref 130), some (.int i), some (.long ar), none, some (.int c), some (.int d), none, none, none, none, none, none, none, none, none, none], [], (m, cw t))) rfl ?_
  refine g_aload_n d_X8_lookAt_0 rfl ?_
  refine g_getf d_X8_lookAt_1 f_X8_15 rfl rfl ?_
  refine g_iload_n d_X8_lookAt_4 rfl ?_
  refine g_callN (As := [.ref 131, .int i]) d_X8_lookAt_5 o_X11_longAt n_X8_74 ⟨Nat.le_of_ble_eq_true rfl, Nat.le_of_ble_eq_true rfl⟩ (c_longAt hE 131 1000 (sB (tE t)) i _ (by decide) rfl) rfl rfl ?_ (Nat.zero_add _)
  refine g_lstore (L' := [some (.ref 130), some (.int i), some (.long ar), none, some (.int c), some (.int d), some (.long (longAtF 1000 (sB (tE t)) i)), none, none, none, none, none, none, none, none, none]) d_X8_lookAt_8 rfl rfl ?_
  refine g_iload d_X8_lookAt_10 rfl ?_
  refine g_callN (As := [.int c]) d_X8_lookAt_12 o_X11_bit n_X8_89 ⟨Nat.le_of_ble_eq_true rfl, Nat.le_of_ble_eq_true rfl⟩ (c_bit hE c _) rfl rfl ?_ (Nat.zero_add _)
  refine g_lstore (L' := [some (.ref 130), some (.int i), some (.long ar), none, some (.int c), some (.int d), some (.long (longAtF 1000 (sB (tE t)) i)), none, some (.long (jshl 1 c)), none, none, none, none, none, none, none]) d_X8_lookAt_15 rfl rfl ?_
  refine g_aload_n d_X8_lookAt_17 rfl ?_
  refine g_getf d_X8_lookAt_18 f_X8_9 rfl rfl ?_
  refine g_lload d_X8_lookAt_21 rfl ?_
  refine g_iload d_X8_lookAt_23 rfl ?_
  refine g_callV (As := [.long (jshl 1 c), .int d]) d_X8_lookAt_25 o_X2_moved l_X8_108 ⟨Nat.le_of_ble_eq_true rfl, Nat.le_of_ble_eq_true rfl⟩ (c_moved hE 105 (qG (tG t)) _ rfl (jshl 1 c) d) rfl rfl rfl rfl rfl rfl ?_ (Nat.zero_add _)
  refine g_lload d_X8_lookAt_28 rfl ?_
  refine g_ldc2 (v := (-1)) d_X8_lookAt_30 k_X8_83 ?_
  refine g_lxor d_X8_lookAt_33 ?_
  refine g_land d_X8_lookAt_34 ?_
  refine g_lstore (L' := [some (.ref 130), some (.int i), some (.long ar), none, some (.int c), some (.int d), some (.long (longAtF 1000 (sB (tE t)) i)), none, some (.long (jshl 1 c)), none, some (.long (lkT (qG (tG t)) (longAtF 1000 (sB (tE t)) i) c d)), none, none, none, none, none]) d_X8_lookAt_35 rfl rfl ?_
  refine g_lload d_X8_lookAt_37 rfl ?_
  refine g_lconst (v := 0) d_X8_lookAt_39 (by decide) ?_
  refine g_lcmp_eq (tgt := 65) d_X8_lookAt_40 d_X8_lookAt_41 (by decide) (fun c_40 => ?_) (fun c_40 => ?_)
  · exact g_retV d_X8_lookAt_65 rfl (by simp only [lkS, eq_true c_40, ↓reduceIte, Bool.false_eq_true]; try rfl)
  · refine g_aload_n d_X8_lookAt_44 rfl ?_
    refine g_getf d_X8_lookAt_45 f_X8_9 rfl rfl ?_
    refine g_lload d_X8_lookAt_48 rfl ?_
    refine g_iload d_X8_lookAt_50 rfl ?_
    refine g_callN (As := [.int d]) d_X8_lookAt_52 o_X11_opposite n_X8_112 ⟨Nat.le_of_ble_eq_true rfl, Nat.le_of_ble_eq_true rfl⟩ (c_opposite hE d _) rfl rfl ?_ (Nat.zero_add _)
    refine g_callV (As := [.long (jshl 1 c), .int ((d + 2) &&& 3)]) d_X8_lookAt_55 o_X2_moved l_X8_108 ⟨Nat.le_of_ble_eq_true rfl, Nat.le_of_ble_eq_true rfl⟩ (c_moved hE 105 (qG (tG t)) _ rfl (jshl 1 c) ((d + 2) &&& 3)) rfl rfl rfl rfl rfl rfl ?_ (Nat.zero_add _)
    refine g_lload_n d_X8_lookAt_58 rfl ?_
    refine g_land d_X8_lookAt_59 ?_
    refine g_lconst (v := 0) d_X8_lookAt_60 (by decide) ?_
    refine g_lcmp_ne (tgt := 66) d_X8_lookAt_61 d_X8_lookAt_62 (by decide) (fun c_61 => ?_) (fun c_61 => ?_)
    · refine g_lload d_X8_lookAt_66 rfl ?_
      refine g_lload d_X8_lookAt_68 rfl ?_
      refine g_ldc2 (v := (-1)) d_X8_lookAt_70 k_X8_83 ?_
      refine g_lxor d_X8_lookAt_73 ?_
      refine g_land d_X8_lookAt_74 ?_
      refine g_lload d_X8_lookAt_75 rfl ?_
      refine g_lor d_X8_lookAt_77 ?_
      refine g_lstore (L' := [some (.ref 130), some (.int i), some (.long ar), none, some (.int c), some (.int d), some (.long (longAtF 1000 (sB (tE t)) i)), none, some (.long (jshl 1 c)), none, some (.long (lkT (qG (tG t)) (longAtF 1000 (sB (tE t)) i) c d)), none, some (.long (lkA (qG (tG t)) (longAtF 1000 (sB (tE t)) i) c d)), none, none, none]) d_X8_lookAt_78 rfl rfl ?_
      refine g_aload_n d_X8_lookAt_80 rfl ?_
      refine g_getf d_X8_lookAt_81 f_X8_36 rfl rfl ?_
      refine g_ifb_eq (tgt := 100) d_X8_lookAt_84 (by decide) (fun c_84 => ?_) (fun c_84 => ?_)
      · refine g_aload_n d_X8_lookAt_100 rfl ?_
        refine g_getf d_X8_lookAt_101 f_X8_9 rfl rfl ?_
        refine g_lload d_X8_lookAt_104 rfl ?_
        refine g_aload_n d_X8_lookAt_106 rfl ?_
        refine g_getf d_X8_lookAt_107 f_X8_9 rfl rfl ?_
        refine g_getf d_X8_lookAt_110 f_X8_93 rfl rfl ?_
        refine g_lload d_X8_lookAt_113 rfl ?_
        refine g_ldc2 (v := (-1)) d_X8_lookAt_115 k_X8_83 ?_
        refine g_lxor d_X8_lookAt_118 ?_
        refine g_land d_X8_lookAt_119 ?_
        refine g_callV (As := [.long (jshl 1 c), .long ((gO (qG (tG t))) &&& ((lkA (qG (tG t)) (longAtF 1000 (sB (tE t)) i) c d) ^^^ (-1)))]) d_X8_lookAt_120 o_X2_spread l_X8_96 ⟨Nat.le_of_ble_eq_true rfl, Nat.le_of_ble_eq_true rfl⟩ (c_spread hE 105 (qG (tG t)) _ rfl (jshl 1 c) ((gO (qG (tG t))) &&& ((lkA (qG (tG t)) (longAtF 1000 (sB (tE t)) i) c d) ^^^ (-1)))) rfl rfl rfl rfl rfl rfl ?_ (Nat.zero_add _)
        refine g_lstore (L' := [some (.ref 130), some (.int i), some (.long ar), none, some (.int c), some (.int d), some (.long (longAtF 1000 (sB (tE t)) i)), none, some (.long (jshl 1 c)), none, some (.long (lkT (qG (tG t)) (longAtF 1000 (sB (tE t)) i) c d)), none, some (.long (lkA (qG (tG t)) (longAtF 1000 (sB (tE t)) i) c d)), none, some (.long (gSp (qG (tG t)) (jshl 1 c) ((gO (qG (tG t))) &&& ((lkA (qG (tG t)) (longAtF 1000 (sB (tE t)) i) c d) ^^^ (-1))))), none]) d_X8_lookAt_123 rfl rfl ?_
        refine g_aload_n d_X8_lookAt_125 rfl ?_
        refine g_lload d_X8_lookAt_126 rfl ?_
        refine g_lload d_X8_lookAt_128 rfl ?_
        refine g_callN (As := [.long (gSp (qG (tG t)) (jshl 1 c) ((gO (qG (tG t))) &&& ((lkA (qG (tG t)) (longAtF 1000 (sB (tE t)) i) c d) ^^^ (-1))))]) d_X8_lookAt_130 o_X11_lowest n_X8_62 ⟨Nat.le_of_ble_eq_true rfl, Nat.le_of_ble_eq_true rfl⟩ (c_lowest hE (gSp (qG (tG t)) (jshl 1 c) ((gO (qG (tG t))) &&& ((lkA (qG (tG t)) (longAtF 1000 (sB (tE t)) i) c d) ^^^ (-1)))) _) rfl rfl ?_ (Nat.zero_add _)
        refine g_iload_n d_X8_lookAt_133 rfl ?_
        refine g_iconst (v := 4) d_X8_lookAt_134 (by decide) ?_
        refine g_iload d_X8_lookAt_135 rfl ?_
        refine g_imul d_X8_lookAt_137 ?_
        refine g_iload d_X8_lookAt_138 rfl ?_
        refine g_iadd d_X8_lookAt_140 ?_
        refine g_callV (As := [.long (lkA (qG (tG t)) (longAtF 1000 (sB (tE t)) i) c d), .int (lowF (gSp (qG (tG t)) (jshl 1 c) ((gO (qG (tG t))) &&& ((lkA (qG (tG t)) (longAtF 1000 (sB (tE t)) i) c d) ^^^ (-1))))), .int i, .int ((4 * c) + d)]) d_X8_lookAt_141 o_X8_add l_X8_66 ⟨Nat.le_of_ble_eq_true rfl, Nat.le_of_ble_eq_true rfl⟩ (c_sadd hE m t (lkA (qG (tG t)) (longAtF 1000 (sB (tE t)) i) c d) (lowF (gSp (qG (tG t)) (jshl 1 c) ((gO (qG (tG t))) &&& ((lkA (qG (tG t)) (longAtF 1000 (sB (tE t)) i) c d) ^^^ (-1))))) i ((4 * c) + d)) rfl rfl rfl rfl rfl rfl ?_ (Nat.zero_add _)
        exact g_retV d_X8_lookAt_144 rfl (by simp only [lkS, eq_false c_40, eq_false c_61, c_84, ↓reduceIte, Bool.false_eq_true]; try rfl)
      · refine g_aload_n d_X8_lookAt_87 rfl ?_
        refine g_getf d_X8_lookAt_88 f_X8_9 rfl rfl ?_
        refine g_lload d_X8_lookAt_91 rfl ?_
        refine g_callV (As := [.long (lkA (qG (tG t)) (longAtF 1000 (sB (tE t)) i) c d)]) d_X8_lookAt_93 o_X2_stuckReason l_X8_116 ⟨Nat.le_of_ble_eq_true rfl, Nat.le_of_ble_eq_true rfl⟩ (c_stuckReason hE 105 (qG (tG t)) _ rfl (lkA (qG (tG t)) (longAtF 1000 (sB (tE t)) i) c d)) rfl rfl rfl rfl rfl rfl ?_ (Nat.zero_add _)
        refine g_if_eq (tgt := 100) d_X8_lookAt_96 (by decide) (fun c_96 => ?_) (fun c_96 => ?_)
        · refine g_aload_n d_X8_lookAt_100 rfl ?_
          refine g_getf d_X8_lookAt_101 f_X8_9 rfl rfl ?_
          refine g_lload d_X8_lookAt_104 rfl ?_
          refine g_aload_n d_X8_lookAt_106 rfl ?_
          refine g_getf d_X8_lookAt_107 f_X8_9 rfl rfl ?_
          refine g_getf d_X8_lookAt_110 f_X8_93 rfl rfl ?_
          refine g_lload d_X8_lookAt_113 rfl ?_
          refine g_ldc2 (v := (-1)) d_X8_lookAt_115 k_X8_83 ?_
          refine g_lxor d_X8_lookAt_118 ?_
          refine g_land d_X8_lookAt_119 ?_
          refine g_callV (As := [.long (jshl 1 c), .long ((gO (qG (tG t))) &&& ((lkA (qG (tG t)) (longAtF 1000 (sB (tE t)) i) c d) ^^^ (-1)))]) d_X8_lookAt_120 o_X2_spread l_X8_96 ⟨Nat.le_of_ble_eq_true rfl, Nat.le_of_ble_eq_true rfl⟩ (c_spread hE 105 (qG (tG t)) _ rfl (jshl 1 c) ((gO (qG (tG t))) &&& ((lkA (qG (tG t)) (longAtF 1000 (sB (tE t)) i) c d) ^^^ (-1)))) rfl rfl rfl rfl rfl rfl ?_ (Nat.zero_add _)
          refine g_lstore (L' := [some (.ref 130), some (.int i), some (.long ar), none, some (.int c), some (.int d), some (.long (longAtF 1000 (sB (tE t)) i)), none, some (.long (jshl 1 c)), none, some (.long (lkT (qG (tG t)) (longAtF 1000 (sB (tE t)) i) c d)), none, some (.long (lkA (qG (tG t)) (longAtF 1000 (sB (tE t)) i) c d)), none, some (.long (gSp (qG (tG t)) (jshl 1 c) ((gO (qG (tG t))) &&& ((lkA (qG (tG t)) (longAtF 1000 (sB (tE t)) i) c d) ^^^ (-1))))), none]) d_X8_lookAt_123 rfl rfl ?_
          refine g_aload_n d_X8_lookAt_125 rfl ?_
          refine g_lload d_X8_lookAt_126 rfl ?_
          refine g_lload d_X8_lookAt_128 rfl ?_
          refine g_callN (As := [.long (gSp (qG (tG t)) (jshl 1 c) ((gO (qG (tG t))) &&& ((lkA (qG (tG t)) (longAtF 1000 (sB (tE t)) i) c d) ^^^ (-1))))]) d_X8_lookAt_130 o_X11_lowest n_X8_62 ⟨Nat.le_of_ble_eq_true rfl, Nat.le_of_ble_eq_true rfl⟩ (c_lowest hE (gSp (qG (tG t)) (jshl 1 c) ((gO (qG (tG t))) &&& ((lkA (qG (tG t)) (longAtF 1000 (sB (tE t)) i) c d) ^^^ (-1)))) _) rfl rfl ?_ (Nat.zero_add _)
          refine g_iload_n d_X8_lookAt_133 rfl ?_
          refine g_iconst (v := 4) d_X8_lookAt_134 (by decide) ?_
          refine g_iload d_X8_lookAt_135 rfl ?_
          refine g_imul d_X8_lookAt_137 ?_
          refine g_iload d_X8_lookAt_138 rfl ?_
          refine g_iadd d_X8_lookAt_140 ?_
          refine g_callV (As := [.long (lkA (qG (tG t)) (longAtF 1000 (sB (tE t)) i) c d), .int (lowF (gSp (qG (tG t)) (jshl 1 c) ((gO (qG (tG t))) &&& ((lkA (qG (tG t)) (longAtF 1000 (sB (tE t)) i) c d) ^^^ (-1))))), .int i, .int ((4 * c) + d)]) d_X8_lookAt_141 o_X8_add l_X8_66 ⟨Nat.le_of_ble_eq_true rfl, Nat.le_of_ble_eq_true rfl⟩ (c_sadd hE m t (lkA (qG (tG t)) (longAtF 1000 (sB (tE t)) i) c d) (lowF (gSp (qG (tG t)) (jshl 1 c) ((gO (qG (tG t))) &&& ((lkA (qG (tG t)) (longAtF 1000 (sB (tE t)) i) c d) ^^^ (-1))))) i ((4 * c) + d)) rfl rfl rfl rfl rfl rfl ?_ (Nat.zero_add _)
          exact g_retV d_X8_lookAt_144 rfl (by simp only [lkS, eq_false c_40, eq_false c_61, c_84, eq_true c_96, ↓reduceIte, Bool.false_eq_true]; try rfl)
        · exact g_retV d_X8_lookAt_99 rfl (by simp only [lkS, eq_false c_40, eq_false c_61, c_84, eq_false c_96, ↓reduceIte, Bool.false_eq_true]; try rfl)
    · exact g_retV d_X8_lookAt_65 rfl (by simp only [lkS, eq_false c_40, eq_true c_61, ↓reduceIte, Bool.false_eq_true]; try rfl)
def viD (g : gT) (i : Int32) (ar : Int64) (c : Int32) : Nat → Nat → SeT → SeT
  | 0, _, q => q
  | n + 1, k, q => if sY q = true then q else viD g i ar c n (k + 1) (lkS g q i ar c (nI k))
def viC (g : gT) (i : Int32) (ar b : Int64) : Nat → Nat → SeT → SeT
  | 0, _, q => q
  | n + 1, k, q => viC g i ar b n (k + 1) (if hasF b (nI k) = true then viD g i ar (nI k) 4 0 q else q)
def viS (g : gT) (q : SeT) (i : Int32) : SeT := if longAtF 1000 (sB q) i &&& (gG g ^^^ (-1)) = 0 then (sB q, sP q, sF q, sU q, sT q, sM q, sW q, sN q, i, sY q) else viC g i (gSp g (jshl 1 (intAtF 1000 (sP q) i)) (gO g &&& (longAtF 1000 (sB q) i ^^^ (-1)))) (longAtF 1000 (sB q) i) 64 0 q
theorem d_X8_visit_0 : decode (mB M_X8_visit) 0 = .ok (.aload_n 0, 1) := by decide +kernel
theorem d_X8_visit_1 : decode (mB M_X8_visit) 1 = .ok (.getfield 15, 3) := by decide +kernel
theorem d_X8_visit_4 : decode (mB M_X8_visit) 4 = .ok (.iload_n 1, 1) := by decide +kernel
theorem d_X8_visit_5 : decode (mB M_X8_visit) 5 = .ok (.invokestatic 74, 3) := by decide +kernel
theorem d_X8_visit_8 : decode (mB M_X8_visit) 8 = .ok (.lstore_n 2, 1) := by decide +kernel
theorem d_X8_visit_9 : decode (mB M_X8_visit) 9 = .ok (.lload_n 2, 1) := by decide +kernel
theorem d_X8_visit_10 : decode (mB M_X8_visit) 10 = .ok (.aload_n 0, 1) := by decide +kernel
theorem d_X8_visit_11 : decode (mB M_X8_visit) 11 = .ok (.getfield 9, 3) := by decide +kernel
theorem d_X8_visit_14 : decode (mB M_X8_visit) 14 = .ok (.getfield 78, 3) := by decide +kernel
theorem d_X8_visit_17 : decode (mB M_X8_visit) 17 = .ok (.ldc2_w 83, 3) := by decide +kernel
theorem d_X8_visit_20 : decode (mB M_X8_visit) 20 = .ok (.lxor, 1) := by decide +kernel
theorem d_X8_visit_21 : decode (mB M_X8_visit) 21 = .ok (.land, 1) := by decide +kernel
theorem d_X8_visit_22 : decode (mB M_X8_visit) 22 = .ok (.lconst 0, 1) := by decide +kernel
theorem d_X8_visit_23 : decode (mB M_X8_visit) 23 = .ok (.lcmp, 1) := by decide +kernel
theorem d_X8_visit_24 : decode (mB M_X8_visit) 24 = .ok (.ifCond .ne 9, 3) := by decide +kernel
theorem d_X8_visit_27 : decode (mB M_X8_visit) 27 = .ok (.aload_n 0, 1) := by decide +kernel
theorem d_X8_visit_28 : decode (mB M_X8_visit) 28 = .ok (.iload_n 1, 1) := by decide +kernel
theorem d_X8_visit_29 : decode (mB M_X8_visit) 29 = .ok (.putfield 43, 3) := by decide +kernel
theorem d_X8_visit_32 : decode (mB M_X8_visit) 32 = .ok (.return_, 1) := by decide +kernel
theorem d_X8_visit_33 : decode (mB M_X8_visit) 33 = .ok (.aload_n 0, 1) := by decide +kernel
theorem d_X8_visit_34 : decode (mB M_X8_visit) 34 = .ok (.getfield 9, 3) := by decide +kernel
theorem d_X8_visit_37 : decode (mB M_X8_visit) 37 = .ok (.aload_n 0, 1) := by decide +kernel
theorem d_X8_visit_38 : decode (mB M_X8_visit) 38 = .ok (.getfield 19, 3) := by decide +kernel
theorem d_X8_visit_41 : decode (mB M_X8_visit) 41 = .ok (.iload_n 1, 1) := by decide +kernel
theorem d_X8_visit_42 : decode (mB M_X8_visit) 42 = .ok (.invokestatic 85, 3) := by decide +kernel
theorem d_X8_visit_45 : decode (mB M_X8_visit) 45 = .ok (.invokestatic 89, 3) := by decide +kernel
theorem d_X8_visit_48 : decode (mB M_X8_visit) 48 = .ok (.aload_n 0, 1) := by decide +kernel
theorem d_X8_visit_49 : decode (mB M_X8_visit) 49 = .ok (.getfield 9, 3) := by decide +kernel
theorem d_X8_visit_52 : decode (mB M_X8_visit) 52 = .ok (.getfield 93, 3) := by decide +kernel
theorem d_X8_visit_55 : decode (mB M_X8_visit) 55 = .ok (.lload_n 2, 1) := by decide +kernel
theorem d_X8_visit_56 : decode (mB M_X8_visit) 56 = .ok (.ldc2_w 83, 3) := by decide +kernel
theorem d_X8_visit_59 : decode (mB M_X8_visit) 59 = .ok (.lxor, 1) := by decide +kernel
theorem d_X8_visit_60 : decode (mB M_X8_visit) 60 = .ok (.land, 1) := by decide +kernel
theorem d_X8_visit_61 : decode (mB M_X8_visit) 61 = .ok (.invokevirtual 96, 3) := by decide +kernel
theorem d_X8_visit_64 : decode (mB M_X8_visit) 64 = .ok (.lstore 4, 2) := by decide +kernel
theorem d_X8_visit_66 : decode (mB M_X8_visit) 66 = .ok (.iconst 0, 1) := by decide +kernel
theorem d_X8_visit_67 : decode (mB M_X8_visit) 67 = .ok (.istore 6, 2) := by decide +kernel
theorem d_X8_visit_69 : decode (mB M_X8_visit) 69 = .ok (.iload 6, 2) := by decide +kernel
theorem d_X8_visit_71 : decode (mB M_X8_visit) 71 = .ok (.bipush 64, 2) := by decide +kernel
theorem d_X8_visit_73 : decode (mB M_X8_visit) 73 = .ok (.if_icmp .ge 51, 3) := by decide +kernel
theorem d_X8_visit_76 : decode (mB M_X8_visit) 76 = .ok (.lload_n 2, 1) := by decide +kernel
theorem d_X8_visit_77 : decode (mB M_X8_visit) 77 = .ok (.iload 6, 2) := by decide +kernel
theorem d_X8_visit_79 : decode (mB M_X8_visit) 79 = .ok (.invokestatic 100, 3) := by decide +kernel
theorem d_X8_visit_82 : decode (mB M_X8_visit) 82 = .ok (.ifCond .eq 36, 3) := by decide +kernel
theorem d_X8_visit_85 : decode (mB M_X8_visit) 85 = .ok (.iconst 0, 1) := by decide +kernel
theorem d_X8_visit_86 : decode (mB M_X8_visit) 86 = .ok (.istore 7, 2) := by decide +kernel
theorem d_X8_visit_88 : decode (mB M_X8_visit) 88 = .ok (.iload 7, 2) := by decide +kernel
theorem d_X8_visit_90 : decode (mB M_X8_visit) 90 = .ok (.iconst 4, 1) := by decide +kernel
theorem d_X8_visit_91 : decode (mB M_X8_visit) 91 = .ok (.if_icmp .ge 27, 3) := by decide +kernel
theorem d_X8_visit_94 : decode (mB M_X8_visit) 94 = .ok (.aload_n 0, 1) := by decide +kernel
theorem d_X8_visit_95 : decode (mB M_X8_visit) 95 = .ok (.getfield 46, 3) := by decide +kernel
theorem d_X8_visit_98 : decode (mB M_X8_visit) 98 = .ok (.ifCond .ne 20, 3) := by decide +kernel
theorem d_X8_visit_101 : decode (mB M_X8_visit) 101 = .ok (.aload_n 0, 1) := by decide +kernel
theorem d_X8_visit_102 : decode (mB M_X8_visit) 102 = .ok (.iload_n 1, 1) := by decide +kernel
theorem d_X8_visit_103 : decode (mB M_X8_visit) 103 = .ok (.lload 4, 2) := by decide +kernel
theorem d_X8_visit_105 : decode (mB M_X8_visit) 105 = .ok (.iload 6, 2) := by decide +kernel
theorem d_X8_visit_107 : decode (mB M_X8_visit) 107 = .ok (.iload 7, 2) := by decide +kernel
theorem d_X8_visit_109 : decode (mB M_X8_visit) 109 = .ok (.invokevirtual 104, 3) := by decide +kernel
theorem d_X8_visit_112 : decode (mB M_X8_visit) 112 = .ok (.iinc 7 1, 3) := by decide +kernel
theorem d_X8_visit_115 : decode (mB M_X8_visit) 115 = .ok (.goto (-27), 3) := by decide +kernel
theorem d_X8_visit_118 : decode (mB M_X8_visit) 118 = .ok (.iinc 6 1, 3) := by decide +kernel
theorem d_X8_visit_121 : decode (mB M_X8_visit) 121 = .ok (.goto (-52), 3) := by decide +kernel
theorem d_X8_visit_124 : decode (mB M_X8_visit) 124 = .ok (.return_, 1) := by decide +kernel
theorem l_viD {E : mEnv} (hE : E.1.stackTraces = false) (m : List mE) (i : Int32) (b ar : Int64) (c : Int32) : ∀ (n : Nat) (k : Nat) (t : cT), k + n = 4 → Go E M_X8_visit 0 (88, [some (.ref 130), some (.int i), some (.long b), none, some (.long ar), none, some (.int c), some (.int (nI k))], [], (m, cw t)) (.inl (118, [some (.ref 130), some (.int i), some (.long b), none, some (.long ar), none, some (.int c), none], [], (m, cw (wE t (viD (qG (tG t)) i ar c n k (tE t)))))) := by
  intro n
  induction n with
  | zero =>
    intro k t hk
    obtain rfl : k = 4 := by omega
    refine g_iload d_X8_visit_88 rfl ?_
    refine g_iconst (v := 4) d_X8_visit_90 (by decide) ?_
    refine g_icmp_ge (tgt := 118) d_X8_visit_91 (by decide) (fun c_91 => ?_) (fun c_91 => absurd c_91 (absurd (nI_le (Nat.le_refl 4) (by decide)) c_91))
    refine g_drop [7] rfl ?_
    exact g_end rfl
  | succ n ih =>
    intro k t hk
    refine g_iload d_X8_visit_88 rfl ?_
    refine g_iconst (v := 4) d_X8_visit_90 (by decide) ?_
    refine g_icmp_ge (tgt := 118) d_X8_visit_91 (by decide) (fun c_91 => absurd c_91 (nI_ge (a := k) (b := 4) (by omega) (by decide))) (fun c_91 => ?_)
    refine g_aload_n d_X8_visit_94 rfl ?_
    refine g_getf d_X8_visit_95 f_X8_46 rfl rfl ?_
    refine g_ifb_ne (tgt := 118) d_X8_visit_98 (by decide) (fun c_98 => ?_) (fun c_98 => ?_)
    · rw [show viD (qG (tG t)) i ar c (n + 1) k (tE t) = tE t by simp only [viD, c_98, ↓reduceIte]]
      refine g_drop [7] rfl ?_
      exact g_end rfl
    · refine g_aload_n d_X8_visit_101 rfl ?_
      refine g_iload_n d_X8_visit_102 rfl ?_
      refine g_lload d_X8_visit_103 rfl ?_
      refine g_iload d_X8_visit_105 rfl ?_
      refine g_iload d_X8_visit_107 rfl ?_
      refine g_callV (As := [.int i, .long ar, .int c, .int (nI k)]) d_X8_visit_109 o_X8_lookAt l_X8_104 ⟨Nat.le_of_ble_eq_true rfl, Nat.le_of_ble_eq_true rfl⟩ (c_lookAt hE m t i ar c (nI k)) rfl rfl rfl rfl rfl rfl ?_ (Nat.zero_add _)
      refine g_iinc (v := ((nI k) + 1)) (L' := [some (.ref 130), some (.int i), some (.long b), none, some (.long ar), none, some (.int c), some (.int ((nI k) + 1))]) d_X8_visit_112 rfl rfl rfl ?_
      refine g_goto (tgt := 88) d_X8_visit_115 (by decide) ?_
      refine g_eq (S' := (88, [some (.ref 130), some (.int i), some (.long b), none, some (.long ar), none, some (.int c), some (.int (nI (k + 1)))], [], (m, cw (wE t (lkS (qG (tG t)) (tE t) i ar c (nI k)))))) (by rw [← nI_1 k]; rfl) ?_
      rw [show viD (qG (tG t)) i ar c (n + 1) k (tE t) = viD (qG (tG (wE t (lkS (qG (tG t)) (tE t) i ar c (nI k))))) i ar c n (k + 1) (tE (wE t (lkS (qG (tG t)) (tE t) i ar c (nI k)))) by simp only [viD, c_98, ↓reduceIte, Bool.false_eq_true]; try rfl]
      exact ih (k + 1) (wE t (lkS (qG (tG t)) (tE t) i ar c (nI k))) (by omega)
theorem l_viC {E : mEnv} (hE : E.1.stackTraces = false) (m : List mE) (i : Int32) (b ar : Int64) : ∀ (n : Nat) (k : Nat) (t : cT), k + n = 64 → Go E M_X8_visit 0 (69, [some (.ref 130), some (.int i), some (.long b), none, some (.long ar), none, some (.int (nI k)), none], [], (m, cw t)) (.inr (.inl (none, (m, cw (wE t (viC (qG (tG t)) i ar b n k (tE t))))))) := by
  intro n
  induction n with
  | zero =>
    intro k t hk
    obtain rfl : k = 64 := by omega
    refine g_iload d_X8_visit_69 rfl ?_
    refine g_bipush (v := 64) d_X8_visit_71 (by decide) ?_
    refine g_icmp_ge (tgt := 124) d_X8_visit_73 (by decide) (fun c_73 => ?_) (fun c_73 => absurd c_73 (absurd (nI_le (Nat.le_refl 64) (by decide)) c_73))
    exact g_retV d_X8_visit_124 rfl (rfl)
  | succ n ih =>
    intro k t hk
    refine g_iload d_X8_visit_69 rfl ?_
    refine g_bipush (v := 64) d_X8_visit_71 (by decide) ?_
    refine g_icmp_ge (tgt := 124) d_X8_visit_73 (by decide) (fun c_73 => absurd c_73 (nI_ge (a := k) (b := 64) (by omega) (by decide))) (fun c_73 => ?_)
    refine g_lload_n d_X8_visit_76 rfl ?_
    refine g_iload d_X8_visit_77 rfl ?_
    refine g_callN (As := [.long b, .int (nI k)]) d_X8_visit_79 o_X11_has n_X8_100 ⟨Nat.le_of_ble_eq_true rfl, Nat.le_of_ble_eq_true rfl⟩ (c_has hE b (nI k) _) rfl rfl ?_ (Nat.zero_add _)
    refine g_ifb_eq (tgt := 118) d_X8_visit_82 (by decide) (fun c_82 => ?_) (fun c_82 => ?_)
    · refine g_iinc (v := ((nI k) + 1)) (L' := [some (.ref 130), some (.int i), some (.long b), none, some (.long ar), none, some (.int ((nI k) + 1)), none]) d_X8_visit_118 rfl rfl rfl ?_
      refine g_goto (tgt := 69) d_X8_visit_121 (by decide) ?_
      refine g_eq (S' := (69, [some (.ref 130), some (.int i), some (.long b), none, some (.long ar), none, some (.int (nI (k + 1))), none], [], (m, cw t))) (by first | rfl | (rw [← nI_1 k]; done) | (rw [← nI_1 k]; rfl)) ?_
      rw [show viC (qG (tG t)) i ar b (n + 1) k (tE t) = viC (qG (tG t)) i ar b n (k + 1) (tE t) by simp only [viC, c_82, ↓reduceIte, Bool.false_eq_true]; try rfl]
      exact ih (k + 1) t (by omega)
    · refine g_iconst (v := 0) d_X8_visit_85 (by decide) ?_
      refine g_istore (L' := [some (.ref 130), some (.int i), some (.long b), none, some (.long ar), none, some (.int (nI k)), some (.int 0)]) d_X8_visit_86 rfl rfl ?_
      refine g_eq (S' := (88, [some (.ref 130), some (.int i), some (.long b), none, some (.long ar), none, some (.int (nI k)), some (.int (nI 0))], [], (m, cw t))) (by first | rfl | (rw [nI_1]; rfl) | (simp only [nI_1]; rfl) | simp only [nI_1]) ?_
      refine Go.trans0 (l_viD hE m i b ar (nI k) 4 0 t (by omega)) ?_
      refine g_eq (S' := (118, [some (.ref 130), some (.int i), some (.long b), none, some (.long ar), none, some (.int (nI k)), none], [], (m, cw (wE t (viD (qG (tG t)) i ar (nI k) 4 0 (tE t)))))) rfl ?_
      refine g_iinc (v := ((nI k) + 1)) (L' := [some (.ref 130), some (.int i), some (.long b), none, some (.long ar), none, some (.int ((nI k) + 1)), none]) d_X8_visit_118 rfl rfl rfl ?_
      refine g_goto (tgt := 69) d_X8_visit_121 (by decide) ?_
      refine g_eq (S' := (69, [some (.ref 130), some (.int i), some (.long b), none, some (.long ar), none, some (.int (nI (k + 1))), none], [], (m, cw (wE t (viD (qG (tG t)) i ar (nI k) 4 0 (tE t)))))) (by first | rfl | (rw [← nI_1 k]; done) | (rw [← nI_1 k]; rfl)) ?_
      rw [show viC (qG (tG t)) i ar b (n + 1) k (tE t) = viC (qG (tG (wE t (viD (qG (tG t)) i ar (nI k) 4 0 (tE t))))) i ar b n (k + 1) (tE (wE t (viD (qG (tG t)) i ar (nI k) 4 0 (tE t)))) by simp only [viC, c_82, ↓reduceIte, Bool.false_eq_true]; try rfl]
      exact ih (k + 1) (wE t (viD (qG (tG t)) i ar (nI k) 4 0 (tE t))) (by omega)
theorem c_visit {E : mEnv} (hE : E.1.stackTraces = false) (m : List mE) (t : cT) (i : Int32) : Rt E M_X8_visit 0 [.ref 130, .int i] ((m, cw t)) none ((m, cw (wE t (viS (qG (tG t)) (tE t) i)))) := by
  refine Rt.of hE rfl pn_X8 (Nat.le_of_ble_eq_true rfl) ?_
  refine g_eq (S' := (0, [some (.ref 130), some (.int i), none, none, none, none, none, none], [], (m, cw t))) rfl ?_
  refine g_aload_n d_X8_visit_0 rfl ?_
  refine g_getf d_X8_visit_1 f_X8_15 rfl rfl ?_
  refine g_iload_n d_X8_visit_4 rfl ?_
  refine g_callN (As := [.ref 131, .int i]) d_X8_visit_5 o_X11_longAt n_X8_74 ⟨Nat.le_of_ble_eq_true rfl, Nat.le_of_ble_eq_true rfl⟩ (c_longAt hE 131 1000 (sB (tE t)) i _ (by decide) rfl) rfl rfl ?_ (Nat.zero_add _)
  refine g_lstore_n (L' := [some (.ref 130), some (.int i), some (.long (longAtF 1000 (sB (tE t)) i)), none, none, none, none, none]) d_X8_visit_8 rfl rfl ?_
  refine g_lload_n d_X8_visit_9 rfl ?_
  refine g_aload_n d_X8_visit_10 rfl ?_
  refine g_getf d_X8_visit_11 f_X8_9 rfl rfl ?_
  refine g_getf d_X8_visit_14 f_X8_78 rfl rfl ?_
  refine g_ldc2 (v := (-1)) d_X8_visit_17 k_X8_83 ?_
  refine g_lxor d_X8_visit_20 ?_
  refine g_land d_X8_visit_21 ?_
  refine g_lconst (v := 0) d_X8_visit_22 (by decide) ?_
  refine g_lcmp_ne (tgt := 33) d_X8_visit_23 d_X8_visit_24 (by decide) (fun c_23 => ?_) (fun c_23 => ?_)
  · refine g_aload_n d_X8_visit_33 rfl ?_
    refine g_getf d_X8_visit_34 f_X8_9 rfl rfl ?_
    refine g_aload_n d_X8_visit_37 rfl ?_
    refine g_getf d_X8_visit_38 f_X8_19 rfl rfl ?_
    refine g_iload_n d_X8_visit_41 rfl ?_
    refine g_callN (As := [.ref 132, .int i]) d_X8_visit_42 o_X11_intAt n_X8_85 ⟨Nat.le_of_ble_eq_true rfl, Nat.le_of_ble_eq_true rfl⟩ (c_intAt hE 132 1000 (sP (tE t)) i _ (by decide) rfl) rfl rfl ?_ (Nat.zero_add _)
    refine g_callN (As := [.int (intAtF 1000 (sP (tE t)) i)]) d_X8_visit_45 o_X11_bit n_X8_89 ⟨Nat.le_of_ble_eq_true rfl, Nat.le_of_ble_eq_true rfl⟩ (c_bit hE (intAtF 1000 (sP (tE t)) i) _) rfl rfl ?_ (Nat.zero_add _)
    refine g_aload_n d_X8_visit_48 rfl ?_
    refine g_getf d_X8_visit_49 f_X8_9 rfl rfl ?_
    refine g_getf d_X8_visit_52 f_X8_93 rfl rfl ?_
    refine g_lload_n d_X8_visit_55 rfl ?_
    refine g_ldc2 (v := (-1)) d_X8_visit_56 k_X8_83 ?_
    refine g_lxor d_X8_visit_59 ?_
    refine g_land d_X8_visit_60 ?_
    refine g_callV (As := [.long (jshl 1 (intAtF 1000 (sP (tE t)) i)), .long ((gO (qG (tG t))) &&& ((longAtF 1000 (sB (tE t)) i) ^^^ (-1)))]) d_X8_visit_61 o_X2_spread l_X8_96 ⟨Nat.le_of_ble_eq_true rfl, Nat.le_of_ble_eq_true rfl⟩ (c_spread hE 105 (qG (tG t)) _ rfl (jshl 1 (intAtF 1000 (sP (tE t)) i)) ((gO (qG (tG t))) &&& ((longAtF 1000 (sB (tE t)) i) ^^^ (-1)))) rfl rfl rfl rfl rfl rfl ?_ (Nat.zero_add _)
    refine g_lstore (L' := [some (.ref 130), some (.int i), some (.long (longAtF 1000 (sB (tE t)) i)), none, some (.long (gSp (qG (tG t)) (jshl 1 (intAtF 1000 (sP (tE t)) i)) ((gO (qG (tG t))) &&& ((longAtF 1000 (sB (tE t)) i) ^^^ (-1))))), none, none, none]) d_X8_visit_64 rfl rfl ?_
    refine g_iconst (v := 0) d_X8_visit_66 (by decide) ?_
    refine g_istore (L' := [some (.ref 130), some (.int i), some (.long (longAtF 1000 (sB (tE t)) i)), none, some (.long (gSp (qG (tG t)) (jshl 1 (intAtF 1000 (sP (tE t)) i)) ((gO (qG (tG t))) &&& ((longAtF 1000 (sB (tE t)) i) ^^^ (-1))))), none, some (.int 0), none]) d_X8_visit_67 rfl rfl ?_
    refine g_eq (S' := (69, [some (.ref 130), some (.int i), some (.long (longAtF 1000 (sB (tE t)) i)), none, some (.long (gSp (qG (tG t)) (jshl 1 (intAtF 1000 (sP (tE t)) i)) (gO (qG (tG t)) &&& ((longAtF 1000 (sB (tE t)) i) ^^^ (-1))))), none, some (.int (nI 0)), none], [], (m, cw t))) (rfl) ?_
    rw [show viS (qG (tG t)) (tE t) i = viC (qG (tG t)) i (gSp (qG (tG t)) (jshl 1 (intAtF 1000 (sP (tE t)) i)) (gO (qG (tG t)) &&& ((longAtF 1000 (sB (tE t)) i) ^^^ (-1)))) (longAtF 1000 (sB (tE t)) i) 64 0 (tE t) by simp only [viS, eq_false c_23, ↓reduceIte]]
    exact l_viC hE m i _ _ 64 0 t (by omega)
  · refine g_aload_n d_X8_visit_27 rfl ?_
    refine g_iload_n d_X8_visit_28 rfl ?_
    refine g_putI (w' := (mset (m, cw t) 130 (.inr (8, [.ref 105, .ref 131, .ref 132, .ref 133, .ref 134, .ref 135, .int (sM (tE t)), .int (bI (sW (tE t))), .int (sN (tE t)), .int i, .int (bI (sY (tE t)))])))) d_X8_visit_29 p_X8_43 rfl rfl rfl (Nat.le_of_ble_eq_true rfl) (rfl) ?_
    exact g_retV d_X8_visit_32 rfl (by simp only [viS, eq_true c_23, ↓reduceIte]; rfl)
def zeL : Nat → Nat → (Nat → Int32) → (Nat → Int32)
  | 0, _, f => f
  | n + 1, k, f => zeL n (k + 1) (setIntF 2048 f (nI k) 0)
def ruL (g : gT) : Nat → Nat → SeT → SeT
  | 0, _, q => q
  | n + 1, k, q => if sN q ≤ nI k then q else if sV q = -1 then (if sY q = true then q else ruL g n (k + 1) (viS g q (nI k))) else q
def ru0 (q : SeT) (lim : Int32) (wt : Bool) (f : Nat → Int32) : SeT := (sB q, sP q, sF q, sU q, f, lim, wt, 0, -1, false)
def ruN (n N : Nat) (g : gT) (b : Int64) (a : Int32) (q : SeT) (lim : Int32) (wt : Bool) : SeT := ruL g n 0 (adS (ru0 q lim wt (zeL N 0 (sT q))) b (lowF (pAr g b a)) (-1) 0)
def ruS (g : gT) (b : Int64) (a : Int32) (q : SeT) (lim : Int32) (wt : Bool) : SeT := ruN 1000 2048 g b a q lim wt
theorem d_X8_run_0 : decode (mB M_X8_run) 0 = .ok (.aload_n 0, 1) := by decide +kernel
theorem d_X8_run_1 : decode (mB M_X8_run) 1 = .ok (.iload_n 2, 1) := by decide +kernel
theorem d_X8_run_2 : decode (mB M_X8_run) 2 = .ok (.putfield 32, 3) := by decide +kernel
theorem d_X8_run_5 : decode (mB M_X8_run) 5 = .ok (.aload_n 0, 1) := by decide +kernel
theorem d_X8_run_6 : decode (mB M_X8_run) 6 = .ok (.iload_n 3, 1) := by decide +kernel
theorem d_X8_run_7 : decode (mB M_X8_run) 7 = .ok (.putfield 36, 3) := by decide +kernel
theorem d_X8_run_10 : decode (mB M_X8_run) 10 = .ok (.aload_n 0, 1) := by decide +kernel
theorem d_X8_run_11 : decode (mB M_X8_run) 11 = .ok (.iconst 0, 1) := by decide +kernel
theorem d_X8_run_12 : decode (mB M_X8_run) 12 = .ok (.putfield 40, 3) := by decide +kernel
theorem d_X8_run_15 : decode (mB M_X8_run) 15 = .ok (.aload_n 0, 1) := by decide +kernel
theorem d_X8_run_16 : decode (mB M_X8_run) 16 = .ok (.iconst (-1), 1) := by decide +kernel
theorem d_X8_run_17 : decode (mB M_X8_run) 17 = .ok (.putfield 43, 3) := by decide +kernel
theorem d_X8_run_20 : decode (mB M_X8_run) 20 = .ok (.aload_n 0, 1) := by decide +kernel
theorem d_X8_run_21 : decode (mB M_X8_run) 21 = .ok (.iconst 0, 1) := by decide +kernel
theorem d_X8_run_22 : decode (mB M_X8_run) 22 = .ok (.putfield 46, 3) := by decide +kernel
theorem d_X8_run_25 : decode (mB M_X8_run) 25 = .ok (.iconst 0, 1) := by decide +kernel
theorem d_X8_run_26 : decode (mB M_X8_run) 26 = .ok (.istore 4, 2) := by decide +kernel
theorem d_X8_run_28 : decode (mB M_X8_run) 28 = .ok (.iload 4, 2) := by decide +kernel
theorem d_X8_run_30 : decode (mB M_X8_run) 30 = .ok (.sipush 2048, 3) := by decide +kernel
theorem d_X8_run_33 : decode (mB M_X8_run) 33 = .ok (.if_icmp .ge 19, 3) := by decide +kernel
theorem d_X8_run_36 : decode (mB M_X8_run) 36 = .ok (.aload_n 0, 1) := by decide +kernel
theorem d_X8_run_37 : decode (mB M_X8_run) 37 = .ok (.getfield 29, 3) := by decide +kernel
theorem d_X8_run_40 : decode (mB M_X8_run) 40 = .ok (.iload 4, 2) := by decide +kernel
theorem d_X8_run_42 : decode (mB M_X8_run) 42 = .ok (.iconst 0, 1) := by decide +kernel
theorem d_X8_run_43 : decode (mB M_X8_run) 43 = .ok (.invokestatic 49, 3) := by decide +kernel
theorem d_X8_run_46 : decode (mB M_X8_run) 46 = .ok (.iinc 4 1, 3) := by decide +kernel
theorem d_X8_run_49 : decode (mB M_X8_run) 49 = .ok (.goto (-21), 3) := by decide +kernel
theorem d_X8_run_52 : decode (mB M_X8_run) 52 = .ok (.aload_n 0, 1) := by decide +kernel
theorem d_X8_run_53 : decode (mB M_X8_run) 53 = .ok (.aload_n 1, 1) := by decide +kernel
theorem d_X8_run_54 : decode (mB M_X8_run) 54 = .ok (.getfield 53, 3) := by decide +kernel
theorem d_X8_run_57 : decode (mB M_X8_run) 57 = .ok (.aload_n 1, 1) := by decide +kernel
theorem d_X8_run_58 : decode (mB M_X8_run) 58 = .ok (.invokevirtual 58, 3) := by decide +kernel
theorem d_X8_run_61 : decode (mB M_X8_run) 61 = .ok (.invokestatic 62, 3) := by decide +kernel
theorem d_X8_run_64 : decode (mB M_X8_run) 64 = .ok (.iconst (-1), 1) := by decide +kernel
theorem d_X8_run_65 : decode (mB M_X8_run) 65 = .ok (.iconst 0, 1) := by decide +kernel
theorem d_X8_run_66 : decode (mB M_X8_run) 66 = .ok (.invokevirtual 66, 3) := by decide +kernel
theorem d_X8_run_69 : decode (mB M_X8_run) 69 = .ok (.iconst 0, 1) := by decide +kernel
theorem d_X8_run_70 : decode (mB M_X8_run) 70 = .ok (.istore 4, 2) := by decide +kernel
theorem d_X8_run_72 : decode (mB M_X8_run) 72 = .ok (.iload 4, 2) := by decide +kernel
theorem d_X8_run_74 : decode (mB M_X8_run) 74 = .ok (.sipush 1000, 3) := by decide +kernel
theorem d_X8_run_77 : decode (mB M_X8_run) 77 = .ok (.if_icmp .ge 39, 3) := by decide +kernel
theorem d_X8_run_80 : decode (mB M_X8_run) 80 = .ok (.iload 4, 2) := by decide +kernel
theorem d_X8_run_82 : decode (mB M_X8_run) 82 = .ok (.aload_n 0, 1) := by decide +kernel
theorem d_X8_run_83 : decode (mB M_X8_run) 83 = .ok (.getfield 40, 3) := by decide +kernel
theorem d_X8_run_86 : decode (mB M_X8_run) 86 = .ok (.if_icmp .ge 30, 3) := by decide +kernel
theorem d_X8_run_89 : decode (mB M_X8_run) 89 = .ok (.aload_n 0, 1) := by decide +kernel
theorem d_X8_run_90 : decode (mB M_X8_run) 90 = .ok (.getfield 43, 3) := by decide +kernel
theorem d_X8_run_93 : decode (mB M_X8_run) 93 = .ok (.iconst (-1), 1) := by decide +kernel
theorem d_X8_run_94 : decode (mB M_X8_run) 94 = .ok (.if_icmp .ne 22, 3) := by decide +kernel
theorem d_X8_run_97 : decode (mB M_X8_run) 97 = .ok (.aload_n 0, 1) := by decide +kernel
theorem d_X8_run_98 : decode (mB M_X8_run) 98 = .ok (.getfield 46, 3) := by decide +kernel
theorem d_X8_run_101 : decode (mB M_X8_run) 101 = .ok (.ifCond .ne 15, 3) := by decide +kernel
theorem d_X8_run_104 : decode (mB M_X8_run) 104 = .ok (.aload_n 0, 1) := by decide +kernel
theorem d_X8_run_105 : decode (mB M_X8_run) 105 = .ok (.iload 4, 2) := by decide +kernel
theorem d_X8_run_107 : decode (mB M_X8_run) 107 = .ok (.invokevirtual 70, 3) := by decide +kernel
theorem d_X8_run_110 : decode (mB M_X8_run) 110 = .ok (.iinc 4 1, 3) := by decide +kernel
theorem d_X8_run_113 : decode (mB M_X8_run) 113 = .ok (.goto (-41), 3) := by decide +kernel
theorem d_X8_run_116 : decode (mB M_X8_run) 116 = .ok (.return_, 1) := by decide +kernel
theorem l_zero {E : mEnv} (hE : E.1.stackTraces = false) (m : List mE) (lim : Int32) (wt : Bool) (t : cT) : ∀ (n : Nat) (k : Nat) (f : Nat → Int32), k + n = 2048 → Go E M_X8_run 0 (28, [some (.ref 130), some (.ref 106), some (.int lim), some (.int (bI wt)), some (.int (nI k))], [], (m, cw (wE t (ru0 (tE t) lim wt f)))) (.inl (52, [some (.ref 130), some (.ref 106), some (.int lim), some (.int (bI wt)), none], [], (m, cw (wE t (ru0 (tE t) lim wt (zeL n k f)))))) := by
  intro n
  induction n with
  | zero =>
    intro k f hk
    obtain rfl : k = 2048 := by omega
    refine g_iload d_X8_run_28 rfl ?_
    refine g_sipush (v := 2048) d_X8_run_30 (by decide) ?_
    refine g_icmp_ge (tgt := 52) d_X8_run_33 (by decide) (fun c_33 => ?_) (fun c_33 => absurd c_33 (absurd (nI_le (Nat.le_refl 2048) (by decide)) c_33))
    refine g_drop [4] rfl ?_
    exact g_end rfl
  | succ n ih =>
    intro k f hk
    refine g_iload d_X8_run_28 rfl ?_
    refine g_sipush (v := 2048) d_X8_run_30 (by decide) ?_
    refine g_icmp_ge (tgt := 52) d_X8_run_33 (by decide) (fun c_33 => absurd c_33 (nI_ge (a := k) (b := 2048) (by omega) (by decide))) (fun c_33 => ?_)
    refine g_aload_n d_X8_run_36 rfl ?_
    refine g_getf d_X8_run_37 f_X8_29 rfl rfl ?_
    refine g_iload d_X8_run_40 rfl ?_
    refine g_iconst (v := 0) d_X8_run_42 (by decide) ?_
    refine g_callN (As := [.ref 135, .int (nI k), .int 0]) d_X8_run_43 o_X11_setInt n_X8_49 ⟨Nat.le_of_ble_eq_true rfl, Nat.le_of_ble_eq_true rfl⟩ (c_setInt hE 135 2048 (sT (tE (wE t (ru0 (tE t) lim wt f)))) (nI k) 0 _ (by decide) rfl) rfl rfl ?_ (Nat.zero_add _)
    refine g_iinc (v := ((nI k) + 1)) (L' := [some (.ref 130), some (.ref 106), some (.int lim), some (.int (bI wt)), some (.int ((nI k) + 1))]) d_X8_run_46 rfl rfl rfl ?_
    refine g_goto (tgt := 28) d_X8_run_49 (by decide) ?_
    refine g_eq (S' := (28, [some (.ref 130), some (.ref 106), some (.int lim), some (.int (bI wt)), some (.int (nI (k + 1)))], [], (m, cw (wE t (ru0 (tE t) lim wt (setIntF 2048 f (nI k) 0)))))) (by rw [← nI_1 k]; rfl) ?_
    exact ih (k + 1) _ (by omega)
theorem l_run {E : mEnv} (hE : E.1.stackTraces = false) (m : List mE) (lim : Int32) (wt : Bool) : ∀ (n : Nat) (k : Nat) (t : cT), k + n = 1000 → Go E M_X8_run 0 (72, [some (.ref 130), some (.ref 106), some (.int lim), some (.int (bI wt)), some (.int (nI k))], [], (m, cw t)) (.inr (.inl (none, (m, cw (wE t (ruL (qG (tG t)) n k (tE t))))))) := by
  intro n
  induction n with
  | zero =>
    intro k t hk
    obtain rfl : k = 1000 := by omega
    refine g_iload d_X8_run_72 rfl ?_
    refine g_sipush (v := 1000) d_X8_run_74 (by decide) ?_
    refine g_icmp_ge (tgt := 116) d_X8_run_77 (by decide) (fun c_77 => ?_) (fun c_77 => absurd c_77 (absurd (nI_le (Nat.le_refl 1000) (by decide)) c_77))
    exact g_retV d_X8_run_116 rfl (rfl)
  | succ n ih =>
    intro k t hk
    refine g_iload d_X8_run_72 rfl ?_
    refine g_sipush (v := 1000) d_X8_run_74 (by decide) ?_
    refine g_icmp_ge (tgt := 116) d_X8_run_77 (by decide) (fun c_77 => absurd c_77 (nI_ge (a := k) (b := 1000) (by omega) (by decide))) (fun c_77 => ?_)
    refine g_iload d_X8_run_80 rfl ?_
    refine g_aload_n d_X8_run_82 rfl ?_
    refine g_getf d_X8_run_83 f_X8_40 rfl rfl ?_
    refine g_icmp_ge (tgt := 116) d_X8_run_86 (by decide) (fun c_86 => ?_) (fun c_86 => ?_)
    · exact g_retV d_X8_run_116 rfl (by simp only [ruL, eq_true c_86, ↓reduceIte]; rfl)
    · refine g_aload_n d_X8_run_89 rfl ?_
      refine g_getf d_X8_run_90 f_X8_43 rfl rfl ?_
      refine g_iconst (v := (-1)) d_X8_run_93 (by decide) ?_
      refine g_icmp_ne (tgt := 116) d_X8_run_94 (by decide) (fun c_94 => ?_) (fun c_94 => ?_)
      · exact g_retV d_X8_run_116 rfl (by simp only [ruL, eq_false c_86, eq_false c_94, ↓reduceIte]; rfl)
      · refine g_aload_n d_X8_run_97 rfl ?_
        refine g_getf d_X8_run_98 f_X8_46 rfl rfl ?_
        refine g_ifb_ne (tgt := 116) d_X8_run_101 (by decide) (fun c_101 => ?_) (fun c_101 => ?_)
        · exact g_retV d_X8_run_116 rfl (by simp only [ruL, eq_false c_86, eq_true c_94, c_101, ↓reduceIte]; rfl)
        · refine g_aload_n d_X8_run_104 rfl ?_
          refine g_iload d_X8_run_105 rfl ?_
          refine g_callV (As := [.int (nI k)]) d_X8_run_107 o_X8_visit l_X8_70 ⟨Nat.le_of_ble_eq_true rfl, Nat.le_of_ble_eq_true rfl⟩ (c_visit hE m t (nI k)) rfl rfl rfl rfl rfl rfl ?_ (Nat.zero_add _)
          refine g_iinc (v := ((nI k) + 1)) (L' := [some (.ref 130), some (.ref 106), some (.int lim), some (.int (bI wt)), some (.int ((nI k) + 1))]) d_X8_run_110 rfl rfl rfl ?_
          refine g_goto (tgt := 72) d_X8_run_113 (by decide) ?_
          refine g_eq (S' := (72, [some (.ref 130), some (.ref 106), some (.int lim), some (.int (bI wt)), some (.int (nI (k + 1)))], [], (m, cw (wE t (viS (qG (tG t)) (tE t) (nI k)))))) (by rw [← nI_1 k]; rfl) ?_
          rw [show ruL (qG (tG t)) (n + 1) k (tE t) = ruL (qG (tG (wE t (viS (qG (tG t)) (tE t) (nI k))))) n (k + 1) (tE (wE t (viS (qG (tG t)) (tE t) (nI k)))) by simp only [ruL, eq_false c_86, eq_true c_94, c_101, ↓reduceIte, Bool.false_eq_true]; try rfl]
          exact ih (k + 1) (wE t (viS (qG (tG t)) (tE t) (nI k))) (by omega)
theorem run_1 {E : mEnv} (hE : E.1.stackTraces = false) (m : List mE) (t : cT) (lim : Int32) (wt : Bool) : Go E M_X8_run 0 (0, [some (.ref 130), some (.ref 106), some (.int lim), some (.int (bI wt)), none], [], (m, cw t)) (.inl (28, [some (.ref 130), some (.ref 106), some (.int lim), some (.int (bI wt)), some (.int (nI 0))], [], (m, cw (wE t (ru0 (tE t) lim wt (sT (tE t))))))) := by
  refine g_aload_n d_X8_run_0 rfl ?_
  refine g_iload_n d_X8_run_1 rfl ?_
  refine g_putI (w' := (mset (m, cw t) 130 (.inr (8, [.ref 105, .ref 131, .ref 132, .ref 133, .ref 134, .ref 135, .int lim, .int (bI (sW (tE t))), .int (sN (tE t)), .int (sV (tE t)), .int (bI (sY (tE t)))])))) d_X8_run_2 p_X8_32 rfl rfl rfl (Nat.le_of_ble_eq_true rfl) (rfl) ?_
  refine g_aload_n d_X8_run_5 rfl ?_
  refine g_iload_n d_X8_run_6 rfl ?_
  refine g_putI (w' := (mset (m, cw t) 130 (.inr (8, [.ref 105, .ref 131, .ref 132, .ref 133, .ref 134, .ref 135, .int lim, .int (bI wt), .int (sN (tE t)), .int (sV (tE t)), .int (bI (sY (tE t)))])))) d_X8_run_7 p_X8_36 (nar_bI _) (fit_bI _) (mget_eq rfl) (Nat.le_of_ble_eq_true rfl) (mset_mset) ?_
  refine g_aload_n d_X8_run_10 rfl ?_
  refine g_iconst (v := 0) d_X8_run_11 (by decide) ?_
  refine g_putI (w' := (mset (m, cw t) 130 (.inr (8, [.ref 105, .ref 131, .ref 132, .ref 133, .ref 134, .ref 135, .int lim, .int (bI wt), .int 0, .int (sV (tE t)), .int (bI (sY (tE t)))])))) d_X8_run_12 p_X8_40 rfl rfl (mget_eq rfl) (Nat.le_of_ble_eq_true rfl) (mset_mset) ?_
  refine g_aload_n d_X8_run_15 rfl ?_
  refine g_iconst (v := (-1)) d_X8_run_16 (by decide) ?_
  refine g_putI (w' := (mset (m, cw t) 130 (.inr (8, [.ref 105, .ref 131, .ref 132, .ref 133, .ref 134, .ref 135, .int lim, .int (bI wt), .int 0, .int (-1), .int (bI (sY (tE t)))])))) d_X8_run_17 p_X8_43 rfl rfl (mget_eq rfl) (Nat.le_of_ble_eq_true rfl) (mset_mset) ?_
  refine g_aload_n d_X8_run_20 rfl ?_
  refine g_iconst (v := 0) d_X8_run_21 (by decide) ?_
  refine g_putI (w' := (mset (m, cw t) 130 (.inr (8, [.ref 105, .ref 131, .ref 132, .ref 133, .ref 134, .ref 135, .int lim, .int (bI wt), .int 0, .int (-1), .int 0])))) d_X8_run_22 p_X8_46 rfl rfl (mget_eq rfl) (Nat.le_of_ble_eq_true rfl) (mset_mset) ?_
  refine g_iconst (v := 0) d_X8_run_25 (by decide) ?_
  refine g_istore (L' := [some (.ref 130), some (.ref 106), some (.int lim), some (.int (bI wt)), some (.int 0)]) d_X8_run_26 rfl rfl ?_
  exact g_end (by first | rfl | (simp only [↓reduceIte, Bool.false_eq_true, bI_t, bI_f]; done) | (simp only [↓reduceIte, Bool.false_eq_true, bI_t, bI_f]; rfl))
theorem run_2 {E : mEnv} (hE : E.1.stackTraces = false) (m : List mE) (t : cT) (lim : Int32) (wt : Bool) : Go E M_X8_run 0 (52, [some (.ref 130), some (.ref 106), some (.int lim), some (.int (bI wt)), none], [], (m, cw t)) (.inl (72, [some (.ref 130), some (.ref 106), some (.int lim), some (.int (bI wt)), some (.int (nI 0))], [], (m, cw (wE t (adS (tE t) (qN (tG t)).1 (lowF (pAr (qG (tG t)) (qN (tG t)).1 (qN (tG t)).2)) (-1) 0))))) := by
  refine g_aload_n d_X8_run_52 rfl ?_
  refine g_aload_n d_X8_run_53 rfl ?_
  refine g_getf d_X8_run_54 f_X8_53 rfl rfl ?_
  refine g_aload_n d_X8_run_57 rfl ?_
  refine g_callV (As := []) d_X8_run_58 o_X6_area l_X8_58 ⟨Nat.le_of_ble_eq_true rfl, Nat.le_of_ble_eq_true rfl⟩ (c_area hE 106 105 (qG (tG t)) (qN (tG t)).1 (qN (tG t)).2 _ rfl rfl ) rfl rfl rfl rfl rfl rfl ?_ (Nat.zero_add _)
  refine g_callN (As := [.long (pAr (qG (tG t)) (qN (tG t)).1 (qN (tG t)).2 )]) d_X8_run_61 o_X11_lowest n_X8_62 ⟨Nat.le_of_ble_eq_true rfl, Nat.le_of_ble_eq_true rfl⟩ (c_lowest hE (pAr (qG (tG t)) (qN (tG t)).1 (qN (tG t)).2 ) _) rfl rfl ?_ (Nat.zero_add _)
  refine g_iconst (v := (-1)) d_X8_run_64 (by decide) ?_
  refine g_iconst (v := 0) d_X8_run_65 (by decide) ?_
  refine g_callV (As := [.long ((qN (tG t)).1), .int (lowF (pAr (qG (tG t)) (qN (tG t)).1 (qN (tG t)).2 )), .int (-1), .int 0]) d_X8_run_66 o_X8_add l_X8_66 ⟨Nat.le_of_ble_eq_true rfl, Nat.le_of_ble_eq_true rfl⟩ (c_sadd hE m t ((qN (tG t)).1) (lowF (pAr (qG (tG t)) (qN (tG t)).1 (qN (tG t)).2 )) (-1) 0) rfl rfl rfl rfl rfl rfl ?_ (Nat.zero_add _)
  refine g_iconst (v := 0) d_X8_run_69 (by decide) ?_
  refine g_istore (L' := [some (.ref 130), some (.ref 106), some (.int lim), some (.int (bI wt)), some (.int 0)]) d_X8_run_70 rfl rfl ?_
  exact g_end (by first | rfl | (simp only [↓reduceIte, Bool.false_eq_true, bI_t, bI_f]; done) | (simp only [↓reduceIte, Bool.false_eq_true, bI_t, bI_f]; rfl))
theorem c_runN {E : mEnv} (hE : E.1.stackTraces = false) (m : List mE) (t : cT) (lim : Int32) (wt : Bool) (n N : Nat) (hn : 0 + n = 1000) (hN : 0 + N = 2048) : Rt E M_X8_run 0 [.ref 130, .ref 106, .int lim, .int (bI wt)] (m, cw t) none (m, cw (wE t (ruN n N (qG (tG t)) (qN (tG t)).1 (qN (tG t)).2 (tE t) lim wt))) := by
  refine Rt.of hE rfl pn_X8 (Nat.le_of_ble_eq_true rfl) ?_
  refine g_eq (S' := (0, [some (.ref 130), some (.ref 106), some (.int lim), some (.int (bI wt)), none], [], (m, cw t))) rfl ?_
  refine Go.trans0 (run_1 hE m t lim wt) ?_
  refine Go.trans0 (l_zero hE m lim wt t N 0 (sT (tE t)) hN) ?_
  have h1 := run_2 hE m (wE t (ru0 (tE t) lim wt (zeL N 0 (sT (tE t))))) lim wt
  have h2 := l_run hE m lim wt n 0 (wE t (adS (ru0 (tE t) lim wt (zeL N 0 (sT (tE t)))) (qN (tG t)).1 (lowF (pAr (qG (tG t)) (qN (tG t)).1 (qN (tG t)).2)) (-1) 0)) hn
  rw [tE_wE, wE_wE, tG_wE] at h1
  rw [tE_wE, wE_wE, tG_wE] at h2
  refine Go.trans0 h1 ?_
  exact h2
theorem c_run {E : mEnv} (hE : E.1.stackTraces = false) (m : List mE) (t : cT) (lim : Int32) (wt : Bool) : Rt E M_X8_run 0 [.ref 130, .ref 106, .int lim, .int (bI wt)] (m, cw t) none (m, cw (wE t (ruS (qG (tG t)) (qN (tG t)).1 (qN (tG t)).2 (tE t) lim wt))) := c_runN hE m t lim wt 1000 2048 rfl rfl
