/-! Grid: what its methods answer, as functions of its fields -/
theorem sw_ne {x k : Int32} (h : ¬ x = k) : x.toInt ≠ k.toInt := fun q => h (Int32.toInt_inj.mp q)
/-- rows, columns, open, goals, dead, firstColumn, lastColumn -/
abbrev gT : Type := Int32 × Int32 × Int64 × Int64 × Int64 × Int64 × Int64
def gR (g : gT) : Int32 := g.1
def gC (g : gT) : Int32 := g.2.1
def gO (g : gT) : Int64 := g.2.2.1
def gG (g : gT) : Int64 := g.2.2.2.1
def gD (g : gT) : Int64 := g.2.2.2.2.1
def gF (g : gT) : Int64 := g.2.2.2.2.2.1
def gL (g : gT) : Int64 := g.2.2.2.2.2.2
abbrev gcell (g : gT) : mE := .inr (2, [.int (gR g), .int (gC g), .long (gO g), .long (gG g), .long (gD g), .long (gF g), .long (gL g)])
def gMv (g : gT) (s : Int64) (d : Int32) : Int64 := if d = 0 then jushr s (gC g) &&& gO g else if d = 1 then jshl (s &&& (gL g ^^^ (-1))) 1 &&& gO g else if d = 2 then jshl s (gC g) &&& gO g else if d = 3 then jushr (s &&& (gF g ^^^ (-1))) 1 &&& gO g else 0
theorem d_X2_moved_0 : decode (mB M_X2_moved) 0 = .ok (.iload_n 3, 1) := by decide +kernel
theorem d_X2_moved_1 : decode (mB M_X2_moved) 1 = .ok (.tableswitch 91 0 3 #[31, 43, 61, 73], 31) := by decide +kernel
theorem d_X2_moved_32 : decode (mB M_X2_moved) 32 = .ok (.lload_n 1, 1) := by decide +kernel
theorem d_X2_moved_33 : decode (mB M_X2_moved) 33 = .ok (.aload_n 0, 1) := by decide +kernel
theorem d_X2_moved_34 : decode (mB M_X2_moved) 34 = .ok (.getfield 15, 3) := by decide +kernel
theorem d_X2_moved_37 : decode (mB M_X2_moved) 37 = .ok (.lushr, 1) := by decide +kernel
theorem d_X2_moved_38 : decode (mB M_X2_moved) 38 = .ok (.aload_n 0, 1) := by decide +kernel
theorem d_X2_moved_39 : decode (mB M_X2_moved) 39 = .ok (.getfield 18, 3) := by decide +kernel
theorem d_X2_moved_42 : decode (mB M_X2_moved) 42 = .ok (.land, 1) := by decide +kernel
theorem d_X2_moved_43 : decode (mB M_X2_moved) 43 = .ok (.lreturn, 1) := by decide +kernel
theorem d_X2_moved_44 : decode (mB M_X2_moved) 44 = .ok (.lload_n 1, 1) := by decide +kernel
theorem d_X2_moved_45 : decode (mB M_X2_moved) 45 = .ok (.aload_n 0, 1) := by decide +kernel
theorem d_X2_moved_46 : decode (mB M_X2_moved) 46 = .ok (.getfield 31, 3) := by decide +kernel
theorem d_X2_moved_49 : decode (mB M_X2_moved) 49 = .ok (.ldc2_w 48, 3) := by decide +kernel
theorem d_X2_moved_52 : decode (mB M_X2_moved) 52 = .ok (.lxor, 1) := by decide +kernel
theorem d_X2_moved_53 : decode (mB M_X2_moved) 53 = .ok (.land, 1) := by decide +kernel
theorem d_X2_moved_54 : decode (mB M_X2_moved) 54 = .ok (.iconst 1, 1) := by decide +kernel
theorem d_X2_moved_55 : decode (mB M_X2_moved) 55 = .ok (.lshl, 1) := by decide +kernel
theorem d_X2_moved_56 : decode (mB M_X2_moved) 56 = .ok (.aload_n 0, 1) := by decide +kernel
theorem d_X2_moved_57 : decode (mB M_X2_moved) 57 = .ok (.getfield 18, 3) := by decide +kernel
theorem d_X2_moved_60 : decode (mB M_X2_moved) 60 = .ok (.land, 1) := by decide +kernel
theorem d_X2_moved_61 : decode (mB M_X2_moved) 61 = .ok (.lreturn, 1) := by decide +kernel
theorem d_X2_moved_62 : decode (mB M_X2_moved) 62 = .ok (.lload_n 1, 1) := by decide +kernel
theorem d_X2_moved_63 : decode (mB M_X2_moved) 63 = .ok (.aload_n 0, 1) := by decide +kernel
theorem d_X2_moved_64 : decode (mB M_X2_moved) 64 = .ok (.getfield 15, 3) := by decide +kernel
theorem d_X2_moved_67 : decode (mB M_X2_moved) 67 = .ok (.lshl, 1) := by decide +kernel
theorem d_X2_moved_68 : decode (mB M_X2_moved) 68 = .ok (.aload_n 0, 1) := by decide +kernel
theorem d_X2_moved_69 : decode (mB M_X2_moved) 69 = .ok (.getfield 18, 3) := by decide +kernel
theorem d_X2_moved_72 : decode (mB M_X2_moved) 72 = .ok (.land, 1) := by decide +kernel
theorem d_X2_moved_73 : decode (mB M_X2_moved) 73 = .ok (.lreturn, 1) := by decide +kernel
theorem d_X2_moved_74 : decode (mB M_X2_moved) 74 = .ok (.lload_n 1, 1) := by decide +kernel
theorem d_X2_moved_75 : decode (mB M_X2_moved) 75 = .ok (.aload_n 0, 1) := by decide +kernel
theorem d_X2_moved_76 : decode (mB M_X2_moved) 76 = .ok (.getfield 28, 3) := by decide +kernel
theorem d_X2_moved_79 : decode (mB M_X2_moved) 79 = .ok (.ldc2_w 48, 3) := by decide +kernel
theorem d_X2_moved_82 : decode (mB M_X2_moved) 82 = .ok (.lxor, 1) := by decide +kernel
theorem d_X2_moved_83 : decode (mB M_X2_moved) 83 = .ok (.land, 1) := by decide +kernel
theorem d_X2_moved_84 : decode (mB M_X2_moved) 84 = .ok (.iconst 1, 1) := by decide +kernel
theorem d_X2_moved_85 : decode (mB M_X2_moved) 85 = .ok (.lushr, 1) := by decide +kernel
theorem d_X2_moved_86 : decode (mB M_X2_moved) 86 = .ok (.aload_n 0, 1) := by decide +kernel
theorem d_X2_moved_87 : decode (mB M_X2_moved) 87 = .ok (.getfield 18, 3) := by decide +kernel
theorem d_X2_moved_90 : decode (mB M_X2_moved) 90 = .ok (.land, 1) := by decide +kernel
theorem d_X2_moved_91 : decode (mB M_X2_moved) 91 = .ok (.lreturn, 1) := by decide +kernel
theorem d_X2_moved_92 : decode (mB M_X2_moved) 92 = .ok (.lconst 0, 1) := by decide +kernel
theorem d_X2_moved_93 : decode (mB M_X2_moved) 93 = .ok (.lreturn, 1) := by decide +kernel
theorem c_moved {E : mEnv} (hE : E.1.stackTraces = false) (r : Nat) (g : gT) (w : mW) (hg : mget w r = some (gcell g)) (s : Int64) (d : Int32) : Rt E M_X2_moved 0 [.ref r, .long s, .int d] w (some (.long (gMv g s d))) w := by
  refine Rt.of hE rfl pn_X2 (Nat.le_of_ble_eq_true rfl) ?_
  refine g_eq (S' := (0, [some (.ref r), some (.long s), none, some (.int d)], [], w)) rfl ?_
  refine g_iload_n d_X2_moved_0 rfl ?_
  by_cases t_1_0 : d = 0
  · refine g_tabIn (off := 31) (tgt := 32) d_X2_moved_1 (by rw [t_1_0]; decide) (by rw [t_1_0]; decide) (by rw [t_1_0]; rfl) (by decide) ?_
    refine g_lload_n d_X2_moved_32 rfl ?_
    refine g_aload_n d_X2_moved_33 rfl ?_
    refine g_getf d_X2_moved_34 f_X2_15 hg rfl ?_
    refine g_lushr (v := (jushr s (gC g))) d_X2_moved_37 rfl ?_
    refine g_aload_n d_X2_moved_38 rfl ?_
    refine g_getf d_X2_moved_39 f_X2_18 hg rfl ?_
    refine g_land d_X2_moved_42 ?_
    exact g_retL d_X2_moved_43 rfl (by simp [gMv, *]) (rfl)
  by_cases t_1_1 : d = 1
  · refine g_tabIn (off := 43) (tgt := 44) d_X2_moved_1 (by rw [t_1_1]; decide) (by rw [t_1_1]; decide) (by rw [t_1_1]; rfl) (by decide) ?_
    refine g_lload_n d_X2_moved_44 rfl ?_
    refine g_aload_n d_X2_moved_45 rfl ?_
    refine g_getf d_X2_moved_46 f_X2_31 hg rfl ?_
    refine g_ldc2 (v := (-1)) d_X2_moved_49 k_X2_48 ?_
    refine g_lxor d_X2_moved_52 ?_
    refine g_land d_X2_moved_53 ?_
    refine g_iconst (v := 1) d_X2_moved_54 (by decide) ?_
    refine g_lshl (v := (jshl (s &&& ((gL g) ^^^ (-1))) 1)) d_X2_moved_55 rfl ?_
    refine g_aload_n d_X2_moved_56 rfl ?_
    refine g_getf d_X2_moved_57 f_X2_18 hg rfl ?_
    refine g_land d_X2_moved_60 ?_
    exact g_retL d_X2_moved_61 rfl (by simp [gMv, *]) (rfl)
  by_cases t_1_2 : d = 2
  · refine g_tabIn (off := 61) (tgt := 62) d_X2_moved_1 (by rw [t_1_2]; decide) (by rw [t_1_2]; decide) (by rw [t_1_2]; rfl) (by decide) ?_
    refine g_lload_n d_X2_moved_62 rfl ?_
    refine g_aload_n d_X2_moved_63 rfl ?_
    refine g_getf d_X2_moved_64 f_X2_15 hg rfl ?_
    refine g_lshl (v := (jshl s (gC g))) d_X2_moved_67 rfl ?_
    refine g_aload_n d_X2_moved_68 rfl ?_
    refine g_getf d_X2_moved_69 f_X2_18 hg rfl ?_
    refine g_land d_X2_moved_72 ?_
    exact g_retL d_X2_moved_73 rfl (by simp [gMv, *]) (rfl)
  by_cases t_1_3 : d = 3
  · refine g_tabIn (off := 73) (tgt := 74) d_X2_moved_1 (by rw [t_1_3]; decide) (by rw [t_1_3]; decide) (by rw [t_1_3]; rfl) (by decide) ?_
    refine g_lload_n d_X2_moved_74 rfl ?_
    refine g_aload_n d_X2_moved_75 rfl ?_
    refine g_getf d_X2_moved_76 f_X2_28 hg rfl ?_
    refine g_ldc2 (v := (-1)) d_X2_moved_79 k_X2_48 ?_
    refine g_lxor d_X2_moved_82 ?_
    refine g_land d_X2_moved_83 ?_
    refine g_iconst (v := 1) d_X2_moved_84 (by decide) ?_
    refine g_lushr (v := (jushr (s &&& ((gF g) ^^^ (-1))) 1)) d_X2_moved_85 rfl ?_
    refine g_aload_n d_X2_moved_86 rfl ?_
    refine g_getf d_X2_moved_87 f_X2_18 hg rfl ?_
    refine g_land d_X2_moved_90 ?_
    exact g_retL d_X2_moved_91 rfl (by simp [gMv, *]) (rfl)
  refine g_tabOut (tgt := 92) d_X2_moved_1 (by have a0 : d.toInt ≠ 0 := sw_ne t_1_0; have a1 : d.toInt ≠ 1 := sw_ne t_1_1; have a2 : d.toInt ≠ 2 := sw_ne t_1_2; have a3 : d.toInt ≠ 3 := sw_ne t_1_3; omega) (by decide) ?_
  refine g_lconst (v := 0) d_X2_moved_92 (by decide) ?_
  exact g_retL d_X2_moved_93 rfl (by simp [gMv, *]) (rfl)
def gBs (g : gT) (s : Int64) : Int64 := gMv g s 0 ||| gMv g s 1 ||| gMv g s 2 ||| gMv g s 3
theorem d_X2_beside_0 : decode (mB M_X2_beside) 0 = .ok (.aload_n 0, 1) := by decide +kernel
theorem d_X2_beside_1 : decode (mB M_X2_beside) 1 = .ok (.lload_n 1, 1) := by decide +kernel
theorem d_X2_beside_2 : decode (mB M_X2_beside) 2 = .ok (.iconst 0, 1) := by decide +kernel
theorem d_X2_beside_3 : decode (mB M_X2_beside) 3 = .ok (.invokevirtual 50, 3) := by decide +kernel
theorem d_X2_beside_6 : decode (mB M_X2_beside) 6 = .ok (.aload_n 0, 1) := by decide +kernel
theorem d_X2_beside_7 : decode (mB M_X2_beside) 7 = .ok (.lload_n 1, 1) := by decide +kernel
theorem d_X2_beside_8 : decode (mB M_X2_beside) 8 = .ok (.iconst 1, 1) := by decide +kernel
theorem d_X2_beside_9 : decode (mB M_X2_beside) 9 = .ok (.invokevirtual 50, 3) := by decide +kernel
theorem d_X2_beside_12 : decode (mB M_X2_beside) 12 = .ok (.lor, 1) := by decide +kernel
theorem d_X2_beside_13 : decode (mB M_X2_beside) 13 = .ok (.aload_n 0, 1) := by decide +kernel
theorem d_X2_beside_14 : decode (mB M_X2_beside) 14 = .ok (.lload_n 1, 1) := by decide +kernel
theorem d_X2_beside_15 : decode (mB M_X2_beside) 15 = .ok (.iconst 2, 1) := by decide +kernel
theorem d_X2_beside_16 : decode (mB M_X2_beside) 16 = .ok (.invokevirtual 50, 3) := by decide +kernel
theorem d_X2_beside_19 : decode (mB M_X2_beside) 19 = .ok (.lor, 1) := by decide +kernel
theorem d_X2_beside_20 : decode (mB M_X2_beside) 20 = .ok (.aload_n 0, 1) := by decide +kernel
theorem d_X2_beside_21 : decode (mB M_X2_beside) 21 = .ok (.lload_n 1, 1) := by decide +kernel
theorem d_X2_beside_22 : decode (mB M_X2_beside) 22 = .ok (.iconst 3, 1) := by decide +kernel
theorem d_X2_beside_23 : decode (mB M_X2_beside) 23 = .ok (.invokevirtual 50, 3) := by decide +kernel
theorem d_X2_beside_26 : decode (mB M_X2_beside) 26 = .ok (.lor, 1) := by decide +kernel
theorem d_X2_beside_27 : decode (mB M_X2_beside) 27 = .ok (.lreturn, 1) := by decide +kernel
theorem c_beside {E : mEnv} (hE : E.1.stackTraces = false) (r : Nat) (g : gT) (w : mW) (hg : mget w r = some (gcell g)) (s : Int64) : Rt E M_X2_beside 0 [.ref r, .long s] w (some (.long (gBs g s))) w := by
  refine Rt.of hE rfl pn_X2 (Nat.le_of_ble_eq_true rfl) ?_
  refine g_eq (S' := (0, [some (.ref r), some (.long s), none], [], w)) rfl ?_
  refine g_aload_n d_X2_beside_0 rfl ?_
  refine g_lload_n d_X2_beside_1 rfl ?_
  refine g_iconst (v := 0) d_X2_beside_2 (by decide) ?_
  refine g_callV (As := [.long s, .int 0]) d_X2_beside_3 o_X2_moved l_X2_50 ⟨Nat.le_of_ble_eq_true rfl, Nat.le_of_ble_eq_true rfl⟩ (c_moved hE r g w hg s 0) hg rfl rfl rfl rfl rfl ?_ (Nat.zero_add _)
  refine g_aload_n d_X2_beside_6 rfl ?_
  refine g_lload_n d_X2_beside_7 rfl ?_
  refine g_iconst (v := 1) d_X2_beside_8 (by decide) ?_
  refine g_callV (As := [.long s, .int 1]) d_X2_beside_9 o_X2_moved l_X2_50 ⟨Nat.le_of_ble_eq_true rfl, Nat.le_of_ble_eq_true rfl⟩ (c_moved hE r g w hg s 1) hg rfl rfl rfl rfl rfl ?_ (Nat.zero_add _)
  refine g_lor d_X2_beside_12 ?_
  refine g_aload_n d_X2_beside_13 rfl ?_
  refine g_lload_n d_X2_beside_14 rfl ?_
  refine g_iconst (v := 2) d_X2_beside_15 (by decide) ?_
  refine g_callV (As := [.long s, .int 2]) d_X2_beside_16 o_X2_moved l_X2_50 ⟨Nat.le_of_ble_eq_true rfl, Nat.le_of_ble_eq_true rfl⟩ (c_moved hE r g w hg s 2) hg rfl rfl rfl rfl rfl ?_ (Nat.zero_add _)
  refine g_lor d_X2_beside_19 ?_
  refine g_aload_n d_X2_beside_20 rfl ?_
  refine g_lload_n d_X2_beside_21 rfl ?_
  refine g_iconst (v := 3) d_X2_beside_22 (by decide) ?_
  refine g_callV (As := [.long s, .int 3]) d_X2_beside_23 o_X2_moved l_X2_50 ⟨Nat.le_of_ble_eq_true rfl, Nat.le_of_ble_eq_true rfl⟩ (c_moved hE r g w hg s 3) hg rfl rfl rfl rfl rfl ?_ (Nat.zero_add _)
  refine g_lor d_X2_beside_26 ?_
  exact g_retL d_X2_beside_27 rfl (rfl) (rfl)
def gSpL (g : gT) (over : Int64) : Nat → Int64 → Int64
  | 0, r => r
  | n + 1, r => if r ||| (gBs g r &&& over) = r then r else gSpL g over n (r ||| (gBs g r &&& over))
def gSp (g : gT) (start over : Int64) : Int64 := gSpL g over 64 (start &&& over)
theorem d_X2_spread_0 : decode (mB M_X2_spread) 0 = .ok (.lload_n 1, 1) := by decide +kernel
theorem d_X2_spread_1 : decode (mB M_X2_spread) 1 = .ok (.lload_n 3, 1) := by decide +kernel
theorem d_X2_spread_2 : decode (mB M_X2_spread) 2 = .ok (.land, 1) := by decide +kernel
theorem d_X2_spread_3 : decode (mB M_X2_spread) 3 = .ok (.lstore 5, 2) := by decide +kernel
theorem d_X2_spread_5 : decode (mB M_X2_spread) 5 = .ok (.iconst 0, 1) := by decide +kernel
theorem d_X2_spread_6 : decode (mB M_X2_spread) 6 = .ok (.istore 7, 2) := by decide +kernel
theorem d_X2_spread_8 : decode (mB M_X2_spread) 8 = .ok (.iload 7, 2) := by decide +kernel
theorem d_X2_spread_10 : decode (mB M_X2_spread) 10 = .ok (.bipush 64, 2) := by decide +kernel
theorem d_X2_spread_12 : decode (mB M_X2_spread) 12 = .ok (.if_icmp .ge 37, 3) := by decide +kernel
theorem d_X2_spread_15 : decode (mB M_X2_spread) 15 = .ok (.lload 5, 2) := by decide +kernel
theorem d_X2_spread_17 : decode (mB M_X2_spread) 17 = .ok (.aload_n 0, 1) := by decide +kernel
theorem d_X2_spread_18 : decode (mB M_X2_spread) 18 = .ok (.lload 5, 2) := by decide +kernel
theorem d_X2_spread_20 : decode (mB M_X2_spread) 20 = .ok (.invokevirtual 54, 3) := by decide +kernel
theorem d_X2_spread_23 : decode (mB M_X2_spread) 23 = .ok (.lload_n 3, 1) := by decide +kernel
theorem d_X2_spread_24 : decode (mB M_X2_spread) 24 = .ok (.land, 1) := by decide +kernel
theorem d_X2_spread_25 : decode (mB M_X2_spread) 25 = .ok (.lor, 1) := by decide +kernel
theorem d_X2_spread_26 : decode (mB M_X2_spread) 26 = .ok (.lstore 8, 2) := by decide +kernel
theorem d_X2_spread_28 : decode (mB M_X2_spread) 28 = .ok (.lload 8, 2) := by decide +kernel
theorem d_X2_spread_30 : decode (mB M_X2_spread) 30 = .ok (.lload 5, 2) := by decide +kernel
theorem d_X2_spread_32 : decode (mB M_X2_spread) 32 = .ok (.lcmp, 1) := by decide +kernel
theorem d_X2_spread_33 : decode (mB M_X2_spread) 33 = .ok (.ifCond .ne 6, 3) := by decide +kernel
theorem d_X2_spread_36 : decode (mB M_X2_spread) 36 = .ok (.goto 13, 3) := by decide +kernel
theorem d_X2_spread_39 : decode (mB M_X2_spread) 39 = .ok (.lload 8, 2) := by decide +kernel
theorem d_X2_spread_41 : decode (mB M_X2_spread) 41 = .ok (.lstore 5, 2) := by decide +kernel
theorem d_X2_spread_43 : decode (mB M_X2_spread) 43 = .ok (.iinc 7 1, 3) := by decide +kernel
theorem d_X2_spread_46 : decode (mB M_X2_spread) 46 = .ok (.goto (-38), 3) := by decide +kernel
theorem d_X2_spread_49 : decode (mB M_X2_spread) 49 = .ok (.lload 5, 2) := by decide +kernel
theorem d_X2_spread_51 : decode (mB M_X2_spread) 51 = .ok (.lreturn, 1) := by decide +kernel
theorem l_spread {E : mEnv} (hE : E.1.stackTraces = false) (r : Nat) (g : gT) (w : mW) (hg : mget w r = some (gcell g)) (start over : Int64) : ∀ (n : Nat) (k : Nat) (q : Int64), k + n = 64 → Go E M_X2_spread 0 (8, [some (.ref r), some (.long start), none, some (.long over), none, some (.long q), none, some (.int (nI k)), none, none], [], w) (.inr (.inl (some (.long (gSpL g over n q)), w))) := by
  intro n
  induction n with
  | zero =>
    intro k q hk
    obtain rfl : k = 64 := by omega
    refine g_iload d_X2_spread_8 rfl ?_
    refine g_bipush (v := 64) d_X2_spread_10 (by decide) ?_
    refine g_icmp_ge (tgt := 49) d_X2_spread_12 (by decide) (fun c_12 => ?_) (fun c_12 => absurd c_12 (absurd (nI_le (Nat.le_refl 64) (by decide)) c_12))
    refine g_lload d_X2_spread_49 rfl ?_
    exact g_retL d_X2_spread_51 rfl (rfl) (rfl)
  | succ n ih =>
    intro k q hk
    refine g_iload d_X2_spread_8 rfl ?_
    refine g_bipush (v := 64) d_X2_spread_10 (by decide) ?_
    refine g_icmp_ge (tgt := 49) d_X2_spread_12 (by decide) (fun c_12 => absurd c_12 (nI_ge (a := k) (b := 64) (by omega) (by decide))) (fun c_12 => ?_)
    refine g_lload d_X2_spread_15 rfl ?_
    refine g_aload_n d_X2_spread_17 rfl ?_
    refine g_lload d_X2_spread_18 rfl ?_
    refine g_callV (As := [.long q]) d_X2_spread_20 o_X2_beside l_X2_54 ⟨Nat.le_of_ble_eq_true rfl, Nat.le_of_ble_eq_true rfl⟩ (c_beside hE r g w hg q) hg rfl rfl rfl rfl rfl ?_ (Nat.zero_add _)
    refine g_lload_n d_X2_spread_23 rfl ?_
    refine g_land d_X2_spread_24 ?_
    refine g_lor d_X2_spread_25 ?_
    refine g_lstore (L' := [some (.ref r), some (.long start), none, some (.long over), none, some (.long q), none, some (.int (nI k)), some (.long (q ||| ((gBs g q) &&& over))), none]) d_X2_spread_26 rfl rfl ?_
    refine g_lload d_X2_spread_28 rfl ?_
    refine g_lload d_X2_spread_30 rfl ?_
    refine g_lcmp_ne (tgt := 39) d_X2_spread_32 d_X2_spread_33 (by decide) (fun c_32 => ?_) (fun c_32 => ?_)
    · refine g_lload d_X2_spread_39 rfl ?_
      refine g_lstore (L' := [some (.ref r), some (.long start), none, some (.long over), none, some (.long (q ||| ((gBs g q) &&& over))), none, some (.int (nI k)), some (.long (q ||| ((gBs g q) &&& over))), none]) d_X2_spread_41 rfl rfl ?_
      refine g_iinc (v := ((nI k) + 1)) (L' := [some (.ref r), some (.long start), none, some (.long over), none, some (.long (q ||| ((gBs g q) &&& over))), none, some (.int ((nI k) + 1)), some (.long (q ||| ((gBs g q) &&& over))), none]) d_X2_spread_43 rfl rfl rfl ?_
      refine g_goto (tgt := 8) d_X2_spread_46 (by decide) ?_
      refine g_drop [8] (L1 := [some (.ref r), some (.long start), none, some (.long over), none, some (.long (q ||| ((gBs g q) &&& over))), none, some (.int ((nI k) + 1)), none, none]) rfl ?_
      refine g_eq (S' := (8, [some (.ref r), some (.long start), none, some (.long over), none, some (.long (q ||| (gBs g q &&& over))), none, some (.int (nI (k + 1))), none, none], [], w)) (by first | rfl | (rw [nI_1]; rfl) | (simp only [nI_1]; rfl) | simp only [nI_1]) ?_
      have := ih (k + 1) (q ||| (gBs g q &&& over)) (by omega)
      rw [show gSpL g over (n + 1) q = gSpL g over n (q ||| (gBs g q &&& over)) by simp [gSpL, c_32]]
      exact this
    · refine g_goto (tgt := 49) d_X2_spread_36 (by decide) ?_
      refine g_lload d_X2_spread_49 rfl ?_
      exact g_retL d_X2_spread_51 rfl (by simp [gSpL, *]) (rfl)
theorem c_spread {E : mEnv} (hE : E.1.stackTraces = false) (r : Nat) (g : gT) (w : mW) (hg : mget w r = some (gcell g)) (start over : Int64) : Rt E M_X2_spread 0 [.ref r, .long start, .long over] w (some (.long (gSp g start over))) w := by
  refine Rt.of hE rfl pn_X2 (Nat.le_of_ble_eq_true rfl) ?_
  refine g_eq (S' := (0, [some (.ref r), some (.long start), none, some (.long over), none, none, none, none, none, none], [], w)) rfl ?_
  refine g_lload_n d_X2_spread_0 rfl ?_
  refine g_lload_n d_X2_spread_1 rfl ?_
  refine g_land d_X2_spread_2 ?_
  refine g_lstore (L' := [some (.ref r), some (.long start), none, some (.long over), none, some (.long (start &&& over)), none, none, none, none]) d_X2_spread_3 rfl rfl ?_
  refine g_iconst (v := 0) d_X2_spread_5 (by decide) ?_
  refine g_istore (L' := [some (.ref r), some (.long start), none, some (.long over), none, some (.long (start &&& over)), none, some (.int 0), none, none]) d_X2_spread_6 rfl rfl ?_
  refine g_eq (S' := (8, [some (.ref r), some (.long start), none, some (.long over), none, some (.long (start &&& over)), none, some (.int (nI 0)), none, none], [], w)) (rfl) ?_
  exact l_spread hE r g w hg start over 64 0 _ (by omega)
