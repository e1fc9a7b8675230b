/-! Layers: sets of cells by their distance -/
abbrev ycell (q : Nat) (z : Int32) : mE := .inr (4, [.ref q, .int z])
abbrev lrow (n : Nat) (f : Nat → Int64) : mE := .inl (1, n, .inr (.inl f))
abbrev irow (n : Nat) (f : Nat → Int32) : mE := .inl (0, n, .inl f)
def yA (g : gT) (over a b : Int64) : Int64 := gBs g a &&& over &&& (b ^^^ (-1))
/-- the rows that are laid, and how many -/
def yLa (g : gT) (over : Int64) : Nat → Nat → Int64 → Int64 → (Nat → Int64) → (Nat → Int64) × Nat
  | 0, k, _, _, f => (f, k)
  | n + 1, k, a, b, f => if a = 0 then (f, k) else yLa g over n (k + 1) (yA g over a b) (b ||| yA g over a b) (setLongF 64 f (nI k) a)
theorem d_X4_lay_0 : decode (mB M_X4_lay) 0 = .ok (.lload_n 2, 1) := by decide +kernel
theorem d_X4_lay_1 : decode (mB M_X4_lay) 1 = .ok (.lstore 6, 2) := by decide +kernel
theorem d_X4_lay_3 : decode (mB M_X4_lay) 3 = .ok (.lload_n 2, 1) := by decide +kernel
theorem d_X4_lay_4 : decode (mB M_X4_lay) 4 = .ok (.lstore 8, 2) := by decide +kernel
theorem d_X4_lay_6 : decode (mB M_X4_lay) 6 = .ok (.aload_n 0, 1) := by decide +kernel
theorem d_X4_lay_7 : decode (mB M_X4_lay) 7 = .ok (.iconst 0, 1) := by decide +kernel
theorem d_X4_lay_8 : decode (mB M_X4_lay) 8 = .ok (.putfield 15, 3) := by decide +kernel
theorem d_X4_lay_11 : decode (mB M_X4_lay) 11 = .ok (.iconst 0, 1) := by decide +kernel
theorem d_X4_lay_12 : decode (mB M_X4_lay) 12 = .ok (.istore 10, 2) := by decide +kernel
theorem d_X4_lay_14 : decode (mB M_X4_lay) 14 = .ok (.iload 10, 2) := by decide +kernel
theorem d_X4_lay_16 : decode (mB M_X4_lay) 16 = .ok (.bipush 64, 2) := by decide +kernel
theorem d_X4_lay_18 : decode (mB M_X4_lay) 18 = .ok (.if_icmp .ge 62, 3) := by decide +kernel
theorem d_X4_lay_21 : decode (mB M_X4_lay) 21 = .ok (.lload 6, 2) := by decide +kernel
theorem d_X4_lay_23 : decode (mB M_X4_lay) 23 = .ok (.lconst 0, 1) := by decide +kernel
theorem d_X4_lay_24 : decode (mB M_X4_lay) 24 = .ok (.lcmp, 1) := by decide +kernel
theorem d_X4_lay_25 : decode (mB M_X4_lay) 25 = .ok (.ifCond .eq 55, 3) := by decide +kernel
theorem d_X4_lay_28 : decode (mB M_X4_lay) 28 = .ok (.aload_n 0, 1) := by decide +kernel
theorem d_X4_lay_29 : decode (mB M_X4_lay) 29 = .ok (.getfield 9, 3) := by decide +kernel
theorem d_X4_lay_32 : decode (mB M_X4_lay) 32 = .ok (.iload 10, 2) := by decide +kernel
theorem d_X4_lay_34 : decode (mB M_X4_lay) 34 = .ok (.lload 6, 2) := by decide +kernel
theorem d_X4_lay_36 : decode (mB M_X4_lay) 36 = .ok (.invokestatic 19, 3) := by decide +kernel
theorem d_X4_lay_39 : decode (mB M_X4_lay) 39 = .ok (.aload_n 0, 1) := by decide +kernel
theorem d_X4_lay_40 : decode (mB M_X4_lay) 40 = .ok (.dup, 1) := by decide +kernel
theorem d_X4_lay_41 : decode (mB M_X4_lay) 41 = .ok (.getfield 15, 3) := by decide +kernel
theorem d_X4_lay_44 : decode (mB M_X4_lay) 44 = .ok (.iconst 1, 1) := by decide +kernel
theorem d_X4_lay_45 : decode (mB M_X4_lay) 45 = .ok (.iadd, 1) := by decide +kernel
theorem d_X4_lay_46 : decode (mB M_X4_lay) 46 = .ok (.putfield 15, 3) := by decide +kernel
theorem d_X4_lay_49 : decode (mB M_X4_lay) 49 = .ok (.aload_n 1, 1) := by decide +kernel
theorem d_X4_lay_50 : decode (mB M_X4_lay) 50 = .ok (.lload 6, 2) := by decide +kernel
theorem d_X4_lay_52 : decode (mB M_X4_lay) 52 = .ok (.invokevirtual 23, 3) := by decide +kernel
theorem d_X4_lay_55 : decode (mB M_X4_lay) 55 = .ok (.lload 4, 2) := by decide +kernel
theorem d_X4_lay_57 : decode (mB M_X4_lay) 57 = .ok (.land, 1) := by decide +kernel
theorem d_X4_lay_58 : decode (mB M_X4_lay) 58 = .ok (.lload 8, 2) := by decide +kernel
theorem d_X4_lay_60 : decode (mB M_X4_lay) 60 = .ok (.ldc2_w 29, 3) := by decide +kernel
theorem d_X4_lay_63 : decode (mB M_X4_lay) 63 = .ok (.lxor, 1) := by decide +kernel
theorem d_X4_lay_64 : decode (mB M_X4_lay) 64 = .ok (.land, 1) := by decide +kernel
theorem d_X4_lay_65 : decode (mB M_X4_lay) 65 = .ok (.lstore 6, 2) := by decide +kernel
theorem d_X4_lay_67 : decode (mB M_X4_lay) 67 = .ok (.lload 8, 2) := by decide +kernel
theorem d_X4_lay_69 : decode (mB M_X4_lay) 69 = .ok (.lload 6, 2) := by decide +kernel
theorem d_X4_lay_71 : decode (mB M_X4_lay) 71 = .ok (.lor, 1) := by decide +kernel
theorem d_X4_lay_72 : decode (mB M_X4_lay) 72 = .ok (.lstore 8, 2) := by decide +kernel
theorem d_X4_lay_74 : decode (mB M_X4_lay) 74 = .ok (.iinc 10 1, 3) := by decide +kernel
theorem d_X4_lay_77 : decode (mB M_X4_lay) 77 = .ok (.goto (-63), 3) := by decide +kernel
theorem d_X4_lay_80 : decode (mB M_X4_lay) 80 = .ok (.return_, 1) := by decide +kernel
theorem l_lay {E : mEnv} (hE : E.1.stackTraces = false) (y q r : Nat) (z : Int32) (f : Nat → Int64) (g : gT) (w : mW) (hy : mget w y = some (ycell q z)) (hq : mget w q = some (lrow 64 f)) (hg : mget w r = some (gcell g)) (hyq : y ≠ q) (hyr : y ≠ r) (hqr : q ≠ r) (over : Int64) : ∀ (n : Nat) (k : Nat) (a b : Int64) (h : Nat → Int64), k + n = 64 → Go E M_X4_lay 0 (14, [some (.ref y), some (.ref r), none, none, some (.long over), none, some (.long a), none, some (.long b), none, some (.int (nI k))], [], (mset (mset w y (.inr (4, [.ref q, .int (nI k)]))) q (.inl (1, 64, .inr (.inl h))))) (.inr (.inl (none, mset (mset w y (ycell q (nI (yLa g over n k a b h).2))) q (lrow 64 (yLa g over n k a b h).1)))) := by
  intro n
  induction n with
  | zero =>
    intro k a b h hk
    obtain rfl : k = 64 := by omega
    refine g_iload d_X4_lay_14 rfl ?_
    refine g_bipush (v := 64) d_X4_lay_16 (by decide) ?_
    refine g_icmp_ge (tgt := 80) d_X4_lay_18 (by decide) (fun c_18 => ?_) (fun c_18 => absurd c_18 (absurd (nI_le (Nat.le_refl 64) (by decide)) c_18))
    exact g_retV d_X4_lay_80 rfl (rfl)
  | succ n ih =>
    intro k a b h hk
    refine g_iload d_X4_lay_14 rfl ?_
    refine g_bipush (v := 64) d_X4_lay_16 (by decide) ?_
    refine g_icmp_ge (tgt := 80) d_X4_lay_18 (by decide) (fun c_18 => absurd c_18 (nI_ge (a := k) (b := 64) (by omega) (by decide))) (fun c_18 => ?_)
    refine g_lload d_X4_lay_21 rfl ?_
    refine g_lconst (v := 0) d_X4_lay_23 (by decide) ?_
    refine g_lcmp_eq (tgt := 80) d_X4_lay_24 d_X4_lay_25 (by decide) (fun c_24 => ?_) (fun c_24 => ?_)
    · exact g_retV d_X4_lay_80 rfl (by simp only [yLa, *, ↓reduceIte])
    · refine g_aload_n d_X4_lay_28 rfl ?_
      refine g_getf d_X4_lay_29 f_X4_9 ((mget_ne (Ne.symm hyq)).trans (mget_eq hy)) rfl ?_
      refine g_iload d_X4_lay_32 rfl ?_
      refine g_lload d_X4_lay_34 rfl ?_
      refine g_callN (As := [.ref q, .int (nI k), .long a]) d_X4_lay_36 o_X11_setLong n_X4_19 ⟨Nat.le_of_ble_eq_true rfl, Nat.le_of_ble_eq_true rfl⟩ (c_setLong hE q 64 h (nI k) a _ (by decide) (mget_eq ((mget_ne hyq).trans hq))) rfl rfl ?_ (Nat.zero_add _)
      refine g_eq (S' := (39, [some (.ref y), some (.ref r), none, none, some (.long over), none, some (.long a), none, some (.long b), none, some (.int (nI k))], [], (mset (mset w y (.inr (4, [.ref q, .int (nI k)]))) q (.inl (1, 64, .inr (.inl (setLongF 64 h (nI k) a))))))) (congrArg (fun z => ((39, [some (.ref y), some (.ref r), none, none, some (.long over), none, some (.long a), none, some (.long b), none, some (.int (nI k))], [], z) : mS)) (mset_mset)) ?_
      refine g_aload_n d_X4_lay_39 rfl ?_
      refine g_dup d_X4_lay_40 rfl ?_
      refine g_getf d_X4_lay_41 f_X4_15 ((mget_ne (Ne.symm hyq)).trans (mget_eq hy)) rfl ?_
      refine g_iconst (v := 1) d_X4_lay_44 (by decide) ?_
      refine g_iadd d_X4_lay_45 ?_
      refine g_putI (w' := (mset (mset w y (.inr (4, [.ref q, .int ((nI k) + 1)]))) q (.inl (1, 64, .inr (.inl (setLongF 64 h (nI k) a)))))) d_X4_lay_46 p_X4_15 rfl rfl ((mget_ne (Ne.symm hyq)).trans (mget_eq hy)) (Nat.le_of_ble_eq_true rfl) (by rw [mset_comm (i := q) (j := y) (Ne.symm hyq), mset_mset] <;> rfl) ?_
      refine g_aload_n d_X4_lay_49 rfl ?_
      refine g_lload d_X4_lay_50 rfl ?_
      refine g_callV (As := [.long a]) d_X4_lay_52 o_X2_beside l_X4_23 ⟨Nat.le_of_ble_eq_true rfl, Nat.le_of_ble_eq_true rfl⟩ (c_beside hE r g _ ((mget_ne hqr).trans ((mget_ne hyr).trans hg)) a) ((mget_ne hqr).trans ((mget_ne hyr).trans hg)) rfl rfl rfl rfl rfl ?_ (Nat.zero_add _)
      refine g_lload d_X4_lay_55 rfl ?_
      refine g_land d_X4_lay_57 ?_
      refine g_lload d_X4_lay_58 rfl ?_
      refine g_ldc2 (v := (-1)) d_X4_lay_60 k_X4_29 ?_
      refine g_lxor d_X4_lay_63 ?_
      refine g_land d_X4_lay_64 ?_
      refine g_lstore (L' := [some (.ref y), some (.ref r), none, none, some (.long over), none, some (.long (yA g over a b)), none, some (.long b), none, some (.int (nI k))]) d_X4_lay_65 rfl rfl ?_
      refine g_lload d_X4_lay_67 rfl ?_
      refine g_lload d_X4_lay_69 rfl ?_
      refine g_lor d_X4_lay_71 ?_
      refine g_lstore (L' := [some (.ref y), some (.ref r), none, none, some (.long over), none, some (.long (yA g over a b)), none, some (.long (b ||| (yA g over a b))), none, some (.int (nI k))]) d_X4_lay_72 rfl rfl ?_
      refine g_iinc (v := ((nI k) + 1)) (L' := [some (.ref y), some (.ref r), none, none, some (.long over), none, some (.long (yA g over a b)), none, some (.long (b ||| (yA g over a b))), none, some (.int ((nI k) + 1))]) d_X4_lay_74 rfl rfl rfl ?_
      refine g_goto (tgt := 14) d_X4_lay_77 (by decide) ?_
      refine g_eq (S' := (14, [some (.ref y), some (.ref r), none, none, some (.long over), none, some (.long (yA g over a b)), none, some (.long (b ||| (yA g over a b))), none, some (.int (nI (k + 1)))], [], (mset (mset w y (.inr (4, [.ref q, .int (nI (k + 1))]))) q (.inl (1, 64, .inr (.inl (setLongF 64 h (nI k) a))))))) (by first | rfl | (rw [nI_1]; rfl) | (simp only [nI_1]; rfl) | simp only [nI_1]) ?_
      rw [show yLa g over (n + 1) k a b h = yLa g over n (k + 1) (yA g over a b) (b ||| yA g over a b) (setLongF 64 h (nI k) a) by simp only [yLa, *, ↓reduceIte]]
      exact ih (k + 1) _ _ _ (by omega)
def yLay (g : gT) (s over : Int64) (f : Nat → Int64) : (Nat → Int64) × Nat := yLa g over 64 0 s s f
theorem c_lay {E : mEnv} (hE : E.1.stackTraces = false) (y q r : Nat) (z : Int32) (f : Nat → Int64) (g : gT) (w : mW) (hy : mget w y = some (ycell q z)) (hq : mget w q = some (lrow 64 f)) (hg : mget w r = some (gcell g)) (hyq : y ≠ q) (hyr : y ≠ r) (hqr : q ≠ r) (s over : Int64) : Rt E M_X4_lay 0 [.ref y, .ref r, .long s, .long over] w none ((mset (mset w y (ycell q (nI (yLay g s over f).2))) q (lrow 64 (yLay g s over f).1))) := by
  refine Rt.of hE rfl pn_X4 (Nat.le_of_ble_eq_true rfl) ?_
  refine g_eq (S' := (0, [some (.ref y), some (.ref r), some (.long s), none, some (.long over), none, none, none, none, none, none], [], w)) rfl ?_
  refine g_lload_n d_X4_lay_0 rfl ?_
  refine g_lstore (L' := [some (.ref y), some (.ref r), some (.long s), none, some (.long over), none, some (.long s), none, none, none, none]) d_X4_lay_1 rfl rfl ?_
  refine g_lload_n d_X4_lay_3 rfl ?_
  refine g_lstore (L' := [some (.ref y), some (.ref r), some (.long s), none, some (.long over), none, some (.long s), none, some (.long s), none, none]) d_X4_lay_4 rfl rfl ?_
  refine g_aload_n d_X4_lay_6 rfl ?_
  refine g_iconst (v := 0) d_X4_lay_7 (by decide) ?_
  refine g_putI (w' := (mset w y (.inr (4, [.ref q, .int 0])))) d_X4_lay_8 p_X4_15 rfl rfl hy (Nat.le_of_ble_eq_true rfl) (rfl) ?_
  refine g_iconst (v := 0) d_X4_lay_11 (by decide) ?_
  refine g_istore (L' := [some (.ref y), some (.ref r), some (.long s), none, some (.long over), none, some (.long s), none, some (.long s), none, some (.int 0)]) d_X4_lay_12 rfl rfl ?_
  refine g_drop [2] (L1 := [some (.ref y), some (.ref r), none, none, some (.long over), none, some (.long s), none, some (.long s), none, some (.int 0)]) rfl ?_
  refine g_eq (S' := (14, [some (.ref y), some (.ref r), none, none, some (.long over), none, some (.long s), none, some (.long s), none, some (.int (nI 0))], [], (mset (mset w y (.inr (4, [.ref q, .int (nI 0)]))) q (.inl (1, 64, .inr (.inl f)))))) (by rw [mset_self ((mget_ne hyq).trans hq)]; rfl) ?_
  exact l_lay hE y q r z f g w hy hq hg hyq hyr hqr over 64 0 _ _ _ (by omega)
def yAt (f : Nat → Int64) (z i : Int32) : Int64 := if z ≤ i then 0 else longAtF 64 f i
theorem d_X4_at_0 : decode (mB M_X4_at) 0 = .ok (.iload_n 1, 1) := by decide +kernel
theorem d_X4_at_1 : decode (mB M_X4_at) 1 = .ok (.aload_n 0, 1) := by decide +kernel
theorem d_X4_at_2 : decode (mB M_X4_at) 2 = .ok (.getfield 15, 3) := by decide +kernel
theorem d_X4_at_5 : decode (mB M_X4_at) 5 = .ok (.if_icmp .ge 14, 3) := by decide +kernel
theorem d_X4_at_8 : decode (mB M_X4_at) 8 = .ok (.aload_n 0, 1) := by decide +kernel
theorem d_X4_at_9 : decode (mB M_X4_at) 9 = .ok (.getfield 9, 3) := by decide +kernel
theorem d_X4_at_12 : decode (mB M_X4_at) 12 = .ok (.iload_n 1, 1) := by decide +kernel
theorem d_X4_at_13 : decode (mB M_X4_at) 13 = .ok (.invokestatic 31, 3) := by decide +kernel
theorem d_X4_at_16 : decode (mB M_X4_at) 16 = .ok (.goto 4, 3) := by decide +kernel
theorem d_X4_at_19 : decode (mB M_X4_at) 19 = .ok (.lconst 0, 1) := by decide +kernel
theorem d_X4_at_20 : decode (mB M_X4_at) 20 = .ok (.lreturn, 1) := by decide +kernel
theorem c_yat {E : mEnv} (hE : E.1.stackTraces = false) (y q : Nat) (z : Int32) (f : Nat → Int64) (w : mW) (hy : mget w y = some (ycell q z)) (hq : mget w q = some (lrow 64 f)) (i : Int32) : Rt E M_X4_at 0 [.ref y, .int i] w (some (.long (yAt f z i))) w := by
  refine Rt.of hE rfl pn_X4 (Nat.le_of_ble_eq_true rfl) ?_
  refine g_eq (S' := (0, [some (.ref y), some (.int i)], [], w)) rfl ?_
  refine g_iload_n d_X4_at_0 rfl ?_
  refine g_aload_n d_X4_at_1 rfl ?_
  refine g_getf d_X4_at_2 f_X4_15 hy rfl ?_
  refine g_icmp_ge (tgt := 19) d_X4_at_5 (by decide) (fun c_5 => ?_) (fun c_5 => ?_)
  · refine g_lconst (v := 0) d_X4_at_19 (by decide) ?_
    exact g_retL d_X4_at_20 rfl (by simp only [yAt, eq_true c_5, ↓reduceIte, Bool.false_eq_true]) (rfl)
  · refine g_aload_n d_X4_at_8 rfl ?_
    refine g_getf d_X4_at_9 f_X4_9 hy rfl ?_
    refine g_iload_n d_X4_at_12 rfl ?_
    refine g_callN (As := [.ref q, .int i]) d_X4_at_13 o_X11_longAt n_X4_31 ⟨Nat.le_of_ble_eq_true rfl, Nat.le_of_ble_eq_true rfl⟩ (c_longAt hE q 64 f i w (by decide) hq) rfl rfl ?_ (Nat.zero_add _)
    refine g_goto (tgt := 20) d_X4_at_16 (by decide) ?_
    exact g_retL d_X4_at_20 rfl (by simp only [yAt, eq_false c_5, ↓reduceIte, Bool.false_eq_true]) (rfl)
def yFi (f : Nat → Int64) (z c : Int32) : Nat → Nat → Int32
  | 0, _ => -1
  | n + 1, k => if hasF (yAt f z (nI k)) c = true then nI k else yFi f z c n (k + 1)
theorem d_X4_find_0 : decode (mB M_X4_find) 0 = .ok (.iconst 0, 1) := by decide +kernel
theorem d_X4_find_1 : decode (mB M_X4_find) 1 = .ok (.istore_n 2, 1) := by decide +kernel
theorem d_X4_find_2 : decode (mB M_X4_find) 2 = .ok (.iload_n 2, 1) := by decide +kernel
theorem d_X4_find_3 : decode (mB M_X4_find) 3 = .ok (.aload_n 0, 1) := by decide +kernel
theorem d_X4_find_4 : decode (mB M_X4_find) 4 = .ok (.getfield 15, 3) := by decide +kernel
theorem d_X4_find_7 : decode (mB M_X4_find) 7 = .ok (.if_icmp .ge 23, 3) := by decide +kernel
theorem d_X4_find_10 : decode (mB M_X4_find) 10 = .ok (.aload_n 0, 1) := by decide +kernel
theorem d_X4_find_11 : decode (mB M_X4_find) 11 = .ok (.iload_n 2, 1) := by decide +kernel
theorem d_X4_find_12 : decode (mB M_X4_find) 12 = .ok (.invokevirtual 35, 3) := by decide +kernel
theorem d_X4_find_15 : decode (mB M_X4_find) 15 = .ok (.iload_n 1, 1) := by decide +kernel
theorem d_X4_find_16 : decode (mB M_X4_find) 16 = .ok (.invokestatic 39, 3) := by decide +kernel
theorem d_X4_find_19 : decode (mB M_X4_find) 19 = .ok (.ifCond .eq 5, 3) := by decide +kernel
theorem d_X4_find_22 : decode (mB M_X4_find) 22 = .ok (.iload_n 2, 1) := by decide +kernel
theorem d_X4_find_23 : decode (mB M_X4_find) 23 = .ok (.ireturn, 1) := by decide +kernel
theorem d_X4_find_24 : decode (mB M_X4_find) 24 = .ok (.iinc 2 1, 3) := by decide +kernel
theorem d_X4_find_27 : decode (mB M_X4_find) 27 = .ok (.goto (-25), 3) := by decide +kernel
theorem d_X4_find_30 : decode (mB M_X4_find) 30 = .ok (.iconst (-1), 1) := by decide +kernel
theorem d_X4_find_31 : decode (mB M_X4_find) 31 = .ok (.ireturn, 1) := by decide +kernel
theorem l_find {E : mEnv} (hE : E.1.stackTraces = false) (y q : Nat) (s : Nat) (f : Nat → Int64) (w : mW) (hy : mget w y = some (ycell q (nI s))) (hq : mget w q = some (lrow 64 f)) (hs : s < 2 ^ 31) (c : Int32) : ∀ (n : Nat) (k : Nat), k + n = s → Go E M_X4_find 0 (2, [some (.ref y), some (.int c), some (.int (nI k))], [], w) (.inr (.inl (some (.int (yFi f (nI s) c n k)), w))) := by
  intro n
  induction n with
  | zero =>
    intro k hk
    obtain rfl : k = s := by omega
    refine g_iload_n d_X4_find_2 rfl ?_
    refine g_aload_n d_X4_find_3 rfl ?_
    refine g_getf d_X4_find_4 f_X4_15 hy rfl ?_
    refine g_icmp_ge (tgt := 30) d_X4_find_7 (by decide) (fun c_7 => ?_) (fun c_7 => absurd c_7 (absurd (nI_le (Nat.le_refl k) hs) c_7))
    refine g_iconst (v := (-1)) d_X4_find_30 (by decide) ?_
    exact g_retI d_X4_find_31 rfl (rfl) (rfl)
  | succ n ih =>
    intro k hk
    refine g_iload_n d_X4_find_2 rfl ?_
    refine g_aload_n d_X4_find_3 rfl ?_
    refine g_getf d_X4_find_4 f_X4_15 hy rfl ?_
    refine g_icmp_ge (tgt := 30) d_X4_find_7 (by decide) (fun c_7 => absurd c_7 (nI_ge (a := k) (b := s) (by omega) hs)) (fun c_7 => ?_)
    refine g_aload_n d_X4_find_10 rfl ?_
    refine g_iload_n d_X4_find_11 rfl ?_
    refine g_callV (As := [.int (nI k)]) d_X4_find_12 o_X4_at l_X4_35 ⟨Nat.le_of_ble_eq_true rfl, Nat.le_of_ble_eq_true rfl⟩ (c_yat hE y q _ f w hy hq (nI k)) hy rfl rfl rfl rfl rfl ?_ (Nat.zero_add _)
    refine g_iload_n d_X4_find_15 rfl ?_
    refine g_callN (As := [.long (yAt f (nI s) (nI k)), .int c]) d_X4_find_16 o_X11_has n_X4_39 ⟨Nat.le_of_ble_eq_true rfl, Nat.le_of_ble_eq_true rfl⟩ (c_has hE (yAt f (nI s) (nI k)) c w) rfl rfl ?_ (Nat.zero_add _)
    refine g_ifb_eq (tgt := 24) d_X4_find_19 (by decide) (fun c_19 => ?_) (fun c_19 => ?_)
    · refine g_iinc (v := ((nI k) + 1)) (L' := [some (.ref y), some (.int c), some (.int ((nI k) + 1))]) d_X4_find_24 rfl rfl rfl ?_
      refine g_goto (tgt := 2) d_X4_find_27 (by decide) ?_
      refine g_eq (S' := (2, [some (.ref y), some (.int c), some (.int (nI (k + 1)))], [], w)) (by first | rfl | (rw [nI_1]; rfl) | (simp only [nI_1]; rfl) | simp only [nI_1]) ?_
      rw [show yFi f (nI s) c (n + 1) k = yFi f (nI s) c n (k + 1) by simp [yFi, *]]
      exact ih (k + 1) (by omega)
    · refine g_iload_n d_X4_find_22 rfl ?_
      exact g_retI d_X4_find_23 rfl (by simp only [yFi, *, ↓reduceIte]) (rfl)
theorem c_find {E : mEnv} (hE : E.1.stackTraces = false) (y q : Nat) (s : Nat) (f : Nat → Int64) (w : mW) (hy : mget w y = some (ycell q (nI s))) (hq : mget w q = some (lrow 64 f)) (hs : s < 2 ^ 31) (c : Int32) : Rt E M_X4_find 0 [.ref y, .int c] w (some (.int (yFi f (nI s) c s 0))) w := by
  refine Rt.of hE rfl pn_X4 (Nat.le_of_ble_eq_true rfl) ?_
  refine g_eq (S' := (0, [some (.ref y), some (.int c), none], [], w)) rfl ?_
  refine g_iconst (v := 0) d_X4_find_0 (by decide) ?_
  refine g_istore_n (L' := [some (.ref y), some (.int c), some (.int 0)]) d_X4_find_1 rfl rfl ?_
  refine g_eq (S' := (2, [some (.ref y), some (.int c), some (.int (nI 0))], [], w)) (rfl) ?_
  exact l_find hE y q s f w hy hq hs c s 0 (by omega)
