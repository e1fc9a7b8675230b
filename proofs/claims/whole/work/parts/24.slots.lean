/-! Search: the slots -/
def slL (q : SeT) (b : Int64) (p first : Int32) : Nat → Nat → Int32
  | 0, _ => -1
  | n + 1, k => if intAtF 2048 (sT q) ((first + nI k) &&& 2047) - 1 < 0 then (first + nI k) &&& 2047 else if longAtF 1000 (sB q) (intAtF 2048 (sT q) ((first + nI k) &&& 2047) - 1) = b then (if intAtF 1000 (sP q) (intAtF 2048 (sT q) ((first + nI k) &&& 2047) - 1) = p then (first + nI k) &&& 2047 else slL q b p first n (k + 1)) else slL q b p first n (k + 1)
def slF (q : SeT) (b : Int64) (p : Int32) : Int32 := slL q b p ((jushr (b * (-7046029254386353131)) 53).toInt32 + p) 2048 0
theorem d_X8_slotFor_0 : decode (mB M_X8_slotFor) 0 = .ok (.lload_n 1, 1) := by decide +kernel
theorem d_X8_slotFor_1 : decode (mB M_X8_slotFor) 1 = .ok (.ldc2_w 127, 3) := by decide +kernel
theorem d_X8_slotFor_4 : decode (mB M_X8_slotFor) 4 = .ok (.lmul, 1) := by decide +kernel
theorem d_X8_slotFor_5 : decode (mB M_X8_slotFor) 5 = .ok (.bipush 53, 2) := by decide +kernel
theorem d_X8_slotFor_7 : decode (mB M_X8_slotFor) 7 = .ok (.lushr, 1) := by decide +kernel
theorem d_X8_slotFor_8 : decode (mB M_X8_slotFor) 8 = .ok (.l2i, 1) := by decide +kernel
theorem d_X8_slotFor_9 : decode (mB M_X8_slotFor) 9 = .ok (.iload_n 3, 1) := by decide +kernel
theorem d_X8_slotFor_10 : decode (mB M_X8_slotFor) 10 = .ok (.iadd, 1) := by decide +kernel
theorem d_X8_slotFor_11 : decode (mB M_X8_slotFor) 11 = .ok (.istore 4, 2) := by decide +kernel
theorem d_X8_slotFor_13 : decode (mB M_X8_slotFor) 13 = .ok (.iconst 0, 1) := by decide +kernel
theorem d_X8_slotFor_14 : decode (mB M_X8_slotFor) 14 = .ok (.istore 5, 2) := by decide +kernel
theorem d_X8_slotFor_16 : decode (mB M_X8_slotFor) 16 = .ok (.iload 5, 2) := by decide +kernel
theorem d_X8_slotFor_18 : decode (mB M_X8_slotFor) 18 = .ok (.sipush 2048, 3) := by decide +kernel
theorem d_X8_slotFor_21 : decode (mB M_X8_slotFor) 21 = .ok (.if_icmp .ge 68, 3) := by decide +kernel
theorem d_X8_slotFor_24 : decode (mB M_X8_slotFor) 24 = .ok (.iload 4, 2) := by decide +kernel
theorem d_X8_slotFor_26 : decode (mB M_X8_slotFor) 26 = .ok (.iload 5, 2) := by decide +kernel
theorem d_X8_slotFor_28 : decode (mB M_X8_slotFor) 28 = .ok (.iadd, 1) := by decide +kernel
theorem d_X8_slotFor_29 : decode (mB M_X8_slotFor) 29 = .ok (.sipush 2047, 3) := by decide +kernel
theorem d_X8_slotFor_32 : decode (mB M_X8_slotFor) 32 = .ok (.iand, 1) := by decide +kernel
theorem d_X8_slotFor_33 : decode (mB M_X8_slotFor) 33 = .ok (.istore 6, 2) := by decide +kernel
theorem d_X8_slotFor_35 : decode (mB M_X8_slotFor) 35 = .ok (.aload_n 0, 1) := by decide +kernel
theorem d_X8_slotFor_36 : decode (mB M_X8_slotFor) 36 = .ok (.getfield 29, 3) := by decide +kernel
theorem d_X8_slotFor_39 : decode (mB M_X8_slotFor) 39 = .ok (.iload 6, 2) := by decide +kernel
theorem d_X8_slotFor_41 : decode (mB M_X8_slotFor) 41 = .ok (.invokestatic 85, 3) := by decide +kernel
theorem d_X8_slotFor_44 : decode (mB M_X8_slotFor) 44 = .ok (.iconst 1, 1) := by decide +kernel
theorem d_X8_slotFor_45 : decode (mB M_X8_slotFor) 45 = .ok (.isub, 1) := by decide +kernel
theorem d_X8_slotFor_46 : decode (mB M_X8_slotFor) 46 = .ok (.istore 7, 2) := by decide +kernel
theorem d_X8_slotFor_48 : decode (mB M_X8_slotFor) 48 = .ok (.iload 7, 2) := by decide +kernel
theorem d_X8_slotFor_50 : decode (mB M_X8_slotFor) 50 = .ok (.ifCond .lt 30, 3) := by decide +kernel
theorem d_X8_slotFor_53 : decode (mB M_X8_slotFor) 53 = .ok (.aload_n 0, 1) := by decide +kernel
theorem d_X8_slotFor_54 : decode (mB M_X8_slotFor) 54 = .ok (.getfield 15, 3) := by decide +kernel
theorem d_X8_slotFor_57 : decode (mB M_X8_slotFor) 57 = .ok (.iload 7, 2) := by decide +kernel
theorem d_X8_slotFor_59 : decode (mB M_X8_slotFor) 59 = .ok (.invokestatic 74, 3) := by decide +kernel
theorem d_X8_slotFor_62 : decode (mB M_X8_slotFor) 62 = .ok (.lload_n 1, 1) := by decide +kernel
theorem d_X8_slotFor_63 : decode (mB M_X8_slotFor) 63 = .ok (.lcmp, 1) := by decide +kernel
theorem d_X8_slotFor_64 : decode (mB M_X8_slotFor) 64 = .ok (.ifCond .ne 19, 3) := by decide +kernel
theorem d_X8_slotFor_67 : decode (mB M_X8_slotFor) 67 = .ok (.aload_n 0, 1) := by decide +kernel
theorem d_X8_slotFor_68 : decode (mB M_X8_slotFor) 68 = .ok (.getfield 19, 3) := by decide +kernel
theorem d_X8_slotFor_71 : decode (mB M_X8_slotFor) 71 = .ok (.iload 7, 2) := by decide +kernel
theorem d_X8_slotFor_73 : decode (mB M_X8_slotFor) 73 = .ok (.invokestatic 85, 3) := by decide +kernel
theorem d_X8_slotFor_76 : decode (mB M_X8_slotFor) 76 = .ok (.iload_n 3, 1) := by decide +kernel
theorem d_X8_slotFor_77 : decode (mB M_X8_slotFor) 77 = .ok (.if_icmp .ne 6, 3) := by decide +kernel
theorem d_X8_slotFor_80 : decode (mB M_X8_slotFor) 80 = .ok (.iload 6, 2) := by decide +kernel
theorem d_X8_slotFor_82 : decode (mB M_X8_slotFor) 82 = .ok (.ireturn, 1) := by decide +kernel
theorem d_X8_slotFor_83 : decode (mB M_X8_slotFor) 83 = .ok (.iinc 5 1, 3) := by decide +kernel
theorem d_X8_slotFor_86 : decode (mB M_X8_slotFor) 86 = .ok (.goto (-70), 3) := by decide +kernel
theorem d_X8_slotFor_89 : decode (mB M_X8_slotFor) 89 = .ok (.iconst (-1), 1) := by decide +kernel
theorem d_X8_slotFor_90 : decode (mB M_X8_slotFor) 90 = .ok (.ireturn, 1) := by decide +kernel
theorem l_slot {E : mEnv} (hE : E.1.stackTraces = false) (m : List mE) (t : cT) (b : Int64) (p f : Int32) : ∀ (n : Nat) (k : Nat), k + n = 2048 → Go E M_X8_slotFor 0 (16, [some (.ref 130), some (.long b), none, some (.int p), some (.int f), some (.int (nI k)), none, none], [], (m, cw t)) (.inr (.inl (some (.int (slL (tE t) b p f n k)), (m, cw t)))) := by
  intro n
  induction n with
  | zero =>
    intro k hk
    obtain rfl : k = 2048 := by omega
    refine g_iload d_X8_slotFor_16 rfl ?_
    refine g_sipush (v := 2048) d_X8_slotFor_18 (by decide) ?_
    refine g_icmp_ge (tgt := 89) d_X8_slotFor_21 (by decide) (fun c_21 => ?_) (fun c_21 => absurd c_21 (absurd (nI_le (Nat.le_refl 2048) (by decide)) c_21))
    refine g_iconst (v := (-1)) d_X8_slotFor_89 (by decide) ?_
    exact g_retI d_X8_slotFor_90 rfl (rfl) (rfl)
  | succ n ih =>
    intro k hk
    refine g_iload d_X8_slotFor_16 rfl ?_
    refine g_sipush (v := 2048) d_X8_slotFor_18 (by decide) ?_
    refine g_icmp_ge (tgt := 89) d_X8_slotFor_21 (by decide) (fun c_21 => absurd c_21 (nI_ge (a := k) (b := 2048) (by omega) (by decide))) (fun c_21 => ?_)
    refine g_iload d_X8_slotFor_24 rfl ?_
    refine g_iload d_X8_slotFor_26 rfl ?_
    refine g_iadd d_X8_slotFor_28 ?_
    refine g_sipush (v := 2047) d_X8_slotFor_29 (by decide) ?_
    refine g_iand d_X8_slotFor_32 ?_
    refine g_istore (L' := [some (.ref 130), some (.long b), none, some (.int p), some (.int f), some (.int (nI k)), some (.int ((f + (nI k)) &&& 2047)), none]) d_X8_slotFor_33 rfl rfl ?_
    refine g_aload_n d_X8_slotFor_35 rfl ?_
    refine g_getf d_X8_slotFor_36 f_X8_29 rfl rfl ?_
    refine g_iload d_X8_slotFor_39 rfl ?_
    refine g_callN (As := [.ref 135, .int ((f + (nI k)) &&& 2047)]) d_X8_slotFor_41 o_X11_intAt n_X8_85 ⟨Nat.le_of_ble_eq_true rfl, Nat.le_of_ble_eq_true rfl⟩ (c_intAt hE 135 2048 (sT (tE t)) ((f + (nI k)) &&& 2047) _ (by decide) rfl) rfl rfl ?_ (Nat.zero_add _)
    refine g_iconst (v := 1) d_X8_slotFor_44 (by decide) ?_
    refine g_isub d_X8_slotFor_45 ?_
    refine g_istore (L' := [some (.ref 130), some (.long b), none, some (.int p), some (.int f), some (.int (nI k)), some (.int ((f + (nI k)) &&& 2047)), some (.int ((intAtF 2048 (sT (tE t)) ((f + (nI k)) &&& 2047)) - 1))]) d_X8_slotFor_46 rfl rfl ?_
    refine g_iload d_X8_slotFor_48 rfl ?_
    refine g_if_lt (tgt := 80) d_X8_slotFor_50 (by decide) (fun c_50 => ?_) (fun c_50 => ?_)
    · refine g_iload d_X8_slotFor_80 rfl ?_
      exact g_retI d_X8_slotFor_82 rfl (by simp only [slL, eq_true c_50, ↓reduceIte, Bool.false_eq_true]) (rfl)
    · refine g_aload_n d_X8_slotFor_53 rfl ?_
      refine g_getf d_X8_slotFor_54 f_X8_15 rfl rfl ?_
      refine g_iload d_X8_slotFor_57 rfl ?_
      refine g_callN (As := [.ref 131, .int ((intAtF 2048 (sT (tE t)) ((f + (nI k)) &&& 2047)) - 1)]) d_X8_slotFor_59 o_X11_longAt n_X8_74 ⟨Nat.le_of_ble_eq_true rfl, Nat.le_of_ble_eq_true rfl⟩ (c_longAt hE 131 1000 (sB (tE t)) ((intAtF 2048 (sT (tE t)) ((f + (nI k)) &&& 2047)) - 1) _ (by decide) rfl) rfl rfl ?_ (Nat.zero_add _)
      refine g_lload_n d_X8_slotFor_62 rfl ?_
      refine g_lcmp_ne (tgt := 83) d_X8_slotFor_63 d_X8_slotFor_64 (by decide) (fun c_63 => ?_) (fun c_63 => ?_)
      · refine g_iinc (v := ((nI k) + 1)) (L' := [some (.ref 130), some (.long b), none, some (.int p), some (.int f), some (.int ((nI k) + 1)), some (.int ((f + (nI k)) &&& 2047)), some (.int ((intAtF 2048 (sT (tE t)) ((f + (nI k)) &&& 2047)) - 1))]) d_X8_slotFor_83 rfl rfl rfl ?_
        refine g_goto (tgt := 16) d_X8_slotFor_86 (by decide) ?_
        refine g_drop [6, 7] (L1 := [some (.ref 130), some (.long b), none, some (.int p), some (.int f), some (.int ((nI k) + 1)), none, none]) rfl ?_
        refine g_eq (S' := (16, [some (.ref 130), some (.long b), none, some (.int p), some (.int f), some (.int (nI (k + 1))), none, none], [], (m, cw t))) (by first | rfl | (rw [nI_1]; rfl) | (simp only [nI_1]; rfl) | simp only [nI_1]) ?_
        rw [show slL (tE t) b p f (n + 1) k = slL (tE t) b p f n (k + 1) by simp only [slL, eq_false c_50, eq_false c_63, ↓reduceIte]]
        exact ih (k + 1) (by omega)
      · refine g_aload_n d_X8_slotFor_67 rfl ?_
        refine g_getf d_X8_slotFor_68 f_X8_19 rfl rfl ?_
        refine g_iload d_X8_slotFor_71 rfl ?_
        refine g_callN (As := [.ref 132, .int ((intAtF 2048 (sT (tE t)) ((f + (nI k)) &&& 2047)) - 1)]) d_X8_slotFor_73 o_X11_intAt n_X8_85 ⟨Nat.le_of_ble_eq_true rfl, Nat.le_of_ble_eq_true rfl⟩ (c_intAt hE 132 1000 (sP (tE t)) ((intAtF 2048 (sT (tE t)) ((f + (nI k)) &&& 2047)) - 1) _ (by decide) rfl) rfl rfl ?_ (Nat.zero_add _)
        refine g_iload_n d_X8_slotFor_76 rfl ?_
        refine g_icmp_ne (tgt := 83) d_X8_slotFor_77 (by decide) (fun c_77 => ?_) (fun c_77 => ?_)
        · refine g_iinc (v := ((nI k) + 1)) (L' := [some (.ref 130), some (.long b), none, some (.int p), some (.int f), some (.int ((nI k) + 1)), some (.int ((f + (nI k)) &&& 2047)), some (.int ((intAtF 2048 (sT (tE t)) ((f + (nI k)) &&& 2047)) - 1))]) d_X8_slotFor_83 rfl rfl rfl ?_
          refine g_goto (tgt := 16) d_X8_slotFor_86 (by decide) ?_
          refine g_drop [6, 7] (L1 := [some (.ref 130), some (.long b), none, some (.int p), some (.int f), some (.int ((nI k) + 1)), none, none]) rfl ?_
          refine g_eq (S' := (16, [some (.ref 130), some (.long b), none, some (.int p), some (.int f), some (.int (nI (k + 1))), none, none], [], (m, cw t))) (by first | rfl | (rw [nI_1]; rfl) | (simp only [nI_1]; rfl) | simp only [nI_1]) ?_
          rw [show slL (tE t) b p f (n + 1) k = slL (tE t) b p f n (k + 1) by simp only [slL, eq_false c_50, eq_true c_63, eq_false c_77, ↓reduceIte]]
          exact ih (k + 1) (by omega)
        · refine g_iload d_X8_slotFor_80 rfl ?_
          exact g_retI d_X8_slotFor_82 rfl (by simp only [slL, eq_false c_50, eq_true c_63, eq_true c_77, ↓reduceIte, Bool.false_eq_true]) (rfl)
theorem c_slotFor {E : mEnv} (hE : E.1.stackTraces = false) (m : List mE) (t : cT) (b : Int64) (p : Int32) : Rt E M_X8_slotFor 0 [.ref 130, .long b, .int p] ((m, cw t)) (some (.int (slF (tE t) b p))) ((m, cw t)) := by
  refine Rt.of hE rfl pn_X8 (Nat.le_of_ble_eq_true rfl) ?_
  refine g_eq (S' := (0, [some (.ref 130), some (.long b), none, some (.int p), none, none, none, none], [], (m, cw t))) rfl ?_
  refine g_lload_n d_X8_slotFor_0 rfl ?_
  refine g_ldc2 (v := (-7046029254386353131)) d_X8_slotFor_1 k_X8_127 ?_
  refine g_lmul d_X8_slotFor_4 ?_
  refine g_bipush (v := 53) d_X8_slotFor_5 (by decide) ?_
  refine g_lushr (v := (jushr (b * (-7046029254386353131)) 53)) d_X8_slotFor_7 rfl ?_
  refine g_l2i d_X8_slotFor_8 ?_
  refine g_iload_n d_X8_slotFor_9 rfl ?_
  refine g_iadd d_X8_slotFor_10 ?_
  refine g_istore (L' := [some (.ref 130), some (.long b), none, some (.int p), some (.int ((jushr (b * (-7046029254386353131)) 53).toInt32 + p)), none, none, none]) d_X8_slotFor_11 rfl rfl ?_
  refine g_iconst (v := 0) d_X8_slotFor_13 (by decide) ?_
  refine g_istore (L' := [some (.ref 130), some (.long b), none, some (.int p), some (.int ((jushr (b * (-7046029254386353131)) 53).toInt32 + p)), some (.int 0), none, none]) d_X8_slotFor_14 rfl rfl ?_
  refine g_eq (S' := (16, [some (.ref 130), some (.long b), none, some (.int p), some (.int ((jushr (b * (-7046029254386353131)) 53).toInt32 + p)), some (.int (nI 0)), none, none], [], (m, cw t))) (rfl) ?_
  exact l_slot hE m t b p _ 2048 0 (by omega)
def ad1 (q : SeT) (b : Int64) : SeT := (setLongF 1000 (sB q) (sN q) b, sP q, sF q, sU q, sT q, sM q, sW q, sN q, sV q, sY q)
def ad2 (q : SeT) (p : Int32) : SeT := (sB q, setIntF 1000 (sP q) (sN q) p, sF q, sU q, sT q, sM q, sW q, sN q, sV q, sY q)
def ad3 (q : SeT) (p : Int32) : SeT := (sB q, sP q, setIntF 1000 (sF q) (sN q) p, sU q, sT q, sM q, sW q, sN q, sV q, sY q)
def ad4 (q : SeT) (p : Int32) : SeT := (sB q, sP q, sF q, setIntF 1000 (sU q) (sN q) p, sT q, sM q, sW q, sN q, sV q, sY q)
def ad5 (q : SeT) : SeT := (sB q, sP q, sF q, sU q, sT q, sM q, sW q, sN q + 1, sV q, sY q)
def ad6 (q : SeT) (i : Int32) : SeT := (sB q, sP q, sF q, sU q, setIntF 2048 (sT q) i (sN q), sM q, sW q, sN q, sV q, sY q)
def adY (q : SeT) : SeT := (sB q, sP q, sF q, sU q, sT q, sM q, sW q, sN q, sV q, true)
def adS (q : SeT) (b : Int64) (p par pu : Int32) : SeT := if intAtF 2048 (sT q) (slF q b p) = 0 then (if sN q < sM q then ad6 (ad5 (ad4 (ad3 (ad2 (ad1 q b) p) par) pu)) (slF q b p) else adY q) else q
theorem tE_wE (t : cT) (x : SeT) : tE (wE t x) = x := rfl
theorem tG_wE (t : cT) (x : SeT) : tG (wE t x) = tG t := rfl
theorem wE_wE (t : cT) (x y : SeT) : wE (wE t x) y = wE t y := rfl
theorem d_X8_add_38 : decode (mB M_X8_add) 38 = .ok (.aload_n 0, 1) := by decide +kernel
theorem d_X8_add_39 : decode (mB M_X8_add) 39 = .ok (.getfield 15, 3) := by decide +kernel
theorem d_X8_add_42 : decode (mB M_X8_add) 42 = .ok (.aload_n 0, 1) := by decide +kernel
theorem d_X8_add_43 : decode (mB M_X8_add) 43 = .ok (.getfield 40, 3) := by decide +kernel
theorem d_X8_add_46 : decode (mB M_X8_add) 46 = .ok (.lload_n 1, 1) := by decide +kernel
theorem d_X8_add_47 : decode (mB M_X8_add) 47 = .ok (.invokestatic 123, 3) := by decide +kernel
theorem ad_1 {E : mEnv} (hE : E.1.stackTraces = false) (m : List mE) (t : cT) (b : Int64) (p par pu i : Int32) : Go E M_X8_add 0 (38, [some (.ref 130), some (.long b), none, some (.int p), some (.int par), some (.int pu), some (.int i)], [], (m, cw t)) (.inl (50, [some (.ref 130), some (.long b), none, some (.int p), some (.int par), some (.int pu), some (.int i)], [], (m, cw (wE t (ad1 (tE t) b))))) := by
  refine g_aload_n d_X8_add_38 rfl ?_
  refine g_getf d_X8_add_39 f_X8_15 rfl rfl ?_
  refine g_aload_n d_X8_add_42 rfl ?_
  refine g_getf d_X8_add_43 f_X8_40 rfl rfl ?_
  refine g_lload_n d_X8_add_46 rfl ?_
  refine g_callN (As := [.ref 131, .int (sN (tE t)), .long b]) d_X8_add_47 o_X11_setLong n_X8_123 ⟨Nat.le_of_ble_eq_true rfl, Nat.le_of_ble_eq_true rfl⟩ (c_setLong hE 131 1000 (sB (tE t)) (sN (tE t)) b _ (by decide) rfl) rfl rfl ?_ (Nat.zero_add _)
  exact g_end (by first | rfl | (simp only [↓reduceIte, Bool.false_eq_true, bI_t, bI_f]; done) | (simp only [↓reduceIte, Bool.false_eq_true, bI_t, bI_f]; rfl))
theorem d_X8_add_50 : decode (mB M_X8_add) 50 = .ok (.aload_n 0, 1) := by decide +kernel
theorem d_X8_add_51 : decode (mB M_X8_add) 51 = .ok (.getfield 19, 3) := by decide +kernel
theorem d_X8_add_54 : decode (mB M_X8_add) 54 = .ok (.aload_n 0, 1) := by decide +kernel
theorem d_X8_add_55 : decode (mB M_X8_add) 55 = .ok (.getfield 40, 3) := by decide +kernel
theorem d_X8_add_58 : decode (mB M_X8_add) 58 = .ok (.iload_n 3, 1) := by decide +kernel
theorem d_X8_add_59 : decode (mB M_X8_add) 59 = .ok (.invokestatic 49, 3) := by decide +kernel
theorem ad_2 {E : mEnv} (hE : E.1.stackTraces = false) (m : List mE) (t : cT) (b : Int64) (p par pu i : Int32) : Go E M_X8_add 0 (50, [some (.ref 130), some (.long b), none, some (.int p), some (.int par), some (.int pu), some (.int i)], [], (m, cw t)) (.inl (62, [some (.ref 130), some (.long b), none, some (.int p), some (.int par), some (.int pu), some (.int i)], [], (m, cw (wE t (ad2 (tE t) p))))) := by
  refine g_aload_n d_X8_add_50 rfl ?_
  refine g_getf d_X8_add_51 f_X8_19 rfl rfl ?_
  refine g_aload_n d_X8_add_54 rfl ?_
  refine g_getf d_X8_add_55 f_X8_40 rfl rfl ?_
  refine g_iload_n d_X8_add_58 rfl ?_
  refine g_callN (As := [.ref 132, .int (sN (tE t)), .int p]) d_X8_add_59 o_X11_setInt n_X8_49 ⟨Nat.le_of_ble_eq_true rfl, Nat.le_of_ble_eq_true rfl⟩ (c_setInt hE 132 1000 (sP (tE t)) (sN (tE t)) p _ (by decide) rfl) rfl rfl ?_ (Nat.zero_add _)
  exact g_end (by first | rfl | (simp only [↓reduceIte, Bool.false_eq_true, bI_t, bI_f]; done) | (simp only [↓reduceIte, Bool.false_eq_true, bI_t, bI_f]; rfl))
theorem d_X8_add_62 : decode (mB M_X8_add) 62 = .ok (.aload_n 0, 1) := by decide +kernel
theorem d_X8_add_63 : decode (mB M_X8_add) 63 = .ok (.getfield 23, 3) := by decide +kernel
theorem d_X8_add_66 : decode (mB M_X8_add) 66 = .ok (.aload_n 0, 1) := by decide +kernel
theorem d_X8_add_67 : decode (mB M_X8_add) 67 = .ok (.getfield 40, 3) := by decide +kernel
theorem d_X8_add_70 : decode (mB M_X8_add) 70 = .ok (.iload 4, 2) := by decide +kernel
theorem d_X8_add_72 : decode (mB M_X8_add) 72 = .ok (.invokestatic 49, 3) := by decide +kernel
theorem ad_3 {E : mEnv} (hE : E.1.stackTraces = false) (m : List mE) (t : cT) (b : Int64) (p par pu i : Int32) : Go E M_X8_add 0 (62, [some (.ref 130), some (.long b), none, some (.int p), some (.int par), some (.int pu), some (.int i)], [], (m, cw t)) (.inl (75, [some (.ref 130), some (.long b), none, some (.int p), some (.int par), some (.int pu), some (.int i)], [], (m, cw (wE t (ad3 (tE t) par))))) := by
  refine g_aload_n d_X8_add_62 rfl ?_
  refine g_getf d_X8_add_63 f_X8_23 rfl rfl ?_
  refine g_aload_n d_X8_add_66 rfl ?_
  refine g_getf d_X8_add_67 f_X8_40 rfl rfl ?_
  refine g_iload d_X8_add_70 rfl ?_
  refine g_callN (As := [.ref 133, .int (sN (tE t)), .int par]) d_X8_add_72 o_X11_setInt n_X8_49 ⟨Nat.le_of_ble_eq_true rfl, Nat.le_of_ble_eq_true rfl⟩ (c_setInt hE 133 1000 (sF (tE t)) (sN (tE t)) par _ (by decide) rfl) rfl rfl ?_ (Nat.zero_add _)
  exact g_end (by first | rfl | (simp only [↓reduceIte, Bool.false_eq_true, bI_t, bI_f]; done) | (simp only [↓reduceIte, Bool.false_eq_true, bI_t, bI_f]; rfl))
theorem d_X8_add_75 : decode (mB M_X8_add) 75 = .ok (.aload_n 0, 1) := by decide +kernel
theorem d_X8_add_76 : decode (mB M_X8_add) 76 = .ok (.getfield 26, 3) := by decide +kernel
theorem d_X8_add_79 : decode (mB M_X8_add) 79 = .ok (.aload_n 0, 1) := by decide +kernel
theorem d_X8_add_80 : decode (mB M_X8_add) 80 = .ok (.getfield 40, 3) := by decide +kernel
theorem d_X8_add_83 : decode (mB M_X8_add) 83 = .ok (.iload 5, 2) := by decide +kernel
theorem d_X8_add_85 : decode (mB M_X8_add) 85 = .ok (.invokestatic 49, 3) := by decide +kernel
theorem ad_4 {E : mEnv} (hE : E.1.stackTraces = false) (m : List mE) (t : cT) (b : Int64) (p par pu i : Int32) : Go E M_X8_add 0 (75, [some (.ref 130), some (.long b), none, some (.int p), some (.int par), some (.int pu), some (.int i)], [], (m, cw t)) (.inl (88, [some (.ref 130), some (.long b), none, some (.int p), some (.int par), some (.int pu), some (.int i)], [], (m, cw (wE t (ad4 (tE t) pu))))) := by
  refine g_aload_n d_X8_add_75 rfl ?_
  refine g_getf d_X8_add_76 f_X8_26 rfl rfl ?_
  refine g_aload_n d_X8_add_79 rfl ?_
  refine g_getf d_X8_add_80 f_X8_40 rfl rfl ?_
  refine g_iload d_X8_add_83 rfl ?_
  refine g_callN (As := [.ref 134, .int (sN (tE t)), .int pu]) d_X8_add_85 o_X11_setInt n_X8_49 ⟨Nat.le_of_ble_eq_true rfl, Nat.le_of_ble_eq_true rfl⟩ (c_setInt hE 134 1000 (sU (tE t)) (sN (tE t)) pu _ (by decide) rfl) rfl rfl ?_ (Nat.zero_add _)
  exact g_end (by first | rfl | (simp only [↓reduceIte, Bool.false_eq_true, bI_t, bI_f]; done) | (simp only [↓reduceIte, Bool.false_eq_true, bI_t, bI_f]; rfl))
theorem d_X8_add_88 : decode (mB M_X8_add) 88 = .ok (.aload_n 0, 1) := by decide +kernel
theorem d_X8_add_89 : decode (mB M_X8_add) 89 = .ok (.dup, 1) := by decide +kernel
theorem d_X8_add_90 : decode (mB M_X8_add) 90 = .ok (.getfield 40, 3) := by decide +kernel
theorem d_X8_add_93 : decode (mB M_X8_add) 93 = .ok (.iconst 1, 1) := by decide +kernel
theorem d_X8_add_94 : decode (mB M_X8_add) 94 = .ok (.iadd, 1) := by decide +kernel
theorem d_X8_add_95 : decode (mB M_X8_add) 95 = .ok (.putfield 40, 3) := by decide +kernel
theorem ad_5 {E : mEnv} (hE : E.1.stackTraces = false) (m : List mE) (t : cT) (b : Int64) (p par pu i : Int32) : Go E M_X8_add 0 (88, [some (.ref 130), some (.long b), none, some (.int p), some (.int par), some (.int pu), some (.int i)], [], (m, cw t)) (.inl (98, [some (.ref 130), some (.long b), none, some (.int p), some (.int par), some (.int pu), some (.int i)], [], (m, cw (wE t (ad5 (tE t)))))) := by
  refine g_aload_n d_X8_add_88 rfl ?_
  refine g_dup d_X8_add_89 rfl ?_
  refine g_getf d_X8_add_90 f_X8_40 rfl rfl ?_
  refine g_iconst (v := 1) d_X8_add_93 (by decide) ?_
  refine g_iadd d_X8_add_94 ?_
  refine g_putI (w' := (mset (m, cw t) 130 (.inr (8, [.ref 105, .ref 131, .ref 132, .ref 133, .ref 134, .ref 135, .int (sM (tE t)), .int (bI (sW (tE t))), .int ((sN (tE t)) + 1), .int (sV (tE t)), .int (bI (sY (tE t)))])))) d_X8_add_95 p_X8_40 rfl rfl rfl (Nat.le_of_ble_eq_true rfl) (rfl) ?_
  exact g_end (by first | rfl | (simp only [↓reduceIte, Bool.false_eq_true, bI_t, bI_f]; done) | (simp only [↓reduceIte, Bool.false_eq_true, bI_t, bI_f]; rfl))
theorem d_X8_add_98 : decode (mB M_X8_add) 98 = .ok (.aload_n 0, 1) := by decide +kernel
theorem d_X8_add_99 : decode (mB M_X8_add) 99 = .ok (.getfield 29, 3) := by decide +kernel
theorem d_X8_add_102 : decode (mB M_X8_add) 102 = .ok (.iload 6, 2) := by decide +kernel
theorem d_X8_add_104 : decode (mB M_X8_add) 104 = .ok (.aload_n 0, 1) := by decide +kernel
theorem d_X8_add_105 : decode (mB M_X8_add) 105 = .ok (.getfield 40, 3) := by decide +kernel
theorem d_X8_add_108 : decode (mB M_X8_add) 108 = .ok (.invokestatic 49, 3) := by decide +kernel
theorem ad_6 {E : mEnv} (hE : E.1.stackTraces = false) (m : List mE) (t : cT) (b : Int64) (p par pu i : Int32) : Go E M_X8_add 0 (98, [some (.ref 130), some (.long b), none, some (.int p), some (.int par), some (.int pu), some (.int i)], [], (m, cw t)) (.inl (111, [some (.ref 130), some (.long b), none, some (.int p), some (.int par), some (.int pu), some (.int i)], [], (m, cw (wE t (ad6 (tE t) i))))) := by
  refine g_aload_n d_X8_add_98 rfl ?_
  refine g_getf d_X8_add_99 f_X8_29 rfl rfl ?_
  refine g_iload d_X8_add_102 rfl ?_
  refine g_aload_n d_X8_add_104 rfl ?_
  refine g_getf d_X8_add_105 f_X8_40 rfl rfl ?_
  refine g_callN (As := [.ref 135, .int i, .int (sN (tE t))]) d_X8_add_108 o_X11_setInt n_X8_49 ⟨Nat.le_of_ble_eq_true rfl, Nat.le_of_ble_eq_true rfl⟩ (c_setInt hE 135 2048 (sT (tE t)) i (sN (tE t)) _ (by decide) rfl) rfl rfl ?_ (Nat.zero_add _)
  exact g_end (by first | rfl | (simp only [↓reduceIte, Bool.false_eq_true, bI_t, bI_f]; done) | (simp only [↓reduceIte, Bool.false_eq_true, bI_t, bI_f]; rfl))
theorem d_X8_add_0 : decode (mB M_X8_add) 0 = .ok (.aload_n 0, 1) := by decide +kernel
theorem d_X8_add_1 : decode (mB M_X8_add) 1 = .ok (.lload_n 1, 1) := by decide +kernel
theorem d_X8_add_2 : decode (mB M_X8_add) 2 = .ok (.iload_n 3, 1) := by decide +kernel
theorem d_X8_add_3 : decode (mB M_X8_add) 3 = .ok (.invokevirtual 119, 3) := by decide +kernel
theorem d_X8_add_6 : decode (mB M_X8_add) 6 = .ok (.istore 6, 2) := by decide +kernel
theorem d_X8_add_8 : decode (mB M_X8_add) 8 = .ok (.aload_n 0, 1) := by decide +kernel
theorem d_X8_add_9 : decode (mB M_X8_add) 9 = .ok (.getfield 29, 3) := by decide +kernel
theorem d_X8_add_12 : decode (mB M_X8_add) 12 = .ok (.iload 6, 2) := by decide +kernel
theorem d_X8_add_14 : decode (mB M_X8_add) 14 = .ok (.invokestatic 85, 3) := by decide +kernel
theorem d_X8_add_17 : decode (mB M_X8_add) 17 = .ok (.ifCond .eq 4, 3) := by decide +kernel
theorem d_X8_add_20 : decode (mB M_X8_add) 20 = .ok (.return_, 1) := by decide +kernel
theorem d_X8_add_21 : decode (mB M_X8_add) 21 = .ok (.aload_n 0, 1) := by decide +kernel
theorem d_X8_add_22 : decode (mB M_X8_add) 22 = .ok (.getfield 40, 3) := by decide +kernel
theorem d_X8_add_25 : decode (mB M_X8_add) 25 = .ok (.aload_n 0, 1) := by decide +kernel
theorem d_X8_add_26 : decode (mB M_X8_add) 26 = .ok (.getfield 32, 3) := by decide +kernel
theorem d_X8_add_29 : decode (mB M_X8_add) 29 = .ok (.if_icmp .lt 9, 3) := by decide +kernel
theorem d_X8_add_32 : decode (mB M_X8_add) 32 = .ok (.aload_n 0, 1) := by decide +kernel
theorem d_X8_add_33 : decode (mB M_X8_add) 33 = .ok (.iconst 1, 1) := by decide +kernel
theorem d_X8_add_34 : decode (mB M_X8_add) 34 = .ok (.putfield 46, 3) := by decide +kernel
theorem d_X8_add_37 : decode (mB M_X8_add) 37 = .ok (.return_, 1) := by decide +kernel
theorem d_X8_add_111 : decode (mB M_X8_add) 111 = .ok (.return_, 1) := by decide +kernel
theorem c_sadd {E : mEnv} (hE : E.1.stackTraces = false) (m : List mE) (t : cT) (b : Int64) (p par pu : Int32) : Rt E M_X8_add 0 [.ref 130, .long b, .int p, .int par, .int pu] ((m, cw t)) none ((m, cw (wE t (adS (tE t) b p par pu)))) := by
  refine Rt.of hE rfl pn_X8 (Nat.le_of_ble_eq_true rfl) ?_
  refine g_eq (S' := (0, [some (.ref 130), some (.long b), none, some (.int p), some (.int par), some (.int pu), none], [], (m, cw t))) rfl ?_
  refine g_aload_n d_X8_add_0 rfl ?_
  refine g_lload_n d_X8_add_1 rfl ?_
  refine g_iload_n d_X8_add_2 rfl ?_
  refine g_callV (As := [.long b, .int p]) d_X8_add_3 o_X8_slotFor l_X8_119 ⟨Nat.le_of_ble_eq_true rfl, Nat.le_of_ble_eq_true rfl⟩ (c_slotFor hE m t b p) rfl rfl rfl rfl rfl rfl ?_ (Nat.zero_add _)
  refine g_istore (L' := [some (.ref 130), some (.long b), none, some (.int p), some (.int par), some (.int pu), some (.int (slF (tE t) b p))]) d_X8_add_6 rfl rfl ?_
  refine g_aload_n d_X8_add_8 rfl ?_
  refine g_getf d_X8_add_9 f_X8_29 rfl rfl ?_
  refine g_iload d_X8_add_12 rfl ?_
  refine g_callN (As := [.ref 135, .int (slF (tE t) b p)]) d_X8_add_14 o_X11_intAt n_X8_85 ⟨Nat.le_of_ble_eq_true rfl, Nat.le_of_ble_eq_true rfl⟩ (c_intAt hE 135 2048 (sT (tE t)) (slF (tE t) b p) _ (by decide) rfl) rfl rfl ?_ (Nat.zero_add _)
  refine g_if_eq (tgt := 21) d_X8_add_17 (by decide) (fun c_17 => ?_) (fun c_17 => ?_)
  · refine g_aload_n d_X8_add_21 rfl ?_
    refine g_getf d_X8_add_22 f_X8_40 rfl rfl ?_
    refine g_aload_n d_X8_add_25 rfl ?_
    refine g_getf d_X8_add_26 f_X8_32 rfl rfl ?_
    refine g_icmp_lt (tgt := 38) d_X8_add_29 (by decide) (fun c_29 => ?_) (fun c_29 => ?_)
    · refine Go.trans0 (ad_1 hE m t b p par pu (slF (tE t) b p)) ?_
      refine Go.trans0 (ad_2 hE m (wE t (ad1 (tE t) b)) b p par pu (slF (tE t) b p)) ?_
      refine g_eq (S' := (62, [some (.ref 130), some (.long b), none, some (.int p), some (.int par), some (.int pu), some (.int (slF (tE t) b p))], [], (m, cw (wE t (ad2 (ad1 (tE t) b) p))))) (by rw [tE_wE, wE_wE]) ?_
      refine Go.trans0 (ad_3 hE m (wE t (ad2 (ad1 (tE t) b) p)) b p par pu (slF (tE t) b p)) ?_
      refine g_eq (S' := (75, [some (.ref 130), some (.long b), none, some (.int p), some (.int par), some (.int pu), some (.int (slF (tE t) b p))], [], (m, cw (wE t (ad3 (ad2 (ad1 (tE t) b) p) par))))) (by rw [tE_wE, wE_wE]) ?_
      refine Go.trans0 (ad_4 hE m (wE t (ad3 (ad2 (ad1 (tE t) b) p) par)) b p par pu (slF (tE t) b p)) ?_
      refine g_eq (S' := (88, [some (.ref 130), some (.long b), none, some (.int p), some (.int par), some (.int pu), some (.int (slF (tE t) b p))], [], (m, cw (wE t (ad4 (ad3 (ad2 (ad1 (tE t) b) p) par) pu))))) (by rw [tE_wE, wE_wE]) ?_
      refine Go.trans0 (ad_5 hE m (wE t (ad4 (ad3 (ad2 (ad1 (tE t) b) p) par) pu)) b p par pu (slF (tE t) b p)) ?_
      refine g_eq (S' := (98, [some (.ref 130), some (.long b), none, some (.int p), some (.int par), some (.int pu), some (.int (slF (tE t) b p))], [], (m, cw (wE t (ad5 (ad4 (ad3 (ad2 (ad1 (tE t) b) p) par) pu)))))) (by rw [tE_wE, wE_wE]) ?_
      refine Go.trans0 (ad_6 hE m (wE t (ad5 (ad4 (ad3 (ad2 (ad1 (tE t) b) p) par) pu))) b p par pu (slF (tE t) b p)) ?_
      refine g_eq (S' := (111, [some (.ref 130), some (.long b), none, some (.int p), some (.int par), some (.int pu), some (.int (slF (tE t) b p))], [], (m, cw (wE t (ad6 (ad5 (ad4 (ad3 (ad2 (ad1 (tE t) b) p) par) pu)) (slF (tE t) b p)))))) (by rw [tE_wE, wE_wE]) ?_
      exact g_retV d_X8_add_111 rfl (by rw [show adS (tE t) b p par pu = (ad6 (ad5 (ad4 (ad3 (ad2 (ad1 (tE t) b) p) par) pu)) (slF (tE t) b p)) by simp only [adS, eq_true c_17, eq_true c_29, ↓reduceIte]] <;> rfl)
    · refine g_aload_n d_X8_add_32 rfl ?_
      refine g_iconst (v := 1) d_X8_add_33 (by decide) ?_
      refine g_putI (w' := (mset (m, cw t) 130 (.inr (8, [.ref 105, .ref 131, .ref 132, .ref 133, .ref 134, .ref 135, .int (sM (tE t)), .int (bI (sW (tE t))), .int (sN (tE t)), .int (sV (tE t)), .int 1])))) d_X8_add_34 p_X8_46 rfl rfl rfl (Nat.le_of_ble_eq_true rfl) (rfl) ?_
      exact g_retV d_X8_add_37 rfl (by rw [show adS (tE t) b p par pu = adY (tE t) by simp only [adS, eq_true c_17, eq_false c_29, ↓reduceIte]] <;> rfl)
  · exact g_retV d_X8_add_20 rfl (by rw [show adS (tE t) b p par pu = tE t by simp only [adS, eq_false c_17, ↓reduceIte]] <;> rfl)
