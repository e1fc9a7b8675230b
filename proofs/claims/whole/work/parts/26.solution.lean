/-! Solution -/
theorem tO_wO (t : cT) (x : SoT) : tO (wO t x) = x := rfl
theorem tE_wO (t : cT) (x : SoT) : tE (wO t x) = tE t := rfl
theorem wO_wO (t : cT) (x y : SoT) : wO (wO t x) y = wO t y := rfl
theorem d_X8_parentOf_0 : decode (mB M_X8_parentOf) 0 = .ok (.aload_n 0, 1) := by decide +kernel
theorem d_X8_parentOf_1 : decode (mB M_X8_parentOf) 1 = .ok (.getfield 23, 3) := by decide +kernel
theorem d_X8_parentOf_4 : decode (mB M_X8_parentOf) 4 = .ok (.iload_n 1, 1) := by decide +kernel
theorem d_X8_parentOf_5 : decode (mB M_X8_parentOf) 5 = .ok (.invokestatic 85, 3) := by decide +kernel
theorem d_X8_parentOf_8 : decode (mB M_X8_parentOf) 8 = .ok (.ireturn, 1) := by decide +kernel
theorem c_parentOf {E : mEnv} (hE : E.1.stackTraces = false) (m : List mE) (t : cT) (i : Int32) : Rt E M_X8_parentOf 0 [.ref 130, .int i] ((m, cw t)) (some (.int (intAtF 1000 (sF (tE t)) i))) ((m, cw t)) := by
  refine Rt.of hE rfl pn_X8 (Nat.le_of_ble_eq_true rfl) ?_
  refine g_eq (S' := (0, [some (.ref 130), some (.int i)], [], (m, cw t))) rfl ?_
  refine g_aload_n d_X8_parentOf_0 rfl ?_
  refine g_getf d_X8_parentOf_1 f_X8_23 rfl rfl ?_
  refine g_iload_n d_X8_parentOf_4 rfl ?_
  refine g_callN (As := [.ref 133, .int i]) d_X8_parentOf_5 o_X11_intAt n_X8_85 ⟨Nat.le_of_ble_eq_true rfl, Nat.le_of_ble_eq_true rfl⟩ (c_intAt hE 133 1000 (sF (tE t)) i _ (by decide) rfl) rfl rfl ?_ (Nat.zero_add _)
  exact g_retI d_X8_parentOf_8 rfl (rfl) (rfl)
theorem d_X8_pushTo_0 : decode (mB M_X8_pushTo) 0 = .ok (.aload_n 0, 1) := by decide +kernel
theorem d_X8_pushTo_1 : decode (mB M_X8_pushTo) 1 = .ok (.getfield 26, 3) := by decide +kernel
theorem d_X8_pushTo_4 : decode (mB M_X8_pushTo) 4 = .ok (.iload_n 1, 1) := by decide +kernel
theorem d_X8_pushTo_5 : decode (mB M_X8_pushTo) 5 = .ok (.invokestatic 85, 3) := by decide +kernel
theorem d_X8_pushTo_8 : decode (mB M_X8_pushTo) 8 = .ok (.ireturn, 1) := by decide +kernel
theorem c_pushTo {E : mEnv} (hE : E.1.stackTraces = false) (m : List mE) (t : cT) (i : Int32) : Rt E M_X8_pushTo 0 [.ref 130, .int i] ((m, cw t)) (some (.int (intAtF 1000 (sU (tE t)) i))) ((m, cw t)) := by
  refine Rt.of hE rfl pn_X8 (Nat.le_of_ble_eq_true rfl) ?_
  refine g_eq (S' := (0, [some (.ref 130), some (.int i)], [], (m, cw t))) rfl ?_
  refine g_aload_n d_X8_pushTo_0 rfl ?_
  refine g_getf d_X8_pushTo_1 f_X8_26 rfl rfl ?_
  refine g_iload_n d_X8_pushTo_4 rfl ?_
  refine g_callN (As := [.ref 134, .int i]) d_X8_pushTo_5 o_X11_intAt n_X8_85 ⟨Nat.le_of_ble_eq_true rfl, Nat.le_of_ble_eq_true rfl⟩ (c_intAt hE 134 1000 (sU (tE t)) i _ (by decide) rfl) rfl rfl ?_ (Nat.zero_add _)
  exact g_retI d_X8_pushTo_8 rfl (rfl) (rfl)
/-- how many pushes lead to a position -/
def dpL (f : Nat → Int32) : Nat → Nat → Int32 → Nat
  | 0, k, _ => k
  | n + 1, k, i => if i = -1 then k else dpL f n (k + 1) (intAtF 1000 f i)
theorem dpL_le (f : Nat → Int32) : ∀ (n k : Nat) (i : Int32), dpL f n k i ≤ k + n := by
  intro n
  induction n with
  | zero => intro k i; exact Nat.le_refl _
  | succ n ih =>
    intro k i
    by_cases h : i = -1
    · simp only [dpL, h, ↓reduceIte]; omega
    · simp only [dpL, h, ↓reduceIte]
      have := ih (k + 1) (intAtF 1000 f i)
      omega
def kpL (f u : Nat → Int32) : Nat → Int32 → (Nat → Int32) → (Nat → Int32)
  | 0, _, p => p
  | n + 1, i, p => kpL f u n (intAtF 1000 f i) (setIntF 1000 p (nI n) (intAtF 1000 u i))
theorem d_X9_depthOf_0 : decode (mB M_X9_depthOf) 0 = .ok (.iconst 0, 1) := by decide +kernel
theorem d_X9_depthOf_1 : decode (mB M_X9_depthOf) 1 = .ok (.istore_n 1, 1) := by decide +kernel
theorem d_X9_depthOf_2 : decode (mB M_X9_depthOf) 2 = .ok (.aload_n 0, 1) := by decide +kernel
theorem d_X9_depthOf_3 : decode (mB M_X9_depthOf) 3 = .ok (.aload_n 0, 1) := by decide +kernel
theorem d_X9_depthOf_4 : decode (mB M_X9_depthOf) 4 = .ok (.getfield 31, 3) := by decide +kernel
theorem d_X9_depthOf_7 : decode (mB M_X9_depthOf) 7 = .ok (.invokevirtual 42, 3) := by decide +kernel
theorem d_X9_depthOf_10 : decode (mB M_X9_depthOf) 10 = .ok (.istore_n 2, 1) := by decide +kernel
theorem d_X9_depthOf_11 : decode (mB M_X9_depthOf) 11 = .ok (.iload_n 2, 1) := by decide +kernel
theorem d_X9_depthOf_12 : decode (mB M_X9_depthOf) 12 = .ok (.iconst (-1), 1) := by decide +kernel
theorem d_X9_depthOf_13 : decode (mB M_X9_depthOf) 13 = .ok (.if_icmp .eq 22, 3) := by decide +kernel
theorem d_X9_depthOf_16 : decode (mB M_X9_depthOf) 16 = .ok (.iload_n 1, 1) := by decide +kernel
theorem d_X9_depthOf_17 : decode (mB M_X9_depthOf) 17 = .ok (.sipush 1000, 3) := by decide +kernel
theorem d_X9_depthOf_20 : decode (mB M_X9_depthOf) 20 = .ok (.if_icmp .ge 15, 3) := by decide +kernel
theorem d_X9_depthOf_23 : decode (mB M_X9_depthOf) 23 = .ok (.iinc 1 1, 3) := by decide +kernel
theorem d_X9_depthOf_26 : decode (mB M_X9_depthOf) 26 = .ok (.aload_n 0, 1) := by decide +kernel
theorem d_X9_depthOf_27 : decode (mB M_X9_depthOf) 27 = .ok (.iload_n 2, 1) := by decide +kernel
theorem d_X9_depthOf_28 : decode (mB M_X9_depthOf) 28 = .ok (.invokevirtual 42, 3) := by decide +kernel
theorem d_X9_depthOf_31 : decode (mB M_X9_depthOf) 31 = .ok (.istore_n 2, 1) := by decide +kernel
theorem d_X9_depthOf_32 : decode (mB M_X9_depthOf) 32 = .ok (.goto (-21), 3) := by decide +kernel
theorem d_X9_depthOf_35 : decode (mB M_X9_depthOf) 35 = .ok (.iload_n 1, 1) := by decide +kernel
theorem d_X9_depthOf_36 : decode (mB M_X9_depthOf) 36 = .ok (.ireturn, 1) := by decide +kernel
theorem l_depth {E : mEnv} (hE : E.1.stackTraces = false) (m : List mE) (t : cT) : ∀ (n : Nat) (k : Nat) (i : Int32), k + n = 1000 → Go E M_X9_depthOf 0 (11, [some (.ref 130), some (.int (nI k)), some (.int i)], [], (m, cw t)) (.inr (.inl (some (.int (nI (dpL (sF (tE t)) n k i))), (m, cw t)))) := by
  intro n
  induction n with
  | zero =>
    intro k i hk
    obtain rfl : k = 1000 := by omega
    refine g_iload_n d_X9_depthOf_11 rfl ?_
    refine g_iconst (v := (-1)) d_X9_depthOf_12 (by decide) ?_
    refine g_icmp_eq (tgt := 35) d_X9_depthOf_13 (by decide) (fun c_13 => ?_) (fun c_13 => ?_)
    · refine g_iload_n d_X9_depthOf_35 rfl ?_
      exact g_retI d_X9_depthOf_36 rfl (rfl) (rfl)
    · refine g_iload_n d_X9_depthOf_16 rfl ?_
      refine g_sipush (v := 1000) d_X9_depthOf_17 (by decide) ?_
      refine g_icmp_ge (tgt := 35) d_X9_depthOf_20 (by decide) (fun c_20 => ?_) (fun c_20 => absurd c_20 (absurd (nI_le (Nat.le_refl 1000) (by decide)) c_20))
      refine g_iload_n d_X9_depthOf_35 rfl ?_
      exact g_retI d_X9_depthOf_36 rfl (rfl) (rfl)
  | succ n ih =>
    intro k i hk
    refine g_iload_n d_X9_depthOf_11 rfl ?_
    refine g_iconst (v := (-1)) d_X9_depthOf_12 (by decide) ?_
    refine g_icmp_eq (tgt := 35) d_X9_depthOf_13 (by decide) (fun c_13 => ?_) (fun c_13 => ?_)
    · refine g_iload_n d_X9_depthOf_35 rfl ?_
      exact g_retI d_X9_depthOf_36 rfl (by simp only [dpL, eq_true c_13, ↓reduceIte]) (rfl)
    · refine g_iload_n d_X9_depthOf_16 rfl ?_
      refine g_sipush (v := 1000) d_X9_depthOf_17 (by decide) ?_
      refine g_icmp_ge (tgt := 35) d_X9_depthOf_20 (by decide) (fun c_20 => absurd c_20 (nI_ge (a := k) (b := 1000) (by omega) (by decide))) (fun c_20 => ?_)
      refine g_iinc (v := ((nI k) + 1)) (L' := [some (.ref 130), some (.int ((nI k) + 1)), some (.int i)]) d_X9_depthOf_23 rfl rfl rfl ?_
      refine g_aload_n d_X9_depthOf_26 rfl ?_
      refine g_iload_n d_X9_depthOf_27 rfl ?_
      refine g_callV (As := [.int i]) d_X9_depthOf_28 o_X8_parentOf l_X9_42 ⟨Nat.le_of_ble_eq_true rfl, Nat.le_of_ble_eq_true rfl⟩ (c_parentOf hE m t i) rfl rfl rfl rfl rfl rfl ?_ (Nat.zero_add _)
      refine g_istore_n (L' := [some (.ref 130), some (.int ((nI k) + 1)), some (.int (intAtF 1000 (sF (tE t)) i))]) d_X9_depthOf_31 rfl rfl ?_
      refine g_goto (tgt := 11) d_X9_depthOf_32 (by decide) ?_
      refine g_eq (S' := (11, [some (.ref 130), some (.int (nI (k + 1))), some (.int (intAtF 1000 (sF (tE t)) i))], [], (m, cw t))) (by first | rfl | (rw [nI_1]; rfl) | (simp only [nI_1]; rfl) | simp only [nI_1]) ?_
      rw [show dpL (sF (tE t)) (n + 1) k i = dpL (sF (tE t)) n (k + 1) (intAtF 1000 (sF (tE t)) i) by simp only [dpL, eq_false c_13, ↓reduceIte]]
      exact ih (k + 1) _ (by omega)
def dpF (q : SeT) : Nat := dpL (sF q) 1000 0 (intAtF 1000 (sF q) (sV q))
theorem c_depthN {E : mEnv} (hE : E.1.stackTraces = false) (m : List mE) (t : cT) (n : Nat) (hn : 0 + n = 1000) : Rt E M_X9_depthOf 0 [.ref 130] (m, cw t) (some (.int (nI (dpL (sF (tE t)) n 0 (intAtF 1000 (sF (tE t)) (sV (tE t))))))) (m, cw t) := by
  refine Rt.of hE rfl pn_X9 (Nat.le_of_ble_eq_true rfl) ?_
  refine g_eq (S' := (0, [some (.ref 130), none, none], [], (m, cw t))) rfl ?_
  refine g_iconst (v := 0) d_X9_depthOf_0 (by decide) ?_
  refine g_istore_n (L' := [some (.ref 130), some (.int 0), none]) d_X9_depthOf_1 rfl rfl ?_
  refine g_aload_n d_X9_depthOf_2 rfl ?_
  refine g_aload_n d_X9_depthOf_3 rfl ?_
  refine g_getf d_X9_depthOf_4 f_X9_31 rfl rfl ?_
  refine g_callV (As := [.int (sV (tE t))]) d_X9_depthOf_7 o_X8_parentOf l_X9_42 ⟨Nat.le_of_ble_eq_true rfl, Nat.le_of_ble_eq_true rfl⟩ (c_parentOf hE m t (sV (tE t))) rfl rfl rfl rfl rfl rfl ?_ (Nat.zero_add _)
  refine g_istore_n (L' := [some (.ref 130), some (.int 0), some (.int (intAtF 1000 (sF (tE t)) (sV (tE t))))]) d_X9_depthOf_10 rfl rfl ?_
  refine g_eq (S' := (11, [some (.ref 130), some (.int (nI 0)), some (.int (intAtF 1000 (sF (tE t)) (sV (tE t))))], [], (m, cw t))) (rfl) ?_
  exact l_depth hE m t n 0 _ hn
theorem c_depthOf {E : mEnv} (hE : E.1.stackTraces = false) (m : List mE) (t : cT) : Rt E M_X9_depthOf 0 [.ref 130] (m, cw t) (some (.int (nI (dpF (tE t))))) (m, cw t) := c_depthN hE m t 1000 rfl
theorem d_X9_keep_0 : decode (mB M_X9_keep) 0 = .ok (.aload_n 0, 1) := by decide +kernel
theorem d_X9_keep_1 : decode (mB M_X9_keep) 1 = .ok (.aload_n 1, 1) := by decide +kernel
theorem d_X9_keep_2 : decode (mB M_X9_keep) 2 = .ok (.getfield 22, 3) := by decide +kernel
theorem d_X9_keep_5 : decode (mB M_X9_keep) 5 = .ok (.putfield 19, 3) := by decide +kernel
theorem d_X9_keep_8 : decode (mB M_X9_keep) 8 = .ok (.aload_n 0, 1) := by decide +kernel
theorem d_X9_keep_9 : decode (mB M_X9_keep) 9 = .ok (.aload_n 1, 1) := by decide +kernel
theorem d_X9_keep_10 : decode (mB M_X9_keep) 10 = .ok (.invokestatic 27, 3) := by decide +kernel
theorem d_X9_keep_13 : decode (mB M_X9_keep) 13 = .ok (.putfield 15, 3) := by decide +kernel
theorem d_X9_keep_16 : decode (mB M_X9_keep) 16 = .ok (.aload_n 1, 1) := by decide +kernel
theorem d_X9_keep_17 : decode (mB M_X9_keep) 17 = .ok (.getfield 31, 3) := by decide +kernel
theorem d_X9_keep_20 : decode (mB M_X9_keep) 20 = .ok (.istore_n 2, 1) := by decide +kernel
theorem d_X9_keep_21 : decode (mB M_X9_keep) 21 = .ok (.aload_n 0, 1) := by decide +kernel
theorem d_X9_keep_22 : decode (mB M_X9_keep) 22 = .ok (.getfield 15, 3) := by decide +kernel
theorem d_X9_keep_25 : decode (mB M_X9_keep) 25 = .ok (.iconst 1, 1) := by decide +kernel
theorem d_X9_keep_26 : decode (mB M_X9_keep) 26 = .ok (.isub, 1) := by decide +kernel
theorem d_X9_keep_27 : decode (mB M_X9_keep) 27 = .ok (.istore_n 3, 1) := by decide +kernel
theorem d_X9_keep_28 : decode (mB M_X9_keep) 28 = .ok (.iload_n 3, 1) := by decide +kernel
theorem d_X9_keep_29 : decode (mB M_X9_keep) 29 = .ok (.ifCond .lt 28, 3) := by decide +kernel
theorem d_X9_keep_32 : decode (mB M_X9_keep) 32 = .ok (.aload_n 0, 1) := by decide +kernel
theorem d_X9_keep_33 : decode (mB M_X9_keep) 33 = .ok (.getfield 9, 3) := by decide +kernel
theorem d_X9_keep_36 : decode (mB M_X9_keep) 36 = .ok (.iload_n 3, 1) := by decide +kernel
theorem d_X9_keep_37 : decode (mB M_X9_keep) 37 = .ok (.aload_n 1, 1) := by decide +kernel
theorem d_X9_keep_38 : decode (mB M_X9_keep) 38 = .ok (.iload_n 2, 1) := by decide +kernel
theorem d_X9_keep_39 : decode (mB M_X9_keep) 39 = .ok (.invokevirtual 34, 3) := by decide +kernel
theorem d_X9_keep_42 : decode (mB M_X9_keep) 42 = .ok (.invokestatic 38, 3) := by decide +kernel
theorem d_X9_keep_45 : decode (mB M_X9_keep) 45 = .ok (.aload_n 1, 1) := by decide +kernel
theorem d_X9_keep_46 : decode (mB M_X9_keep) 46 = .ok (.iload_n 2, 1) := by decide +kernel
theorem d_X9_keep_47 : decode (mB M_X9_keep) 47 = .ok (.invokevirtual 42, 3) := by decide +kernel
theorem d_X9_keep_50 : decode (mB M_X9_keep) 50 = .ok (.istore_n 2, 1) := by decide +kernel
theorem d_X9_keep_51 : decode (mB M_X9_keep) 51 = .ok (.iinc 3 (-1), 3) := by decide +kernel
theorem d_X9_keep_54 : decode (mB M_X9_keep) 54 = .ok (.goto (-26), 3) := by decide +kernel
theorem d_X9_keep_57 : decode (mB M_X9_keep) 57 = .ok (.return_, 1) := by decide +kernel
theorem l_keep {E : mEnv} (hE : E.1.stackTraces = false) (m : List mE) : ∀ (n : Nat) (t : cT) (j i : Int32), n < 2 ^ 31 → i = nI n - 1 → Go E M_X9_keep 0 (28, [some (.ref 136), some (.ref 130), some (.int j), some (.int i)], [], (m, cw t)) (.inr (.inl (none, (m, cw (wO t (kpL (sF (tE t)) (sU (tE t)) n j (tO t).1, (tO t).2)))))) := by
  intro n
  induction n with
  | zero =>
    intro t j i hn hi
    refine g_iload_n d_X9_keep_28 rfl ?_
    refine g_if_lt (tgt := 57) d_X9_keep_29 (by decide) (fun c_29 => ?_) (fun c_29 => absurd c_29 (absurd (show i < 0 by rw [hi]; decide) c_29))
    exact g_retV d_X9_keep_57 rfl (rfl)
  | succ n ih =>
    intro t j i hn hi
    obtain rfl : i = nI n := by rw [hi, nI_pred]
    refine g_iload_n d_X9_keep_28 rfl ?_
    refine g_if_lt (tgt := 57) d_X9_keep_29 (by decide) (fun c_29 => absurd c_29 (nI_pos (by omega))) (fun c_29 => ?_)
    refine g_aload_n d_X9_keep_32 rfl ?_
    refine g_getf d_X9_keep_33 f_X9_9 rfl rfl ?_
    refine g_iload_n d_X9_keep_36 rfl ?_
    refine g_aload_n d_X9_keep_37 rfl ?_
    refine g_iload_n d_X9_keep_38 rfl ?_
    refine g_callV (As := [.int j]) d_X9_keep_39 o_X8_pushTo l_X9_34 ⟨Nat.le_of_ble_eq_true rfl, Nat.le_of_ble_eq_true rfl⟩ (c_pushTo hE m t j) rfl rfl rfl rfl rfl rfl ?_ (Nat.zero_add _)
    refine g_callN (As := [.ref 137, .int (nI n), .int (intAtF 1000 (sU (tE t)) j)]) d_X9_keep_42 o_X11_setInt n_X9_38 ⟨Nat.le_of_ble_eq_true rfl, Nat.le_of_ble_eq_true rfl⟩ (c_setInt hE 137 1000 (tO t).1 (nI n) (intAtF 1000 (sU (tE t)) j) _ (by decide) rfl) rfl rfl ?_ (Nat.zero_add _)
    refine g_eq (S' := (45, [some (.ref 136), some (.ref 130), some (.int j), some (.int (nI n))], [], (m, cw (wO t (setIntF 1000 (tO t).1 (nI n) (intAtF 1000 (sU (tE t)) j), (tO t).2))))) rfl ?_
    refine g_aload_n d_X9_keep_45 rfl ?_
    refine g_iload_n d_X9_keep_46 rfl ?_
    refine g_callV (As := [.int j]) d_X9_keep_47 o_X8_parentOf l_X9_42 ⟨Nat.le_of_ble_eq_true rfl, Nat.le_of_ble_eq_true rfl⟩ (c_parentOf hE m (wO t (setIntF 1000 (tO t).1 (nI n) (intAtF 1000 (sU (tE t)) j), (tO t).2)) j) rfl rfl rfl rfl rfl rfl ?_ (Nat.zero_add _)
    refine g_istore_n (L' := [some (.ref 136), some (.ref 130), some (.int (intAtF 1000 (sF (tE (wO t (setIntF 1000 (tO t).1 (nI n) (intAtF 1000 (sU (tE t)) j), (tO t).2)))) j)), some (.int (nI n))]) d_X9_keep_50 rfl rfl ?_
    refine g_iinc (v := ((nI n) + (-1))) (L' := [some (.ref 136), some (.ref 130), some (.int (intAtF 1000 (sF (tE (wO t (setIntF 1000 (tO t).1 (nI n) (intAtF 1000 (sU (tE t)) j), (tO t).2)))) j)), some (.int ((nI n) + (-1)))]) d_X9_keep_51 rfl rfl rfl ?_
    refine g_goto (tgt := 28) d_X9_keep_54 (by decide) ?_
    refine g_eq (S' := (28, [some (.ref 136), some (.ref 130), some (.int (intAtF 1000 (sF (tE t)) j)), some (.int (nI n + (-1)))], [], (m, cw (wO t (setIntF 1000 (tO t).1 (nI n) (intAtF 1000 (sU (tE t)) j), (tO t).2))))) (rfl) ?_
    exact ih (wO t (setIntF 1000 (tO t).1 (nI n) (intAtF 1000 (sU (tE t)) j), (tO t).2)) _ (nI n + (-1)) (by omega) (Int32.sub_eq_add_neg _ _).symm
def kpS (q : SeT) (s : SoT) : SoT := (kpL (sF q) (sU q) (dpF q) (sV q) s.1, nI (dpF q), sN q)
theorem c_keep {E : mEnv} (hE : E.1.stackTraces = false) (m : List mE) (t : cT)  : Rt E M_X9_keep 0 [.ref 136, .ref 130] ((m, cw t)) none ((m, cw (wO t (kpS (tE t) (tO t))))) := by
  refine Rt.of hE rfl pn_X9 (Nat.le_of_ble_eq_true rfl) ?_
  refine g_eq (S' := (0, [some (.ref 136), some (.ref 130), none, none], [], (m, cw t))) rfl ?_
  refine g_aload_n d_X9_keep_0 rfl ?_
  refine g_aload_n d_X9_keep_1 rfl ?_
  refine g_getf d_X9_keep_2 f_X9_22 rfl rfl ?_
  refine g_putI (w' := (mset (m, cw t) 136 (.inr (9, [.ref 137, .int (tO t).2.1, .int (sN (tE t))])))) d_X9_keep_5 p_X9_19 rfl rfl rfl (Nat.le_of_ble_eq_true rfl) (rfl) ?_
  refine g_eq (S' := (8, [some (.ref 136), some (.ref 130), none, none], [], (m, cw (wO t ((tO t).1, (tO t).2.1, sN (tE t)))))) rfl ?_
  refine g_aload_n d_X9_keep_8 rfl ?_
  refine g_aload_n d_X9_keep_9 rfl ?_
  refine g_callS (As := [.ref 130]) d_X9_keep_10 o_X9_depthOf l_X9_27 ⟨Nat.le_of_ble_eq_true rfl, Nat.le_of_ble_eq_true rfl⟩ (c_depthOf hE m (wO t ((tO t).1, (tO t).2.1, sN (tE t)))) rfl rfl ?_ (Nat.zero_add _)
  refine g_putI (w' := (mset (m, cw (wO t ((tO t).1, (tO t).2.1, sN (tE t)))) 136 (.inr (9, [.ref 137, .int (nI (dpF (tE (wO t ((tO t).1, (tO t).2.1, sN (tE t)))))), .int (tO (wO t ((tO t).1, (tO t).2.1, sN (tE t)))).2.2])))) d_X9_keep_13 p_X9_15 rfl rfl rfl (Nat.le_of_ble_eq_true rfl) (rfl) ?_
  refine g_aload_n d_X9_keep_16 rfl ?_
  refine g_getf d_X9_keep_17 f_X9_31 ((mget_ne (by decide)).trans rfl) rfl ?_
  refine g_istore_n (L' := [some (.ref 136), some (.ref 130), some (.int (sV (tE (wO t ((tO t).1, (tO t).2.1, sN (tE t)))))), none]) d_X9_keep_20 rfl rfl ?_
  refine g_aload_n d_X9_keep_21 rfl ?_
  refine g_getf d_X9_keep_22 f_X9_15 (mget_eq rfl) rfl ?_
  refine g_iconst (v := 1) d_X9_keep_25 (by decide) ?_
  refine g_isub d_X9_keep_26 ?_
  refine g_istore_n (L' := [some (.ref 136), some (.ref 130), some (.int (sV (tE (wO t ((tO t).1, (tO t).2.1, sN (tE t)))))), some (.int ((nI (dpF (tE (wO t ((tO t).1, (tO t).2.1, sN (tE t)))))) - 1))]) d_X9_keep_27 rfl rfl ?_
  refine g_eq (S' := (28, [some (.ref 136), some (.ref 130), some (.int (sV (tE t))), some (.int (nI (dpF (tE t)) - 1))], [], (m, cw (wO t ((tO t).1, nI (dpF (tE t)), sN (tE t)))))) (rfl) ?_
  have h := l_keep hE m (dpF (tE t)) (wO t ((tO t).1, nI (dpF (tE t)), sN (tE t))) (sV (tE t)) (nI (dpF (tE t)) - 1) (by have : dpF (tE t) ≤ 0 + 1000 := dpL_le _ _ _ _; omega) rfl
  exact h
theorem d_X9_cellAt_0 : decode (mB M_X9_cellAt) 0 = .ok (.aload_n 0, 1) := by decide +kernel
theorem d_X9_cellAt_1 : decode (mB M_X9_cellAt) 1 = .ok (.getfield 9, 3) := by decide +kernel
theorem d_X9_cellAt_4 : decode (mB M_X9_cellAt) 4 = .ok (.iload_n 1, 1) := by decide +kernel
theorem d_X9_cellAt_5 : decode (mB M_X9_cellAt) 5 = .ok (.invokestatic 45, 3) := by decide +kernel
theorem d_X9_cellAt_8 : decode (mB M_X9_cellAt) 8 = .ok (.iconst 4, 1) := by decide +kernel
theorem d_X9_cellAt_9 : decode (mB M_X9_cellAt) 9 = .ok (.idiv, 1) := by decide +kernel
theorem d_X9_cellAt_10 : decode (mB M_X9_cellAt) 10 = .ok (.ireturn, 1) := by decide +kernel
theorem c_cellAt {E : mEnv} (hE : E.1.stackTraces = false) (m : List mE) (t : cT) (i : Int32) : Rt E M_X9_cellAt 0 [.ref 136, .int i] ((m, cw t)) (some (.int (intAtF 1000 (tO t).1 i / 4))) ((m, cw t)) := by
  refine Rt.of hE rfl pn_X9 (Nat.le_of_ble_eq_true rfl) ?_
  refine g_eq (S' := (0, [some (.ref 136), some (.int i)], [], (m, cw t))) rfl ?_
  refine g_aload_n d_X9_cellAt_0 rfl ?_
  refine g_getf d_X9_cellAt_1 f_X9_9 rfl rfl ?_
  refine g_iload_n d_X9_cellAt_4 rfl ?_
  refine g_callN (As := [.ref 137, .int i]) d_X9_cellAt_5 o_X11_intAt n_X9_45 ⟨Nat.le_of_ble_eq_true rfl, Nat.le_of_ble_eq_true rfl⟩ (c_intAt hE 137 1000 (tO t).1 i _ (by decide) rfl) rfl rfl ?_ (Nat.zero_add _)
  refine g_iconst (v := 4) d_X9_cellAt_8 (by decide) ?_
  refine g_idiv d_X9_cellAt_9 (by decide) ?_
  exact g_retI d_X9_cellAt_10 rfl (rfl) (rfl)
theorem d_X9_directionAt_0 : decode (mB M_X9_directionAt) 0 = .ok (.aload_n 0, 1) := by decide +kernel
theorem d_X9_directionAt_1 : decode (mB M_X9_directionAt) 1 = .ok (.getfield 9, 3) := by decide +kernel
theorem d_X9_directionAt_4 : decode (mB M_X9_directionAt) 4 = .ok (.iload_n 1, 1) := by decide +kernel
theorem d_X9_directionAt_5 : decode (mB M_X9_directionAt) 5 = .ok (.invokestatic 45, 3) := by decide +kernel
theorem d_X9_directionAt_8 : decode (mB M_X9_directionAt) 8 = .ok (.iconst 4, 1) := by decide +kernel
theorem d_X9_directionAt_9 : decode (mB M_X9_directionAt) 9 = .ok (.irem, 1) := by decide +kernel
theorem d_X9_directionAt_10 : decode (mB M_X9_directionAt) 10 = .ok (.ireturn, 1) := by decide +kernel
theorem c_dirAt {E : mEnv} (hE : E.1.stackTraces = false) (m : List mE) (t : cT) (i : Int32) : Rt E M_X9_directionAt 0 [.ref 136, .int i] ((m, cw t)) (some (.int (intAtF 1000 (tO t).1 i - intAtF 1000 (tO t).1 i / 4 * 4))) ((m, cw t)) := by
  refine Rt.of hE rfl pn_X9 (Nat.le_of_ble_eq_true rfl) ?_
  refine g_eq (S' := (0, [some (.ref 136), some (.int i)], [], (m, cw t))) rfl ?_
  refine g_aload_n d_X9_directionAt_0 rfl ?_
  refine g_getf d_X9_directionAt_1 f_X9_9 rfl rfl ?_
  refine g_iload_n d_X9_directionAt_4 rfl ?_
  refine g_callN (As := [.ref 137, .int i]) d_X9_directionAt_5 o_X11_intAt n_X9_45 ⟨Nat.le_of_ble_eq_true rfl, Nat.le_of_ble_eq_true rfl⟩ (c_intAt hE 137 1000 (tO t).1 i _ (by decide) rfl) rfl rfl ?_ (Nat.zero_add _)
  refine g_iconst (v := 4) d_X9_directionAt_8 (by decide) ?_
  refine g_irem d_X9_directionAt_9 (by decide) ?_
  exact g_retI d_X9_directionAt_10 rfl (rfl) (rfl)
