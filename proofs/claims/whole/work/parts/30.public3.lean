/-! play, search, finish, readRoom -/
def peL (d : Int32) (u : Bool) : Nat → cT → Bool × cT
  | 0, t => (true, t)
  | n + 1, t => if pLr (qG (tG t)) (qN (tG t)).1 (qN (tG t)).2 d u = 0 then peL d u n (wG t (mkQ (tG t) d)) else (false, keT t (pLr (qG (tG t)) (qN (tG t)).1 (qN (tG t)).2 d u) (pSd (qG (tG t)) (qN (tG t)).2 (pLr (qG (tG t)) (qN (tG t)).1 (qN (tG t)).2 d u) d))
theorem peL_tI (d : Int32) (u : Bool) : ∀ (n : Nat) (t : cT), tI (peL d u n t).2 = tI t := by
  intro n
  induction n with
  | zero => intro t; rfl
  | succ n ih =>
    intro t
    simp only [peL]
    split
    · rw [ih]; rfl
    · rfl
theorem d_X11_playElement_0 : decode (mB M_X11_playElement) 0 = .ok (.iload_n 1, 1) := by decide +kernel
theorem d_X11_playElement_1 : decode (mB M_X11_playElement) 1 = .ok (.invokestatic 432, 3) := by decide +kernel
theorem d_X11_playElement_4 : decode (mB M_X11_playElement) 4 = .ok (.istore_n 3, 1) := by decide +kernel
theorem d_X11_playElement_5 : decode (mB M_X11_playElement) 5 = .ok (.iconst 0, 1) := by decide +kernel
theorem d_X11_playElement_6 : decode (mB M_X11_playElement) 6 = .ok (.istore 4, 2) := by decide +kernel
theorem d_X11_playElement_8 : decode (mB M_X11_playElement) 8 = .ok (.iload 4, 2) := by decide +kernel
theorem d_X11_playElement_10 : decode (mB M_X11_playElement) 10 = .ok (.iload_n 2, 1) := by decide +kernel
theorem d_X11_playElement_11 : decode (mB M_X11_playElement) 11 = .ok (.if_icmp .ge 61, 3) := by decide +kernel
theorem d_X11_playElement_14 : decode (mB M_X11_playElement) 14 = .ok (.aload_n 0, 1) := by decide +kernel
theorem d_X11_playElement_15 : decode (mB M_X11_playElement) 15 = .ok (.getfield 26, 3) := by decide +kernel
theorem d_X11_playElement_18 : decode (mB M_X11_playElement) 18 = .ok (.getfield 158, 3) := by decide +kernel
theorem d_X11_playElement_21 : decode (mB M_X11_playElement) 21 = .ok (.iload_n 3, 1) := by decide +kernel
theorem d_X11_playElement_22 : decode (mB M_X11_playElement) 22 = .ok (.iload_n 1, 1) := by decide +kernel
theorem d_X11_playElement_23 : decode (mB M_X11_playElement) 23 = .ok (.invokestatic 435, 3) := by decide +kernel
theorem d_X11_playElement_26 : decode (mB M_X11_playElement) 26 = .ok (.invokevirtual 438, 3) := by decide +kernel
theorem d_X11_playElement_29 : decode (mB M_X11_playElement) 29 = .ok (.istore 5, 2) := by decide +kernel
theorem d_X11_playElement_31 : decode (mB M_X11_playElement) 31 = .ok (.iload 5, 2) := by decide +kernel
theorem d_X11_playElement_33 : decode (mB M_X11_playElement) 33 = .ok (.ifCond .eq 24, 3) := by decide +kernel
theorem d_X11_playElement_36 : decode (mB M_X11_playElement) 36 = .ok (.aload_n 0, 1) := by decide +kernel
theorem d_X11_playElement_37 : decode (mB M_X11_playElement) 37 = .ok (.iload 5, 2) := by decide +kernel
theorem d_X11_playElement_39 : decode (mB M_X11_playElement) 39 = .ok (.aload_n 0, 1) := by decide +kernel
theorem d_X11_playElement_40 : decode (mB M_X11_playElement) 40 = .ok (.getfield 26, 3) := by decide +kernel
theorem d_X11_playElement_43 : decode (mB M_X11_playElement) 43 = .ok (.getfield 158, 3) := by decide +kernel
theorem d_X11_playElement_46 : decode (mB M_X11_playElement) 46 = .ok (.iload 5, 2) := by decide +kernel
theorem d_X11_playElement_48 : decode (mB M_X11_playElement) 48 = .ok (.iload_n 3, 1) := by decide +kernel
theorem d_X11_playElement_49 : decode (mB M_X11_playElement) 49 = .ok (.invokevirtual 280, 3) := by decide +kernel
theorem d_X11_playElement_52 : decode (mB M_X11_playElement) 52 = .ok (.invokevirtual 284, 3) := by decide +kernel
theorem d_X11_playElement_55 : decode (mB M_X11_playElement) 55 = .ok (.iconst 0, 1) := by decide +kernel
theorem d_X11_playElement_56 : decode (mB M_X11_playElement) 56 = .ok (.ireturn, 1) := by decide +kernel
theorem d_X11_playElement_57 : decode (mB M_X11_playElement) 57 = .ok (.aload_n 0, 1) := by decide +kernel
theorem d_X11_playElement_58 : decode (mB M_X11_playElement) 58 = .ok (.getfield 26, 3) := by decide +kernel
theorem d_X11_playElement_61 : decode (mB M_X11_playElement) 61 = .ok (.iload_n 3, 1) := by decide +kernel
theorem d_X11_playElement_62 : decode (mB M_X11_playElement) 62 = .ok (.invokevirtual 296, 3) := by decide +kernel
theorem d_X11_playElement_65 : decode (mB M_X11_playElement) 65 = .ok (.pop, 1) := by decide +kernel
theorem d_X11_playElement_66 : decode (mB M_X11_playElement) 66 = .ok (.iinc 4 1, 3) := by decide +kernel
theorem d_X11_playElement_69 : decode (mB M_X11_playElement) 69 = .ok (.goto (-61), 3) := by decide +kernel
theorem d_X11_playElement_72 : decode (mB M_X11_playElement) 72 = .ok (.iconst 1, 1) := by decide +kernel
theorem d_X11_playElement_73 : decode (mB M_X11_playElement) 73 = .ok (.ireturn, 1) := by decide +kernel
theorem l_playE {E : mEnv} (hE : E.1.stackTraces = false) (m : List mE) (cd : Int32) (N : Nat) (hN : N < 2 ^ 31) : ∀ (n : Nat) (k : Nat) (t : cT), k + n = N → Go E M_X11_playElement 0 (8, [some (.ref 100), some (.int cd), some (.int (nI N)), some (.int (cd &&& 3)), some (.int (nI k)), none], [], (m, cw t)) (.inr (.inl (some (.int (bI (peL (cd &&& 3) (decide (4 ≤ cd)) n t).1)), (m, cw (peL (cd &&& 3) (decide (4 ≤ cd)) n t).2)))) := by
  intro n
  induction n with
  | zero =>
    intro k t hk
    obtain rfl : k = N := by omega
    refine g_iload d_X11_playElement_8 rfl ?_
    refine g_iload_n d_X11_playElement_10 rfl ?_
    refine g_icmp_ge (tgt := 72) d_X11_playElement_11 (by decide) (fun c_11 => ?_) (fun c_11 => absurd c_11 (absurd (nI_le (Nat.le_refl k) hN) c_11))
    refine g_iconst (v := 1) d_X11_playElement_72 (by decide) ?_
    exact g_retZ d_X11_playElement_73 rfl (by decide) (rfl) (rfl)
  | succ n ih =>
    intro k t hk
    refine g_iload d_X11_playElement_8 rfl ?_
    refine g_iload_n d_X11_playElement_10 rfl ?_
    refine g_icmp_ge (tgt := 72) d_X11_playElement_11 (by decide) (fun c_11 => absurd c_11 (nI_ge (a := k) (b := N) (by omega) hN)) (fun c_11 => ?_)
    refine g_aload_n d_X11_playElement_14 rfl ?_
    refine g_getf d_X11_playElement_15 f_X11_26 rfl rfl ?_
    refine g_getf d_X11_playElement_18 f_X11_158 rfl rfl ?_
    refine g_iload_n d_X11_playElement_21 rfl ?_
    refine g_iload_n d_X11_playElement_22 rfl ?_
    refine g_callS (As := [.int cd]) d_X11_playElement_23 o_X11_isPushCode l_X11_435 ⟨Nat.le_of_ble_eq_true rfl, Nat.le_of_ble_eq_true rfl⟩ (c_isPushCode hE cd _) rfl rfl ?_ (Nat.zero_add _)
    refine g_callV (As := [.int (cd &&& 3), .int (bI (decide (4 ≤ cd)))]) d_X11_playElement_26 o_X6_letterReason l_X11_438 ⟨Nat.le_of_ble_eq_true rfl, Nat.le_of_ble_eq_true rfl⟩ (c_letterReason hE 106 105 (qG (tG t)) (qN (tG t)).1 (qN (tG t)).2 _ rfl rfl (cd &&& 3) (decide (4 ≤ cd))) rfl rfl rfl rfl rfl rfl ?_ (Nat.zero_add _)
    refine g_istore (L' := [some (.ref 100), some (.int cd), some (.int (nI N)), some (.int (cd &&& 3)), some (.int (nI k)), some (.int (pLr (qG (tG t)) (qN (tG t)).1 (qN (tG t)).2 (cd &&& 3) (decide (4 ≤ cd))))]) d_X11_playElement_29 rfl rfl ?_
    refine g_iload d_X11_playElement_31 rfl ?_
    refine g_if_eq (tgt := 57) d_X11_playElement_33 (by decide) (fun c_33 => ?_) (fun c_33 => ?_)
    · refine g_aload_n d_X11_playElement_57 rfl ?_
      refine g_getf d_X11_playElement_58 f_X11_26 rfl rfl ?_
      refine g_iload_n d_X11_playElement_61 rfl ?_
      refine g_callV (As := [.int (cd &&& 3)]) d_X11_playElement_62 o_X0_makeStep l_X11_296 ⟨Nat.le_of_ble_eq_true rfl, Nat.le_of_ble_eq_true rfl⟩ (c_makeStep hE m t (cd &&& 3)) rfl rfl rfl rfl rfl rfl ?_ (Nat.zero_add _)
      refine g_pop d_X11_playElement_65 rfl ?_
      refine g_iinc (v := ((nI k) + 1)) (L' := [some (.ref 100), some (.int cd), some (.int (nI N)), some (.int (cd &&& 3)), some (.int ((nI k) + 1)), some (.int (pLr (qG (tG t)) (qN (tG t)).1 (qN (tG t)).2 (cd &&& 3) (decide (4 ≤ cd))))]) d_X11_playElement_66 rfl rfl rfl ?_
      refine g_goto (tgt := 8) d_X11_playElement_69 (by decide) ?_
      refine g_drop [5] (L1 := [some (.ref 100), some (.int cd), some (.int (nI N)), some (.int (cd &&& 3)), some (.int ((nI k) + 1)), none]) rfl ?_
      refine g_eq (S' := (8, [some (.ref 100), some (.int cd), some (.int (nI N)), some (.int (cd &&& 3)), some (.int (nI (k + 1))), none], [], (m, cw (wG t (mkQ (tG t) (cd &&& 3)))))) (by first | rfl | (rw [nI_1]; rfl) | (simp only [nI_1]; rfl) | simp only [nI_1]) ?_
      rw [show peL (cd &&& 3) (decide (4 ≤ cd)) (n + 1) t = peL (cd &&& 3) (decide (4 ≤ cd)) n (wG t (mkQ (tG t) (cd &&& 3))) by simp only [peL, eq_true c_33, ↓reduceIte]]
      exact ih (k + 1) _ (by omega)
    · refine g_aload_n d_X11_playElement_36 rfl ?_
      refine g_iload d_X11_playElement_37 rfl ?_
      refine g_aload_n d_X11_playElement_39 rfl ?_
      refine g_getf d_X11_playElement_40 f_X11_26 rfl rfl ?_
      refine g_getf d_X11_playElement_43 f_X11_158 rfl rfl ?_
      refine g_iload d_X11_playElement_46 rfl ?_
      refine g_iload_n d_X11_playElement_48 rfl ?_
      refine g_callV (As := [.int (pLr (qG (tG t)) (qN (tG t)).1 (qN (tG t)).2 (cd &&& 3) (decide (4 ≤ cd))), .int (cd &&& 3)]) d_X11_playElement_49 o_X6_stepDetail l_X11_280 ⟨Nat.le_of_ble_eq_true rfl, Nat.le_of_ble_eq_true rfl⟩ (c_stepDetail hE 106 105 (qG (tG t)) (qN (tG t)).1 (qN (tG t)).2 _ rfl rfl (pLr (qG (tG t)) (qN (tG t)).1 (qN (tG t)).2 (cd &&& 3) (decide (4 ≤ cd))) (cd &&& 3)) rfl rfl rfl rfl rfl rfl ?_ (Nat.zero_add _)
      refine g_callV (As := [.int (pLr (qG (tG t)) (qN (tG t)).1 (qN (tG t)).2 (cd &&& 3) (decide (4 ≤ cd))), .int (pSd (qG (tG t)) (qN (tG t)).2 (pLr (qG (tG t)) (qN (tG t)).1 (qN (tG t)).2 (cd &&& 3) (decide (4 ≤ cd))) (cd &&& 3))]) d_X11_playElement_52 o_X11_keepRefusal l_X11_284 ⟨Nat.le_of_ble_eq_true rfl, Nat.le_of_ble_eq_true rfl⟩ (c_keepRefusal hE m t (pLr (qG (tG t)) (qN (tG t)).1 (qN (tG t)).2 (cd &&& 3) (decide (4 ≤ cd))) (pSd (qG (tG t)) (qN (tG t)).2 (pLr (qG (tG t)) (qN (tG t)).1 (qN (tG t)).2 (cd &&& 3) (decide (4 ≤ cd))) (cd &&& 3))) rfl rfl rfl rfl rfl rfl ?_ (Nat.zero_add _)
      refine g_iconst (v := 0) d_X11_playElement_55 (by decide) ?_
      exact g_retZ d_X11_playElement_56 rfl (by decide) (by simp only [peL, eq_false c_33, ↓reduceIte]; try rfl) (by simp only [peL, eq_false c_33, ↓reduceIte]; try rfl)
theorem c_playElement {E : mEnv} (hE : E.1.stackTraces = false) (m : List mE) (t : cT) (cd : Int32) (N : Nat) (hN : N < 2 ^ 31) : Rt E M_X11_playElement 0 [.ref 100, .int cd, .int ((nI N))] ((m, cw t)) (some (.int (bI (peL (cd &&& 3) (decide (4 ≤ cd)) N t).1))) ((m, cw (peL (cd &&& 3) (decide (4 ≤ cd)) N t).2)) := by
  refine Rt.of hE rfl pn_X11 (Nat.le_of_ble_eq_true rfl) ?_
  refine g_eq (S' := (0, [some (.ref 100), some (.int cd), some (.int (nI N)), none, none, none], [], (m, cw t))) rfl ?_
  refine g_iload_n d_X11_playElement_0 rfl ?_
  refine g_callS (As := [.int cd]) d_X11_playElement_1 o_X11_directionOf l_X11_432 ⟨Nat.le_of_ble_eq_true rfl, Nat.le_of_ble_eq_true rfl⟩ (c_directionOf hE cd _) rfl rfl ?_ (Nat.zero_add _)
  refine g_istore_n (L' := [some (.ref 100), some (.int cd), some (.int (nI N)), some (.int (cd &&& 3)), none, none]) d_X11_playElement_4 rfl rfl ?_
  refine g_iconst (v := 0) d_X11_playElement_5 (by decide) ?_
  refine g_istore (L' := [some (.ref 100), some (.int cd), some (.int (nI N)), some (.int (cd &&& 3)), some (.int 0), none]) d_X11_playElement_6 rfl rfl ?_
  refine g_eq (S' := (8, [some (.ref 100), some (.int cd), some (.int (nI N)), some (.int (cd &&& 3)), some (.int (nI 0)), none], [], (m, cw t))) (rfl) ?_
  exact l_playE hE m cd N hN N 0 t (by omega)
def mxF (x : Int32) : Int32 := if x < 1 then 1 else x
theorem mxF_pos (x : Int32) : ¬ mxF x < 0 := by
  unfold mxF
  split
  · decide
  · rename_i h
    intro h2
    exact h (Int32.lt_trans h2 (by decide))
def plC (t : cT) (k : Nat) : Int32 := sIx LET (iAt (tI t).1 (nI k))
def plP (t : cT) (k : Nat) (x : Int32) : Bool × cT := peL (plC t k &&& 3) (decide (4 ≤ plC t k)) (mxF x).toNatClampNeg t
def plL : Nat → Nat → Int32 → cT → Bool × cT
  | 0, _, _, t => (true, t)
  | n + 1, k, x, t => if 0 ≤ plC t k then (if (plP t k x).1 = true then plL n (k + 1) 0 (plP t k x).2 else (false, (plP t k x).2)) else plL n (k + 1) (x * 10 + (iAt (tI t).1 (nI k) - 48)) t
theorem d_X11_playElements_0 : decode (mB M_X11_playElements) 0 = .ok (.iconst 0, 1) := by decide +kernel
theorem d_X11_playElements_1 : decode (mB M_X11_playElements) 1 = .ok (.istore_n 2, 1) := by decide +kernel
theorem d_X11_playElements_2 : decode (mB M_X11_playElements) 2 = .ok (.iconst 0, 1) := by decide +kernel
theorem d_X11_playElements_3 : decode (mB M_X11_playElements) 3 = .ok (.istore_n 3, 1) := by decide +kernel
theorem d_X11_playElements_4 : decode (mB M_X11_playElements) 4 = .ok (.iload_n 3, 1) := by decide +kernel
theorem d_X11_playElements_5 : decode (mB M_X11_playElements) 5 = .ok (.iload_n 1, 1) := by decide +kernel
theorem d_X11_playElements_6 : decode (mB M_X11_playElements) 6 = .ok (.if_icmp .ge 66, 3) := by decide +kernel
theorem d_X11_playElements_9 : decode (mB M_X11_playElements) 9 = .ok (.aload_n 0, 1) := by decide +kernel
theorem d_X11_playElements_10 : decode (mB M_X11_playElements) 10 = .ok (.getfield 10, 3) := by decide +kernel
theorem d_X11_playElements_13 : decode (mB M_X11_playElements) 13 = .ok (.iload_n 3, 1) := by decide +kernel
theorem d_X11_playElements_14 : decode (mB M_X11_playElements) 14 = .ok (.invokevirtual 414, 3) := by decide +kernel
theorem d_X11_playElements_17 : decode (mB M_X11_playElements) 17 = .ok (.istore 4, 2) := by decide +kernel
theorem d_X11_playElements_19 : decode (mB M_X11_playElements) 19 = .ok (.ldc_w 417, 3) := by decide +kernel
theorem d_X11_playElements_22 : decode (mB M_X11_playElements) 22 = .ok (.iload 4, 2) := by decide +kernel
theorem d_X11_playElements_24 : decode (mB M_X11_playElements) 24 = .ok (.invokevirtual 419, 3) := by decide +kernel
theorem d_X11_playElements_27 : decode (mB M_X11_playElements) 27 = .ok (.istore 5, 2) := by decide +kernel
theorem d_X11_playElements_29 : decode (mB M_X11_playElements) 29 = .ok (.iload 5, 2) := by decide +kernel
theorem d_X11_playElements_31 : decode (mB M_X11_playElements) 31 = .ok (.ifCond .ge 17, 3) := by decide +kernel
theorem d_X11_playElements_34 : decode (mB M_X11_playElements) 34 = .ok (.iload_n 2, 1) := by decide +kernel
theorem d_X11_playElements_35 : decode (mB M_X11_playElements) 35 = .ok (.bipush 10, 2) := by decide +kernel
theorem d_X11_playElements_37 : decode (mB M_X11_playElements) 37 = .ok (.imul, 1) := by decide +kernel
theorem d_X11_playElements_38 : decode (mB M_X11_playElements) 38 = .ok (.iload 4, 2) := by decide +kernel
theorem d_X11_playElements_40 : decode (mB M_X11_playElements) 40 = .ok (.bipush 48, 2) := by decide +kernel
theorem d_X11_playElements_42 : decode (mB M_X11_playElements) 42 = .ok (.isub, 1) := by decide +kernel
theorem d_X11_playElements_43 : decode (mB M_X11_playElements) 43 = .ok (.iadd, 1) := by decide +kernel
theorem d_X11_playElements_44 : decode (mB M_X11_playElements) 44 = .ok (.istore_n 2, 1) := by decide +kernel
theorem d_X11_playElements_45 : decode (mB M_X11_playElements) 45 = .ok (.goto 21, 3) := by decide +kernel
theorem d_X11_playElements_48 : decode (mB M_X11_playElements) 48 = .ok (.aload_n 0, 1) := by decide +kernel
theorem d_X11_playElements_49 : decode (mB M_X11_playElements) 49 = .ok (.iload 5, 2) := by decide +kernel
theorem d_X11_playElements_51 : decode (mB M_X11_playElements) 51 = .ok (.iload_n 2, 1) := by decide +kernel
theorem d_X11_playElements_52 : decode (mB M_X11_playElements) 52 = .ok (.iconst 1, 1) := by decide +kernel
theorem d_X11_playElements_53 : decode (mB M_X11_playElements) 53 = .ok (.invokestatic 424, 3) := by decide +kernel
theorem d_X11_playElements_56 : decode (mB M_X11_playElements) 56 = .ok (.invokevirtual 429, 3) := by decide +kernel
theorem d_X11_playElements_59 : decode (mB M_X11_playElements) 59 = .ok (.ifCond .ne 5, 3) := by decide +kernel
theorem d_X11_playElements_62 : decode (mB M_X11_playElements) 62 = .ok (.iconst 0, 1) := by decide +kernel
theorem d_X11_playElements_63 : decode (mB M_X11_playElements) 63 = .ok (.ireturn, 1) := by decide +kernel
theorem d_X11_playElements_64 : decode (mB M_X11_playElements) 64 = .ok (.iconst 0, 1) := by decide +kernel
theorem d_X11_playElements_65 : decode (mB M_X11_playElements) 65 = .ok (.istore_n 2, 1) := by decide +kernel
theorem d_X11_playElements_66 : decode (mB M_X11_playElements) 66 = .ok (.iinc 3 1, 3) := by decide +kernel
theorem d_X11_playElements_69 : decode (mB M_X11_playElements) 69 = .ok (.goto (-65), 3) := by decide +kernel
theorem d_X11_playElements_72 : decode (mB M_X11_playElements) 72 = .ok (.iconst 1, 1) := by decide +kernel
theorem d_X11_playElements_73 : decode (mB M_X11_playElements) 73 = .ok (.ireturn, 1) := by decide +kernel
theorem l_playEs {E : mEnv} (hE : E.1.stackTraces = false) (m : List mE) (N : Nat) (hN : N < 2 ^ 31) : ∀ (n : Nat) (k : Nat) (x : Int32) (t : cT), chOk (tI t).1 → k + n = N → Go E M_X11_playElements 0 (4, [some (.ref 100), some (.int (nI N)), some (.int x), some (.int (nI k)), none, none], [], (m, cw t)) (.inr (.inl (some (.int (bI (plL n k x t).1)), (m, cw (plL n k x t).2)))) := by
  intro n
  induction n with
  | zero =>
    intro k x t hch hk
    obtain rfl : k = N := by omega
    refine g_iload_n d_X11_playElements_4 rfl ?_
    refine g_iload_n d_X11_playElements_5 rfl ?_
    refine g_icmp_ge (tgt := 72) d_X11_playElements_6 (by decide) (fun c_6 => ?_) (fun c_6 => absurd c_6 (absurd (nI_le (Nat.le_refl k) hN) c_6))
    refine g_iconst (v := 1) d_X11_playElements_72 (by decide) ?_
    exact g_retZ d_X11_playElements_73 rfl (by decide) (rfl) (rfl)
  | succ n ih =>
    intro k x t hch hk
    refine g_iload_n d_X11_playElements_4 rfl ?_
    refine g_iload_n d_X11_playElements_5 rfl ?_
    refine g_icmp_ge (tgt := 72) d_X11_playElements_6 (by decide) (fun c_6 => absurd c_6 (nI_ge (a := k) (b := N) (by omega) hN)) (fun c_6 => ?_)
    refine g_aload_n d_X11_playElements_9 rfl ?_
    refine g_getf d_X11_playElements_10 f_X11_10 rfl rfl ?_
    refine g_iload_n d_X11_playElements_13 rfl ?_
    refine g_callV (As := [.int (nI k)]) d_X11_playElements_14 o_X10_at l_X11_414 ⟨Nat.le_of_ble_eq_true rfl, Nat.le_of_ble_eq_true rfl⟩ (c_iat hE m t (nI k) hch) rfl rfl rfl rfl rfl rfl ?_ (Nat.zero_add _)
    refine g_istore (L' := [some (.ref 100), some (.int (nI N)), some (.int x), some (.int (nI k)), some (.int (iAt (tI t).1 (nI k))), none]) d_X11_playElements_17 rfl rfl ?_
    refine g_ldcSW (j := 2) d_X11_playElements_19 (List.mem_of_getElem? (i := 2) rfl) (List.mem_of_getElem? (i := 21) rfl) ?_
    refine g_iload d_X11_playElements_22 rfl ?_
    refine g_callVs (As := [.int (iAt (tI t).1 (nI k))]) (r := 1002) d_X11_playElements_24 o_J0_indexOf_0f7a4 l_X11_419 ⟨Nat.le_of_ble_eq_true rfl, Nat.le_of_ble_eq_true rfl⟩ (c_indexOf hE _ (List.mem_of_getElem? (i := 2) rfl) _ (iAt (tI t).1 (nI k)) (by decide)) (List.mem_of_getElem? (i := 2) rfl) rfl rfl rfl rfl rfl ?_ (Nat.zero_add _)
    refine g_eq (S' := (27, [some (.ref 100), some (.int (nI N)), some (.int x), some (.int (nI k)), some (.int (iAt (tI t).1 (nI k))), none], [.int (plC t k)], (m, cw t))) rfl ?_
    refine g_istore (L' := [some (.ref 100), some (.int (nI N)), some (.int x), some (.int (nI k)), some (.int (iAt (tI t).1 (nI k))), some (.int (plC t k))]) d_X11_playElements_27 rfl rfl ?_
    refine g_iload d_X11_playElements_29 rfl ?_
    refine g_if_ge (tgt := 48) d_X11_playElements_31 (by decide) (fun c_31 => ?_) (fun c_31 => ?_)
    · refine g_aload_n d_X11_playElements_48 rfl ?_
      refine g_iload d_X11_playElements_49 rfl ?_
      refine g_iload_n d_X11_playElements_51 rfl ?_
      refine g_iconst (v := 1) d_X11_playElements_52 (by decide) ?_
      refine g_mmax d_X11_playElements_53 ml_X11_424 ms_max mi_math mc_max (Nat.le_of_ble_eq_true rfl) (Nat.le_of_ble_eq_true rfl) rfl ?_
      refine g_eq (S' := (56, [some (.ref 100), some (.int (nI N)), some (.int x), some (.int (nI k)), some (.int (iAt (tI t).1 (nI k))), some (.int (plC t k))], [.int (nI (mxF x).toNatClampNeg), .int (plC t k), .ref 100], (m, cw t))) (by rw [← nI_cl (mxF_pos x)]; rfl) ?_
      refine g_callV (As := [.int (plC t k), .int (nI (mxF x).toNatClampNeg)]) d_X11_playElements_56 o_X11_playElement l_X11_429 ⟨Nat.le_of_ble_eq_true rfl, Nat.le_of_ble_eq_true rfl⟩ (c_playElement hE m t (plC t k) (mxF x).toNatClampNeg (Int32.toNatClampNeg_lt _)) rfl rfl rfl rfl rfl rfl ?_ (Nat.zero_add _)
      refine g_ifb_ne (tgt := 64) d_X11_playElements_59 (by decide) (fun c_59 => ?_) (fun c_59 => ?_)
      · refine g_iconst (v := 0) d_X11_playElements_64 (by decide) ?_
        refine g_istore_n (L' := [some (.ref 100), some (.int (nI N)), some (.int 0), some (.int (nI k)), some (.int (iAt (tI t).1 (nI k))), some (.int (plC t k))]) d_X11_playElements_65 rfl rfl ?_
        refine g_iinc (v := ((nI k) + 1)) (L' := [some (.ref 100), some (.int (nI N)), some (.int 0), some (.int ((nI k) + 1)), some (.int (iAt (tI t).1 (nI k))), some (.int (plC t k))]) d_X11_playElements_66 rfl rfl rfl ?_
        refine g_goto (tgt := 4) d_X11_playElements_69 (by decide) ?_
        refine g_drop [4, 5] (L1 := [some (.ref 100), some (.int (nI N)), some (.int 0), some (.int ((nI k) + 1)), none, none]) rfl ?_
        refine g_eq (S' := (4, [some (.ref 100), some (.int (nI N)), some (.int 0), some (.int (nI (k + 1))), none, none], [], (m, cw (plP t k x).2))) (by first | rfl | (rw [nI_1]; rfl) | (simp only [nI_1]; rfl) | simp only [nI_1]) ?_
        rw [show plL (n + 1) k x t = plL n (k + 1) 0 (plP t k x).2 by simp only [plL, eq_true c_31, (show (plP t k x).1 = true from c_59), ↓reduceIte, Bool.false_eq_true, Bool.true_eq_false, not_true_eq_false, not_false_eq_true]]
        exact ih (k + 1) _ _ (by show chOk (tI (plP t k x).2).1; unfold plP; rw [peL_tI]; exact hch) (by omega)
      · refine g_iconst (v := 0) d_X11_playElements_62 (by decide) ?_
        exact g_retZ d_X11_playElements_63 rfl (by decide) (by simp only [plL, eq_true c_31, (show (plP t k x).1 = false from c_59), ↓reduceIte, Bool.false_eq_true, Bool.true_eq_false, not_true_eq_false, not_false_eq_true]; try rfl) (by simp only [plL, eq_true c_31, (show (plP t k x).1 = false from c_59), ↓reduceIte, Bool.false_eq_true, Bool.true_eq_false, not_true_eq_false, not_false_eq_true]; try rfl)
    · refine g_iload_n d_X11_playElements_34 rfl ?_
      refine g_bipush (v := 10) d_X11_playElements_35 (by decide) ?_
      refine g_imul d_X11_playElements_37 ?_
      refine g_iload d_X11_playElements_38 rfl ?_
      refine g_bipush (v := 48) d_X11_playElements_40 (by decide) ?_
      refine g_isub d_X11_playElements_42 ?_
      refine g_iadd d_X11_playElements_43 ?_
      refine g_istore_n (L' := [some (.ref 100), some (.int (nI N)), some (.int ((x * 10) + ((iAt (tI t).1 (nI k)) - 48))), some (.int (nI k)), some (.int (iAt (tI t).1 (nI k))), some (.int (plC t k))]) d_X11_playElements_44 rfl rfl ?_
      refine g_goto (tgt := 66) d_X11_playElements_45 (by decide) ?_
      refine g_iinc (v := ((nI k) + 1)) (L' := [some (.ref 100), some (.int (nI N)), some (.int ((x * 10) + ((iAt (tI t).1 (nI k)) - 48))), some (.int ((nI k) + 1)), some (.int (iAt (tI t).1 (nI k))), some (.int (plC t k))]) d_X11_playElements_66 rfl rfl rfl ?_
      refine g_goto (tgt := 4) d_X11_playElements_69 (by decide) ?_
      refine g_drop [4, 5] (L1 := [some (.ref 100), some (.int (nI N)), some (.int ((x * 10) + ((iAt (tI t).1 (nI k)) - 48))), some (.int ((nI k) + 1)), none, none]) rfl ?_
      refine g_eq (S' := (4, [some (.ref 100), some (.int (nI N)), some (.int (x * 10 + ((iAt (tI t).1 (nI k)) - 48))), some (.int (nI (k + 1))), none, none], [], (m, cw t))) (by first | rfl | (rw [nI_1]; rfl) | (simp only [nI_1]; rfl) | simp only [nI_1]) ?_
      rw [show plL (n + 1) k x t = plL n (k + 1) (x * 10 + ((iAt (tI t).1 (nI k)) - 48)) t by simp only [plL, eq_false c_31, ↓reduceIte, Bool.false_eq_true, Bool.true_eq_false, not_true_eq_false, not_false_eq_true]]
      exact ih (k + 1) _ _ hch (by omega)
theorem c_playEs {E : mEnv} (hE : E.1.stackTraces = false) (m : List mE) (t : cT) (N : Nat) (hN : N < 2 ^ 31) (hch : chOk (tI t).1) : Rt E M_X11_playElements 0 [.ref 100, .int ((nI N))] ((m, cw t)) (some (.int (bI (plL N 0 0 t).1))) ((m, cw (plL N 0 0 t).2)) := by
  refine Rt.of hE rfl pn_X11 (Nat.le_of_ble_eq_true rfl) ?_
  refine g_eq (S' := (0, [some (.ref 100), some (.int (nI N)), none, none, none, none], [], (m, cw t))) rfl ?_
  refine g_iconst (v := 0) d_X11_playElements_0 (by decide) ?_
  refine g_istore_n (L' := [some (.ref 100), some (.int (nI N)), some (.int 0), none, none, none]) d_X11_playElements_1 rfl rfl ?_
  refine g_iconst (v := 0) d_X11_playElements_2 (by decide) ?_
  refine g_istore_n (L' := [some (.ref 100), some (.int (nI N)), some (.int 0), some (.int 0), none, none]) d_X11_playElements_3 rfl rfl ?_
  refine g_eq (S' := (4, [some (.ref 100), some (.int (nI N)), some (.int 0), some (.int (nI 0)), none, none], [], (m, cw t))) (rfl) ?_
  exact l_playEs hE m N hN N 0 0 t hch (by omega)
def rfT (t : cT) (s : Int32) : cT := wK t ((tK t).1, (tK t).2.1, s)
def o_play (t : cT)  : mO :=
  if (decide (0 < gR (qG (tG (wI t ((tI t).1, 0)))))) = true then (if (fsL (tI (wI t ((tI t).1, 0))).1 (nI (tI t).2.toNatClampNeg) (tI t).2.toNatClampNeg 0 0) = (-1) then (if (plL (tI t).2.toNatClampNeg 0 0 (wH (wI t ((tI t).1, 0)) (hBeg (tH (wI t ((tI t).1, 0))) (tG (wI t ((tI t).1, 0)))))).1 = true then (if (qC (tG (plL (tI t).2.toNatClampNeg 0 0 (wH (wI t ((tI t).1, 0)) (hBeg (tH (wI t ((tI t).1, 0))) (tG (wI t ((tI t).1, 0)))))).2)) ≤ 400 then (.inl (some (.int ((qC (tG (wH (plL (tI t).2.toNatClampNeg 0 0 (wH (wI t ((tI t).1, 0)) (hBeg (tH (wI t ((tI t).1, 0))) (tG (wI t ((tI t).1, 0)))))).2 (cmtH (tH (plL (tI t).2.toNatClampNeg 0 0 (wH (wI t ((tI t).1, 0)) (hBeg (tH (wI t ((tI t).1, 0))) (tG (wI t ((tI t).1, 0)))))).2))))) - (qC (tG (wH (wI t ((tI t).1, 0)) (hBeg (tH (wI t ((tI t).1, 0))) (tG (wI t ((tI t).1, 0))))))))), (wH (plL (tI t).2.toNatClampNeg 0 0 (wH (wI t ((tI t).1, 0)) (hBeg (tH (wI t ((tI t).1, 0))) (tG (wI t ((tI t).1, 0)))))).2 (cmtH (tH (plL (tI t).2.toNatClampNeg 0 0 (wH (wI t ((tI t).1, 0)) (hBeg (tH (wI t ((tI t).1, 0))) (tG (wI t ((tI t).1, 0)))))).2))))) else
        .inr (xAE, (wG (plL (tI t).2.toNatClampNeg 0 0 (wH (wI t ((tI t).1, 0)) (hBeg (tH (wI t ((tI t).1, 0))) (tG (wI t ((tI t).1, 0)))))).2 (rollQ (tH (plL (tI t).2.toNatClampNeg 0 0 (wH (wI t ((tI t).1, 0)) (hBeg (tH (wI t ((tI t).1, 0))) (tG (wI t ((tI t).1, 0)))))).2) (tG (plL (tI t).2.toNatClampNeg 0 0 (wH (wI t ((tI t).1, 0)) (hBeg (tH (wI t ((tI t).1, 0))) (tG (wI t ((tI t).1, 0)))))).2))))) else
      .inr (xUOE, (wG (rfT (plL (tI t).2.toNatClampNeg 0 0 (wH (wI t ((tI t).1, 0)) (hBeg (tH (wI t ((tI t).1, 0))) (tG (wI t ((tI t).1, 0)))))).2 (qC (tG (plL (tI t).2.toNatClampNeg 0 0 (wH (wI t ((tI t).1, 0)) (hBeg (tH (wI t ((tI t).1, 0))) (tG (wI t ((tI t).1, 0)))))).2) - (qC (tG (wH (wI t ((tI t).1, 0)) (hBeg (tH (wI t ((tI t).1, 0))) (tG (wI t ((tI t).1, 0))))))))) (rollQ (tH (rfT (plL (tI t).2.toNatClampNeg 0 0 (wH (wI t ((tI t).1, 0)) (hBeg (tH (wI t ((tI t).1, 0))) (tG (wI t ((tI t).1, 0)))))).2 (qC (tG (plL (tI t).2.toNatClampNeg 0 0 (wH (wI t ((tI t).1, 0)) (hBeg (tH (wI t ((tI t).1, 0))) (tG (wI t ((tI t).1, 0)))))).2) - (qC (tG (wH (wI t ((tI t).1, 0)) (hBeg (tH (wI t ((tI t).1, 0))) (tG (wI t ((tI t).1, 0)))))))))) (tG (rfT (plL (tI t).2.toNatClampNeg 0 0 (wH (wI t ((tI t).1, 0)) (hBeg (tH (wI t ((tI t).1, 0))) (tG (wI t ((tI t).1, 0)))))).2 (qC (tG (plL (tI t).2.toNatClampNeg 0 0 (wH (wI t ((tI t).1, 0)) (hBeg (tH (wI t ((tI t).1, 0))) (tG (wI t ((tI t).1, 0)))))).2) - (qC (tG (wH (wI t ((tI t).1, 0)) (hBeg (tH (wI t ((tI t).1, 0))) (tG (wI t ((tI t).1, 0)))))))))))))) else
    .inl (some (.int ((-100) - (fsL (tI (wI t ((tI t).1, 0))).1 (nI (tI t).2.toNatClampNeg) (tI t).2.toNatClampNeg 0 0))), (wI t ((tI t).1, 0)))) else
  .inr (xISE, (wI t ((tI t).1, 0)))
theorem d_X11_play_0 : decode (mB M_X11_play) 0 = .ok (.aload_n 0, 1) := by decide +kernel
theorem d_X11_play_1 : decode (mB M_X11_play) 1 = .ok (.getfield 10, 3) := by decide +kernel
theorem d_X11_play_4 : decode (mB M_X11_play) 4 = .ok (.invokevirtual 103, 3) := by decide +kernel
theorem d_X11_play_7 : decode (mB M_X11_play) 7 = .ok (.istore_n 1, 1) := by decide +kernel
theorem d_X11_play_8 : decode (mB M_X11_play) 8 = .ok (.aload_n 0, 1) := by decide +kernel
theorem d_X11_play_9 : decode (mB M_X11_play) 9 = .ok (.invokevirtual 139, 3) := by decide +kernel
theorem d_X11_play_12 : decode (mB M_X11_play) 12 = .ok (.aload_n 0, 1) := by decide +kernel
theorem d_X11_play_13 : decode (mB M_X11_play) 13 = .ok (.getfield 10, 3) := by decide +kernel
theorem d_X11_play_16 : decode (mB M_X11_play) 16 = .ok (.iload_n 1, 1) := by decide +kernel
theorem d_X11_play_17 : decode (mB M_X11_play) 17 = .ok (.invokevirtual 315, 3) := by decide +kernel
theorem d_X11_play_20 : decode (mB M_X11_play) 20 = .ok (.istore_n 2, 1) := by decide +kernel
theorem d_X11_play_21 : decode (mB M_X11_play) 21 = .ok (.iload_n 2, 1) := by decide +kernel
theorem d_X11_play_22 : decode (mB M_X11_play) 22 = .ok (.iconst (-1), 1) := by decide +kernel
theorem d_X11_play_23 : decode (mB M_X11_play) 23 = .ok (.if_icmp .eq 8, 3) := by decide +kernel
theorem d_X11_play_26 : decode (mB M_X11_play) 26 = .ok (.bipush (-100), 2) := by decide +kernel
theorem d_X11_play_28 : decode (mB M_X11_play) 28 = .ok (.iload_n 2, 1) := by decide +kernel
theorem d_X11_play_29 : decode (mB M_X11_play) 29 = .ok (.isub, 1) := by decide +kernel
theorem d_X11_play_30 : decode (mB M_X11_play) 30 = .ok (.ireturn, 1) := by decide +kernel
theorem d_X11_play_31 : decode (mB M_X11_play) 31 = .ok (.aload_n 0, 1) := by decide +kernel
theorem d_X11_play_32 : decode (mB M_X11_play) 32 = .ok (.getfield 36, 3) := by decide +kernel
theorem d_X11_play_35 : decode (mB M_X11_play) 35 = .ok (.aload_n 0, 1) := by decide +kernel
theorem d_X11_play_36 : decode (mB M_X11_play) 36 = .ok (.getfield 26, 3) := by decide +kernel
theorem d_X11_play_39 : decode (mB M_X11_play) 39 = .ok (.invokevirtual 293, 3) := by decide +kernel
theorem d_X11_play_42 : decode (mB M_X11_play) 42 = .ok (.aload_n 0, 1) := by decide +kernel
theorem d_X11_play_43 : decode (mB M_X11_play) 43 = .ok (.getfield 26, 3) := by decide +kernel
theorem d_X11_play_46 : decode (mB M_X11_play) 46 = .ok (.getfield 195, 3) := by decide +kernel
theorem d_X11_play_49 : decode (mB M_X11_play) 49 = .ok (.istore_n 3, 1) := by decide +kernel
theorem d_X11_play_50 : decode (mB M_X11_play) 50 = .ok (.aload_n 0, 1) := by decide +kernel
theorem d_X11_play_51 : decode (mB M_X11_play) 51 = .ok (.iload_n 1, 1) := by decide +kernel
theorem d_X11_play_52 : decode (mB M_X11_play) 52 = .ok (.invokevirtual 318, 3) := by decide +kernel
theorem d_X11_play_55 : decode (mB M_X11_play) 55 = .ok (.ifCond .ne 38, 3) := by decide +kernel
theorem d_X11_play_58 : decode (mB M_X11_play) 58 = .ok (.aload_n 0, 1) := by decide +kernel
theorem d_X11_play_59 : decode (mB M_X11_play) 59 = .ok (.aload_n 0, 1) := by decide +kernel
theorem d_X11_play_60 : decode (mB M_X11_play) 60 = .ok (.getfield 26, 3) := by decide +kernel
theorem d_X11_play_63 : decode (mB M_X11_play) 63 = .ok (.getfield 195, 3) := by decide +kernel
theorem d_X11_play_66 : decode (mB M_X11_play) 66 = .ok (.iload_n 3, 1) := by decide +kernel
theorem d_X11_play_67 : decode (mB M_X11_play) 67 = .ok (.isub, 1) := by decide +kernel
theorem d_X11_play_68 : decode (mB M_X11_play) 68 = .ok (.putfield 81, 3) := by decide +kernel
theorem d_X11_play_71 : decode (mB M_X11_play) 71 = .ok (.aload_n 0, 1) := by decide +kernel
theorem d_X11_play_72 : decode (mB M_X11_play) 72 = .ok (.getfield 36, 3) := by decide +kernel
theorem d_X11_play_75 : decode (mB M_X11_play) 75 = .ok (.aload_n 0, 1) := by decide +kernel
theorem d_X11_play_76 : decode (mB M_X11_play) 76 = .ok (.getfield 26, 3) := by decide +kernel
theorem d_X11_play_79 : decode (mB M_X11_play) 79 = .ok (.invokevirtual 321, 3) := by decide +kernel
theorem d_X11_play_93 : decode (mB M_X11_play) 93 = .ok (.aload_n 0, 1) := by decide +kernel
theorem d_X11_play_94 : decode (mB M_X11_play) 94 = .ok (.invokevirtual 309, 3) := by decide +kernel
theorem d_X11_play_97 : decode (mB M_X11_play) 97 = .ok (.aload_n 0, 1) := by decide +kernel
theorem d_X11_play_98 : decode (mB M_X11_play) 98 = .ok (.getfield 26, 3) := by decide +kernel
theorem d_X11_play_101 : decode (mB M_X11_play) 101 = .ok (.getfield 195, 3) := by decide +kernel
theorem d_X11_play_104 : decode (mB M_X11_play) 104 = .ok (.iload_n 3, 1) := by decide +kernel
theorem d_X11_play_105 : decode (mB M_X11_play) 105 = .ok (.isub, 1) := by decide +kernel
theorem d_X11_play_106 : decode (mB M_X11_play) 106 = .ok (.ireturn, 1) := by decide +kernel
theorem c_play {E : mEnv} (hE : E.1.stackTraces = false) (m : List mE) (t : cT)  (hl : ¬ (tI t).2 < 0) (hch : chOk (tI t).1) : Rc E M_X11_play m [.ref 100] t (o_play t) := by
  refine Rc.of hE rfl pn_X11 (Nat.le_of_ble_eq_true rfl) ?_
  refine g_eq (S' := (0, [some (.ref 100), none, none, none], [], (m, cw t))) rfl ?_
  refine g_aload_n d_X11_play_0 rfl ?_
  refine g_getf d_X11_play_1 f_X11_10 rfl rfl ?_
  refine g_callV (As := []) d_X11_play_4 o_X10_take l_X11_103 ⟨Nat.le_of_ble_eq_true rfl, Nat.le_of_ble_eq_true rfl⟩ (c_take hE m t) rfl rfl rfl rfl rfl rfl ?_ (Nat.zero_add _)
  refine g_istore_n (L' := [some (.ref 100), some (.int ((tI t).2)), none, none]) d_X11_play_7 rfl rfl ?_
  refine g_eq (S' := (8, [some (.ref 100), some (.int (nI (tI t).2.toNatClampNeg)), none, none], [], (m, cw (wI t ((tI t).1, 0))))) (by rw [← nI_cl hl]; rfl) ?_
  refine g_aload_n d_X11_play_8 rfl ?_
  by_cases h_9_0 : (decide (0 < gR (qG (tG (wI t ((tI t).1, 0)))))) = true
  · have hc : Rt E M_X11_requireRoom 0 [.ref 100] (m, cw (wI t ((tI t).1, 0))) none (m, cw (wI t ((tI t).1, 0))) := by have hc := c_room hE m (wI t ((tI t).1, 0)); rw [show o_room (wI t ((tI t).1, 0)) = .inl (none, (wI t ((tI t).1, 0))) by simp only [o_room, eq_true h_9_0, ↓reduceIte, Bool.false_eq_true, Bool.true_eq_false, not_true_eq_false, not_false_eq_true]; try rfl] at hc; exact hc
    refine g_callV (As := []) d_X11_play_9 o_X11_requireRoom l_X11_139 ⟨Nat.le_of_ble_eq_true rfl, Nat.le_of_ble_eq_true rfl⟩ hc (rfl) rfl rfl rfl rfl rfl ?_ (Nat.zero_add _)
    refine g_aload_n d_X11_play_12 rfl ?_
    refine g_getf d_X11_play_13 f_X11_10 rfl rfl ?_
    refine g_iload_n d_X11_play_16 rfl ?_
    refine g_callV (As := [.int (nI (tI t).2.toNatClampNeg)]) d_X11_play_17 o_X10_faultAsSteps l_X11_315 ⟨Nat.le_of_ble_eq_true rfl, Nat.le_of_ble_eq_true rfl⟩ (c_fault hE m (wI t ((tI t).1, 0)) (tI t).2.toNatClampNeg (Int32.toNatClampNeg_lt _) hch) rfl rfl rfl rfl rfl rfl ?_ (Nat.zero_add _)
    refine g_istore_n (L' := [some (.ref 100), some (.int (nI (tI t).2.toNatClampNeg)), some (.int (fsL (tI (wI t ((tI t).1, 0))).1 (nI (tI t).2.toNatClampNeg) (tI t).2.toNatClampNeg 0 0)), none]) d_X11_play_20 rfl rfl ?_
    refine g_iload_n d_X11_play_21 rfl ?_
    refine g_iconst (v := (-1)) d_X11_play_22 (by decide) ?_
    refine g_icmp_eq (tgt := 31) d_X11_play_23 (by decide) (fun c_23 => ?_) (fun c_23 => ?_)
    · refine g_aload_n d_X11_play_31 rfl ?_
      refine g_getf d_X11_play_32 f_X11_36 rfl rfl ?_
      refine g_aload_n d_X11_play_35 rfl ?_
      refine g_getf d_X11_play_36 f_X11_26 rfl rfl ?_
      refine g_callV (As := [.ref 104]) d_X11_play_39 o_X3_begin l_X11_293 ⟨Nat.le_of_ble_eq_true rfl, Nat.le_of_ble_eq_true rfl⟩ (c_hbegin hE m (wI t ((tI t).1, 0))) rfl rfl rfl rfl rfl rfl ?_ (Nat.zero_add _)
      refine g_aload_n d_X11_play_42 rfl ?_
      refine g_getf d_X11_play_43 f_X11_26 rfl rfl ?_
      refine g_getf d_X11_play_46 f_X11_195 rfl rfl ?_
      refine g_istore_n (L' := [some (.ref 100), some (.int (nI (tI t).2.toNatClampNeg)), some (.int (fsL (tI (wI t ((tI t).1, 0))).1 (nI (tI t).2.toNatClampNeg) (tI t).2.toNatClampNeg 0 0)), some (.int (qC (tG (wH (wI t ((tI t).1, 0)) (hBeg (tH (wI t ((tI t).1, 0))) (tG (wI t ((tI t).1, 0))))))))]) d_X11_play_49 rfl rfl ?_
      refine g_aload_n d_X11_play_50 rfl ?_
      refine g_iload_n d_X11_play_51 rfl ?_
      refine g_callV (As := [.int (nI (tI t).2.toNatClampNeg)]) d_X11_play_52 o_X11_playElements l_X11_318 ⟨Nat.le_of_ble_eq_true rfl, Nat.le_of_ble_eq_true rfl⟩ (c_playEs hE m (wH (wI t ((tI t).1, 0)) (hBeg (tH (wI t ((tI t).1, 0))) (tG (wI t ((tI t).1, 0))))) (tI t).2.toNatClampNeg (Int32.toNatClampNeg_lt _) hch) rfl rfl rfl rfl rfl rfl ?_ (Nat.zero_add _)
      refine g_ifb_ne (tgt := 93) d_X11_play_55 (by decide) (fun c_55 => ?_) (fun c_55 => ?_)
      · refine g_aload_n d_X11_play_93 rfl ?_
        by_cases h_94_0 : (qC (tG (plL (tI t).2.toNatClampNeg 0 0 (wH (wI t ((tI t).1, 0)) (hBeg (tH (wI t ((tI t).1, 0))) (tG (wI t ((tI t).1, 0)))))).2)) ≤ 400
        · have hc : Rt E M_X11_commitOrThrow 0 [.ref 100] (m, cw (plL (tI t).2.toNatClampNeg 0 0 (wH (wI t ((tI t).1, 0)) (hBeg (tH (wI t ((tI t).1, 0))) (tG (wI t ((tI t).1, 0)))))).2) none (m, cw (wH (plL (tI t).2.toNatClampNeg 0 0 (wH (wI t ((tI t).1, 0)) (hBeg (tH (wI t ((tI t).1, 0))) (tG (wI t ((tI t).1, 0)))))).2 (cmtH (tH (plL (tI t).2.toNatClampNeg 0 0 (wH (wI t ((tI t).1, 0)) (hBeg (tH (wI t ((tI t).1, 0))) (tG (wI t ((tI t).1, 0)))))).2)))) := by have hc := c_commitOrThrow hE m (plL (tI t).2.toNatClampNeg 0 0 (wH (wI t ((tI t).1, 0)) (hBeg (tH (wI t ((tI t).1, 0))) (tG (wI t ((tI t).1, 0)))))).2; rw [show o_commitOrThrow (plL (tI t).2.toNatClampNeg 0 0 (wH (wI t ((tI t).1, 0)) (hBeg (tH (wI t ((tI t).1, 0))) (tG (wI t ((tI t).1, 0)))))).2 = .inl (none, (wH (plL (tI t).2.toNatClampNeg 0 0 (wH (wI t ((tI t).1, 0)) (hBeg (tH (wI t ((tI t).1, 0))) (tG (wI t ((tI t).1, 0)))))).2 (cmtH (tH (plL (tI t).2.toNatClampNeg 0 0 (wH (wI t ((tI t).1, 0)) (hBeg (tH (wI t ((tI t).1, 0))) (tG (wI t ((tI t).1, 0)))))).2)))) by simp only [o_commitOrThrow, eq_true h_94_0, ↓reduceIte, Bool.false_eq_true, Bool.true_eq_false, not_true_eq_false, not_false_eq_true]; try rfl] at hc; exact hc
          refine g_callV (As := []) d_X11_play_94 o_X11_commitOrThrow l_X11_309 ⟨Nat.le_of_ble_eq_true rfl, Nat.le_of_ble_eq_true rfl⟩ hc (rfl) rfl rfl rfl rfl rfl ?_ (Nat.zero_add _)
          refine g_aload_n d_X11_play_97 rfl ?_
          refine g_getf d_X11_play_98 f_X11_26 rfl rfl ?_
          refine g_getf d_X11_play_101 f_X11_195 rfl rfl ?_
          refine g_iload_n d_X11_play_104 rfl ?_
          refine g_isub d_X11_play_105 ?_
          rw [show o_play t = .inl (some (.int ((qC (tG (wH (plL (tI t).2.toNatClampNeg 0 0 (wH (wI t ((tI t).1, 0)) (hBeg (tH (wI t ((tI t).1, 0))) (tG (wI t ((tI t).1, 0)))))).2 (cmtH (tH (plL (tI t).2.toNatClampNeg 0 0 (wH (wI t ((tI t).1, 0)) (hBeg (tH (wI t ((tI t).1, 0))) (tG (wI t ((tI t).1, 0)))))).2))))) - (qC (tG (wH (wI t ((tI t).1, 0)) (hBeg (tH (wI t ((tI t).1, 0))) (tG (wI t ((tI t).1, 0))))))))), (wH (plL (tI t).2.toNatClampNeg 0 0 (wH (wI t ((tI t).1, 0)) (hBeg (tH (wI t ((tI t).1, 0))) (tG (wI t ((tI t).1, 0)))))).2 (cmtH (tH (plL (tI t).2.toNatClampNeg 0 0 (wH (wI t ((tI t).1, 0)) (hBeg (tH (wI t ((tI t).1, 0))) (tG (wI t ((tI t).1, 0)))))).2)))) by simp only [o_play, eq_true h_9_0, eq_true c_23, c_55, eq_true h_94_0, ↓reduceIte, Bool.false_eq_true, Bool.true_eq_false, not_true_eq_false, not_false_eq_true]; try rfl]
          exact g_retI d_X11_play_106 rfl (rfl) (rfl)
        rw [show o_play t = .inr (xAE, (wG (plL (tI t).2.toNatClampNeg 0 0 (wH (wI t ((tI t).1, 0)) (hBeg (tH (wI t ((tI t).1, 0))) (tG (wI t ((tI t).1, 0)))))).2 (rollQ (tH (plL (tI t).2.toNatClampNeg 0 0 (wH (wI t ((tI t).1, 0)) (hBeg (tH (wI t ((tI t).1, 0))) (tG (wI t ((tI t).1, 0)))))).2) (tG (plL (tI t).2.toNatClampNeg 0 0 (wH (wI t ((tI t).1, 0)) (hBeg (tH (wI t ((tI t).1, 0))) (tG (wI t ((tI t).1, 0)))))).2)))) by simp only [o_play, eq_true h_9_0, eq_true c_23, c_55, eq_false h_94_0, ↓reduceIte, Bool.false_eq_true, Bool.true_eq_false, not_true_eq_false, not_false_eq_true]; try rfl]
        have hc : Rx E M_X11_commitOrThrow [.ref 100] (m, cw (plL (tI t).2.toNatClampNeg 0 0 (wH (wI t ((tI t).1, 0)) (hBeg (tH (wI t ((tI t).1, 0))) (tG (wI t ((tI t).1, 0)))))).2) xAE (m, cw (wG (plL (tI t).2.toNatClampNeg 0 0 (wH (wI t ((tI t).1, 0)) (hBeg (tH (wI t ((tI t).1, 0))) (tG (wI t ((tI t).1, 0)))))).2 (rollQ (tH (plL (tI t).2.toNatClampNeg 0 0 (wH (wI t ((tI t).1, 0)) (hBeg (tH (wI t ((tI t).1, 0))) (tG (wI t ((tI t).1, 0)))))).2) (tG (plL (tI t).2.toNatClampNeg 0 0 (wH (wI t ((tI t).1, 0)) (hBeg (tH (wI t ((tI t).1, 0))) (tG (wI t ((tI t).1, 0)))))).2)))) := by have hc := c_commitOrThrow hE m (plL (tI t).2.toNatClampNeg 0 0 (wH (wI t ((tI t).1, 0)) (hBeg (tH (wI t ((tI t).1, 0))) (tG (wI t ((tI t).1, 0)))))).2; rw [show o_commitOrThrow (plL (tI t).2.toNatClampNeg 0 0 (wH (wI t ((tI t).1, 0)) (hBeg (tH (wI t ((tI t).1, 0))) (tG (wI t ((tI t).1, 0)))))).2 = .inr (xAE, (wG (plL (tI t).2.toNatClampNeg 0 0 (wH (wI t ((tI t).1, 0)) (hBeg (tH (wI t ((tI t).1, 0))) (tG (wI t ((tI t).1, 0)))))).2 (rollQ (tH (plL (tI t).2.toNatClampNeg 0 0 (wH (wI t ((tI t).1, 0)) (hBeg (tH (wI t ((tI t).1, 0))) (tG (wI t ((tI t).1, 0)))))).2) (tG (plL (tI t).2.toNatClampNeg 0 0 (wH (wI t ((tI t).1, 0)) (hBeg (tH (wI t ((tI t).1, 0))) (tG (wI t ((tI t).1, 0)))))).2)))) by simp only [o_commitOrThrow, eq_false h_94_0, ↓reduceIte, Bool.false_eq_true, Bool.true_eq_false, not_true_eq_false, not_false_eq_true]; try rfl] at hc; exact hc
        exact g_xcallV (As := []) d_X11_play_94 o_X11_commitOrThrow l_X11_309 ⟨Nat.le_of_ble_eq_true rfl, Nat.le_of_ble_eq_true rfl⟩ hc (rfl) rfl rfl rfl rfl
      · refine g_aload_n d_X11_play_58 rfl ?_
        refine g_aload_n d_X11_play_59 rfl ?_
        refine g_getf d_X11_play_60 f_X11_26 rfl rfl ?_
        refine g_getf d_X11_play_63 f_X11_195 rfl rfl ?_
        refine g_iload_n d_X11_play_66 rfl ?_
        refine g_isub d_X11_play_67 ?_
        refine g_putI (w' := (mset (m, cw (plL (tI t).2.toNatClampNeg 0 0 (wH (wI t ((tI t).1, 0)) (hBeg (tH (wI t ((tI t).1, 0))) (tG (wI t ((tI t).1, 0)))))).2) 100 (.inr (11, [.ref 101, .ref 103, .ref 104, .ref 112, .ref 120, .ref 124, .ref 127, .ref 130, .ref 136, .int (tK (plL (tI t).2.toNatClampNeg 0 0 (wH (wI t ((tI t).1, 0)) (hBeg (tH (wI t ((tI t).1, 0))) (tG (wI t ((tI t).1, 0)))))).2).1, .int (tK (plL (tI t).2.toNatClampNeg 0 0 (wH (wI t ((tI t).1, 0)) (hBeg (tH (wI t ((tI t).1, 0))) (tG (wI t ((tI t).1, 0)))))).2).2.1, .int ((qC (tG (plL (tI t).2.toNatClampNeg 0 0 (wH (wI t ((tI t).1, 0)) (hBeg (tH (wI t ((tI t).1, 0))) (tG (wI t ((tI t).1, 0)))))).2)) - (qC (tG (wH (wI t ((tI t).1, 0)) (hBeg (tH (wI t ((tI t).1, 0))) (tG (wI t ((tI t).1, 0))))))))])))) d_X11_play_68 p_X11_81 rfl rfl rfl (Nat.le_of_ble_eq_true rfl) (rfl) ?_
        refine g_eq (S' := (71, [some (.ref 100), some (.int (nI (tI t).2.toNatClampNeg)), some (.int (fsL (tI (wI t ((tI t).1, 0))).1 (nI (tI t).2.toNatClampNeg) (tI t).2.toNatClampNeg 0 0)), some (.int (qC (tG (wH (wI t ((tI t).1, 0)) (hBeg (tH (wI t ((tI t).1, 0))) (tG (wI t ((tI t).1, 0))))))))], [], (m, cw (rfT (plL (tI t).2.toNatClampNeg 0 0 (wH (wI t ((tI t).1, 0)) (hBeg (tH (wI t ((tI t).1, 0))) (tG (wI t ((tI t).1, 0)))))).2 (qC (tG (plL (tI t).2.toNatClampNeg 0 0 (wH (wI t ((tI t).1, 0)) (hBeg (tH (wI t ((tI t).1, 0))) (tG (wI t ((tI t).1, 0)))))).2) - (qC (tG (wH (wI t ((tI t).1, 0)) (hBeg (tH (wI t ((tI t).1, 0))) (tG (wI t ((tI t).1, 0)))))))))))) rfl ?_
        refine g_aload_n d_X11_play_71 rfl ?_
        refine g_getf d_X11_play_72 f_X11_36 rfl rfl ?_
        refine g_aload_n d_X11_play_75 rfl ?_
        refine g_getf d_X11_play_76 f_X11_26 rfl rfl ?_
        refine g_callV (As := [.ref 104]) d_X11_play_79 o_X3_rollBack l_X11_321 ⟨Nat.le_of_ble_eq_true rfl, Nat.le_of_ble_eq_true rfl⟩ (c_rollBack hE m (rfT (plL (tI t).2.toNatClampNeg 0 0 (wH (wI t ((tI t).1, 0)) (hBeg (tH (wI t ((tI t).1, 0))) (tG (wI t ((tI t).1, 0)))))).2 (qC (tG (plL (tI t).2.toNatClampNeg 0 0 (wH (wI t ((tI t).1, 0)) (hBeg (tH (wI t ((tI t).1, 0))) (tG (wI t ((tI t).1, 0)))))).2) - (qC (tG (wH (wI t ((tI t).1, 0)) (hBeg (tH (wI t ((tI t).1, 0))) (tG (wI t ((tI t).1, 0)))))))))) rfl rfl rfl rfl rfl rfl ?_ (Nat.zero_add _)
        rw [show o_play t = .inr (xUOE, (wG (rfT (plL (tI t).2.toNatClampNeg 0 0 (wH (wI t ((tI t).1, 0)) (hBeg (tH (wI t ((tI t).1, 0))) (tG (wI t ((tI t).1, 0)))))).2 (qC (tG (plL (tI t).2.toNatClampNeg 0 0 (wH (wI t ((tI t).1, 0)) (hBeg (tH (wI t ((tI t).1, 0))) (tG (wI t ((tI t).1, 0)))))).2) - (qC (tG (wH (wI t ((tI t).1, 0)) (hBeg (tH (wI t ((tI t).1, 0))) (tG (wI t ((tI t).1, 0))))))))) (rollQ (tH (rfT (plL (tI t).2.toNatClampNeg 0 0 (wH (wI t ((tI t).1, 0)) (hBeg (tH (wI t ((tI t).1, 0))) (tG (wI t ((tI t).1, 0)))))).2 (qC (tG (plL (tI t).2.toNatClampNeg 0 0 (wH (wI t ((tI t).1, 0)) (hBeg (tH (wI t ((tI t).1, 0))) (tG (wI t ((tI t).1, 0)))))).2) - (qC (tG (wH (wI t ((tI t).1, 0)) (hBeg (tH (wI t ((tI t).1, 0))) (tG (wI t ((tI t).1, 0)))))))))) (tG (rfT (plL (tI t).2.toNatClampNeg 0 0 (wH (wI t ((tI t).1, 0)) (hBeg (tH (wI t ((tI t).1, 0))) (tG (wI t ((tI t).1, 0)))))).2 (qC (tG (plL (tI t).2.toNatClampNeg 0 0 (wH (wI t ((tI t).1, 0)) (hBeg (tH (wI t ((tI t).1, 0))) (tG (wI t ((tI t).1, 0)))))).2) - (qC (tG (wH (wI t ((tI t).1, 0)) (hBeg (tH (wI t ((tI t).1, 0))) (tG (wI t ((tI t).1, 0))))))))))))) by simp only [o_play, eq_true h_9_0, eq_true c_23, c_55, ↓reduceIte, Bool.false_eq_true, Bool.true_eq_false, not_true_eq_false, not_false_eq_true]; try rfl]
        exact g_throw (n := 0) th_X11_play_82 rfl
    · refine g_bipush (v := (-100)) d_X11_play_26 (by decide) ?_
      refine g_iload_n d_X11_play_28 rfl ?_
      refine g_isub d_X11_play_29 ?_
      rw [show o_play t = .inl (some (.int ((-100) - (fsL (tI (wI t ((tI t).1, 0))).1 (nI (tI t).2.toNatClampNeg) (tI t).2.toNatClampNeg 0 0))), (wI t ((tI t).1, 0))) by simp only [o_play, eq_true h_9_0, eq_false c_23, ↓reduceIte, Bool.false_eq_true, Bool.true_eq_false, not_true_eq_false, not_false_eq_true]; try rfl]
      exact g_retI d_X11_play_30 rfl (rfl) (rfl)
  rw [show o_play t = .inr (xISE, (wI t ((tI t).1, 0))) by simp only [o_play, eq_false h_9_0, ↓reduceIte, Bool.false_eq_true, Bool.true_eq_false, not_true_eq_false, not_false_eq_true]; try rfl]
  have hc : Rx E M_X11_requireRoom [.ref 100] (m, cw (wI t ((tI t).1, 0))) xISE (m, cw (wI t ((tI t).1, 0))) := by have hc := c_room hE m (wI t ((tI t).1, 0)); rw [show o_room (wI t ((tI t).1, 0)) = .inr (xISE, (wI t ((tI t).1, 0))) by simp only [o_room, eq_false h_9_0, ↓reduceIte, Bool.false_eq_true, Bool.true_eq_false, not_true_eq_false, not_false_eq_true]; try rfl] at hc; exact hc
  exact g_xcallV (As := []) d_X11_play_9 o_X11_requireRoom l_X11_139 ⟨Nat.le_of_ble_eq_true rfl, Nat.le_of_ble_eq_true rfl⟩ hc (rfl) rfl rfl rfl rfl
def o_after (t : cT)  : mO :=
  if (sY (tE t)) = true then (.inr (xAE, t)) else
  if (sV (tE t)) = (-1) then (.inr (xNSEE, t)) else
  .inl (none, (wO t (kpS (tE t) (tO t))))
theorem d_X11_searchAndKeep_43 : decode (mB M_X11_searchAndKeep) 43 = .ok (.aload_n 0, 1) := by decide +kernel
theorem d_X11_searchAndKeep_44 : decode (mB M_X11_searchAndKeep) 44 = .ok (.getfield 63, 3) := by decide +kernel
theorem d_X11_searchAndKeep_47 : decode (mB M_X11_searchAndKeep) 47 = .ok (.getfield 399, 3) := by decide +kernel
theorem d_X11_searchAndKeep_50 : decode (mB M_X11_searchAndKeep) 50 = .ok (.ifCond .eq 14, 3) := by decide +kernel
theorem d_X11_searchAndKeep_64 : decode (mB M_X11_searchAndKeep) 64 = .ok (.aload_n 0, 1) := by decide +kernel
theorem d_X11_searchAndKeep_65 : decode (mB M_X11_searchAndKeep) 65 = .ok (.getfield 63, 3) := by decide +kernel
theorem d_X11_searchAndKeep_68 : decode (mB M_X11_searchAndKeep) 68 = .ok (.getfield 405, 3) := by decide +kernel
theorem d_X11_searchAndKeep_71 : decode (mB M_X11_searchAndKeep) 71 = .ok (.iconst (-1), 1) := by decide +kernel
theorem d_X11_searchAndKeep_72 : decode (mB M_X11_searchAndKeep) 72 = .ok (.if_icmp .ne 14, 3) := by decide +kernel
theorem d_X11_searchAndKeep_86 : decode (mB M_X11_searchAndKeep) 86 = .ok (.aload_n 0, 1) := by decide +kernel
theorem d_X11_searchAndKeep_87 : decode (mB M_X11_searchAndKeep) 87 = .ok (.getfield 70, 3) := by decide +kernel
theorem d_X11_searchAndKeep_90 : decode (mB M_X11_searchAndKeep) 90 = .ok (.aload_n 0, 1) := by decide +kernel
theorem d_X11_searchAndKeep_91 : decode (mB M_X11_searchAndKeep) 91 = .ok (.getfield 63, 3) := by decide +kernel
theorem d_X11_searchAndKeep_94 : decode (mB M_X11_searchAndKeep) 94 = .ok (.invokevirtual 410, 3) := by decide +kernel
theorem d_X11_searchAndKeep_97 : decode (mB M_X11_searchAndKeep) 97 = .ok (.return_, 1) := by decide +kernel
theorem l_after {E : mEnv} (hE : E.1.stackTraces = false) (m : List mE) (t : cT) (l : Int32) (b : Bool) : Go E M_X11_searchAndKeep (ocs (o_after t)) (43, [some (.ref 100), some (.int l), some (.int (bI b))], [], (m, cw t)) (oG m (o_after t)) := by
  refine g_aload_n d_X11_searchAndKeep_43 rfl ?_
  refine g_getf d_X11_searchAndKeep_44 f_X11_63 rfl rfl ?_
  refine g_getf d_X11_searchAndKeep_47 f_X11_399 rfl rfl ?_
  refine g_ifb_eq (tgt := 64) d_X11_searchAndKeep_50 (by decide) (fun c_50 => ?_) (fun c_50 => ?_)
  · refine g_aload_n d_X11_searchAndKeep_64 rfl ?_
    refine g_getf d_X11_searchAndKeep_65 f_X11_63 rfl rfl ?_
    refine g_getf d_X11_searchAndKeep_68 f_X11_405 rfl rfl ?_
    refine g_iconst (v := (-1)) d_X11_searchAndKeep_71 (by decide) ?_
    refine g_icmp_ne (tgt := 86) d_X11_searchAndKeep_72 (by decide) (fun c_72 => ?_) (fun c_72 => ?_)
    · refine g_aload_n d_X11_searchAndKeep_86 rfl ?_
      refine g_getf d_X11_searchAndKeep_87 f_X11_70 rfl rfl ?_
      refine g_aload_n d_X11_searchAndKeep_90 rfl ?_
      refine g_getf d_X11_searchAndKeep_91 f_X11_63 rfl rfl ?_
      refine g_callV (As := [.ref 130]) d_X11_searchAndKeep_94 o_X9_keep l_X11_410 ⟨Nat.le_of_ble_eq_true rfl, Nat.le_of_ble_eq_true rfl⟩ (c_keep hE m t) rfl rfl rfl rfl rfl rfl ?_ (Nat.zero_add _)
      rw [show o_after t = .inl (none, (wO t (kpS (tE t) (tO t)))) by simp only [o_after, c_50, eq_false c_72, ↓reduceIte, Bool.false_eq_true, Bool.true_eq_false, not_true_eq_false, not_false_eq_true]; try rfl]
      exact g_retV d_X11_searchAndKeep_97 rfl (rfl)
    · rw [show o_after t = .inr (xNSEE, t) by simp only [o_after, c_50, eq_true c_72, ↓reduceIte, Bool.false_eq_true, Bool.true_eq_false, not_true_eq_false, not_false_eq_true]; try rfl]
      exact g_throw (n := 0) th_X11_searchAndKeep_75 rfl
  · rw [show o_after t = .inr (xAE, t) by simp only [o_after, c_50, ↓reduceIte, Bool.false_eq_true, Bool.true_eq_false, not_true_eq_false, not_false_eq_true]; try rfl]
    exact g_throw (n := 0) th_X11_searchAndKeep_53 rfl
def o_search (t : cT) (l : Int32) (b : Bool) : mO :=
  if l < 1 then (.inr (xIAE, t)) else
  if l ≤ 1000 then (if (decide (0 < gR (qG (tG t)))) = true then (o_after (wE t (ruS (qG (tG t)) (qN (tG t)).1 (qN (tG t)).2 (tE t) l b))) else
    .inr (xISE, t)) else
  .inr (xIAE, t)
theorem d_X11_searchAndKeep_0 : decode (mB M_X11_searchAndKeep) 0 = .ok (.iload_n 1, 1) := by decide +kernel
theorem d_X11_searchAndKeep_1 : decode (mB M_X11_searchAndKeep) 1 = .ok (.iconst 1, 1) := by decide +kernel
theorem d_X11_searchAndKeep_2 : decode (mB M_X11_searchAndKeep) 2 = .ok (.if_icmp .lt 10, 3) := by decide +kernel
theorem d_X11_searchAndKeep_5 : decode (mB M_X11_searchAndKeep) 5 = .ok (.iload_n 1, 1) := by decide +kernel
theorem d_X11_searchAndKeep_6 : decode (mB M_X11_searchAndKeep) 6 = .ok (.sipush 1000, 3) := by decide +kernel
theorem d_X11_searchAndKeep_9 : decode (mB M_X11_searchAndKeep) 9 = .ok (.if_icmp .le 14, 3) := by decide +kernel
theorem d_X11_searchAndKeep_23 : decode (mB M_X11_searchAndKeep) 23 = .ok (.aload_n 0, 1) := by decide +kernel
theorem d_X11_searchAndKeep_24 : decode (mB M_X11_searchAndKeep) 24 = .ok (.invokevirtual 139, 3) := by decide +kernel
theorem d_X11_searchAndKeep_27 : decode (mB M_X11_searchAndKeep) 27 = .ok (.aload_n 0, 1) := by decide +kernel
theorem d_X11_searchAndKeep_28 : decode (mB M_X11_searchAndKeep) 28 = .ok (.getfield 63, 3) := by decide +kernel
theorem d_X11_searchAndKeep_31 : decode (mB M_X11_searchAndKeep) 31 = .ok (.aload_n 0, 1) := by decide +kernel
theorem d_X11_searchAndKeep_32 : decode (mB M_X11_searchAndKeep) 32 = .ok (.getfield 26, 3) := by decide +kernel
theorem d_X11_searchAndKeep_35 : decode (mB M_X11_searchAndKeep) 35 = .ok (.getfield 158, 3) := by decide +kernel
theorem d_X11_searchAndKeep_38 : decode (mB M_X11_searchAndKeep) 38 = .ok (.iload_n 1, 1) := by decide +kernel
theorem d_X11_searchAndKeep_39 : decode (mB M_X11_searchAndKeep) 39 = .ok (.iload_n 2, 1) := by decide +kernel
theorem d_X11_searchAndKeep_40 : decode (mB M_X11_searchAndKeep) 40 = .ok (.invokevirtual 395, 3) := by decide +kernel
theorem c_search {E : mEnv} (hE : E.1.stackTraces = false) (m : List mE) (t : cT) (l : Int32) (b : Bool)  : Rc E M_X11_searchAndKeep m [.ref 100, .int l, .int ((bI b))] t (o_search t l b) := by
  refine Rc.of hE rfl pn_X11 (Nat.le_of_ble_eq_true rfl) ?_
  refine g_eq (S' := (0, [some (.ref 100), some (.int l), some (.int (bI b))], [], (m, cw t))) rfl ?_
  refine g_iload_n d_X11_searchAndKeep_0 rfl ?_
  refine g_iconst (v := 1) d_X11_searchAndKeep_1 (by decide) ?_
  refine g_icmp_lt (tgt := 12) d_X11_searchAndKeep_2 (by decide) (fun c_2 => ?_) (fun c_2 => ?_)
  · rw [show o_search t l b = .inr (xIAE, t) by simp only [o_search, eq_true c_2, ↓reduceIte, Bool.false_eq_true, Bool.true_eq_false, not_true_eq_false, not_false_eq_true]; try rfl]
    exact g_throw (n := 0) th_X11_searchAndKeep_12 rfl
  · refine g_iload_n d_X11_searchAndKeep_5 rfl ?_
    refine g_sipush (v := 1000) d_X11_searchAndKeep_6 (by decide) ?_
    refine g_icmp_le (tgt := 23) d_X11_searchAndKeep_9 (by decide) (fun c_9 => ?_) (fun c_9 => ?_)
    · refine g_aload_n d_X11_searchAndKeep_23 rfl ?_
      by_cases h_24_0 : (decide (0 < gR (qG (tG t)))) = true
      · have hc : Rt E M_X11_requireRoom 0 [.ref 100] (m, cw t) none (m, cw t) := by have hc := c_room hE m t; rw [show o_room t = .inl (none, t) by simp only [o_room, eq_true h_24_0, ↓reduceIte, Bool.false_eq_true, Bool.true_eq_false, not_true_eq_false, not_false_eq_true]; try rfl] at hc; exact hc
        refine g_callV (As := []) d_X11_searchAndKeep_24 o_X11_requireRoom l_X11_139 ⟨Nat.le_of_ble_eq_true rfl, Nat.le_of_ble_eq_true rfl⟩ hc (rfl) rfl rfl rfl rfl rfl ?_ (Nat.zero_add _)
        refine g_aload_n d_X11_searchAndKeep_27 rfl ?_
        refine g_getf d_X11_searchAndKeep_28 f_X11_63 rfl rfl ?_
        refine g_aload_n d_X11_searchAndKeep_31 rfl ?_
        refine g_getf d_X11_searchAndKeep_32 f_X11_26 rfl rfl ?_
        refine g_getf d_X11_searchAndKeep_35 f_X11_158 rfl rfl ?_
        refine g_iload_n d_X11_searchAndKeep_38 rfl ?_
        refine g_iload_n d_X11_searchAndKeep_39 rfl ?_
        refine g_callV (As := [.ref 106, .int l, .int (bI b)]) d_X11_searchAndKeep_40 o_X8_run l_X11_395 ⟨Nat.le_of_ble_eq_true rfl, Nat.le_of_ble_eq_true rfl⟩ (c_run hE m t l b) rfl rfl rfl rfl rfl rfl ?_ (Nat.zero_add _)
        rw [show o_search t l b = o_after (wE t (ruS (qG (tG t)) (qN (tG t)).1 (qN (tG t)).2 (tE t) l b)) by simp only [o_search, eq_false c_2, eq_true c_9, eq_true h_24_0, ↓reduceIte, Bool.false_eq_true, Bool.true_eq_false, not_true_eq_false, not_false_eq_true]; try rfl]
        exact l_after hE m (wE t (ruS (qG (tG t)) (qN (tG t)).1 (qN (tG t)).2 (tE t) l b)) l b
      rw [show o_search t l b = .inr (xISE, t) by simp only [o_search, eq_false c_2, eq_true c_9, eq_false h_24_0, ↓reduceIte, Bool.false_eq_true, Bool.true_eq_false, not_true_eq_false, not_false_eq_true]; try rfl]
      have hc : Rx E M_X11_requireRoom [.ref 100] (m, cw t) xISE (m, cw t) := by have hc := c_room hE m t; rw [show o_room t = .inr (xISE, t) by simp only [o_room, eq_false h_24_0, ↓reduceIte, Bool.false_eq_true, Bool.true_eq_false, not_true_eq_false, not_false_eq_true]; try rfl] at hc; exact hc
      exact g_xcallV (As := []) d_X11_searchAndKeep_24 o_X11_requireRoom l_X11_139 ⟨Nat.le_of_ble_eq_true rfl, Nat.le_of_ble_eq_true rfl⟩ hc (rfl) rfl rfl rfl rfl
    · rw [show o_search t l b = .inr (xIAE, t) by simp only [o_search, eq_false c_2, eq_false c_9, ↓reduceIte, Bool.false_eq_true, Bool.true_eq_false, not_true_eq_false, not_false_eq_true]; try rfl]
      exact g_throw (n := 0) th_X11_searchAndKeep_12 rfl
def o_solve (t : cT) (l : Int32) (b : Bool) : mO :=
  if l < 1 then (.inr (xIAE, t)) else
  if l ≤ 1000 then (if (decide (0 < gR (qG (tG t)))) = true then (if (sY (tE (wE t (ruS (qG (tG t)) (qN (tG t)).1 (qN (tG t)).2 (tE t) l b)))) = true then (.inr (xAE, (wE t (ruS (qG (tG t)) (qN (tG t)).1 (qN (tG t)).2 (tE t) l b)))) else
      if (sV (tE (wE t (ruS (qG (tG t)) (qN (tG t)).1 (qN (tG t)).2 (tE t) l b)))) = (-1) then (.inr (xNSEE, (wE t (ruS (qG (tG t)) (qN (tG t)).1 (qN (tG t)).2 (tE t) l b)))) else
      .inl (some (.int (tO (wO (wE t (ruS (qG (tG t)) (qN (tG t)).1 (qN (tG t)).2 (tE t) l b)) (kpS (tE (wE t (ruS (qG (tG t)) (qN (tG t)).1 (qN (tG t)).2 (tE t) l b))) (tO (wE t (ruS (qG (tG t)) (qN (tG t)).1 (qN (tG t)).2 (tE t) l b)))))).2.1), (wO (wE t (ruS (qG (tG t)) (qN (tG t)).1 (qN (tG t)).2 (tE t) l b)) (kpS (tE (wE t (ruS (qG (tG t)) (qN (tG t)).1 (qN (tG t)).2 (tE t) l b))) (tO (wE t (ruS (qG (tG t)) (qN (tG t)).1 (qN (tG t)).2 (tE t) l b))))))) else
    .inr (xISE, t)) else
  .inr (xIAE, t)
theorem d_X11_solve_0 : decode (mB M_X11_solve) 0 = .ok (.aload_n 0, 1) := by decide +kernel
theorem d_X11_solve_1 : decode (mB M_X11_solve) 1 = .ok (.iload_n 1, 1) := by decide +kernel
theorem d_X11_solve_2 : decode (mB M_X11_solve) 2 = .ok (.iload_n 2, 1) := by decide +kernel
theorem d_X11_solve_3 : decode (mB M_X11_solve) 3 = .ok (.invokevirtual 336, 3) := by decide +kernel
theorem d_X11_solve_6 : decode (mB M_X11_solve) 6 = .ok (.aload_n 0, 1) := by decide +kernel
theorem d_X11_solve_7 : decode (mB M_X11_solve) 7 = .ok (.getfield 70, 3) := by decide +kernel
theorem d_X11_solve_10 : decode (mB M_X11_solve) 10 = .ok (.getfield 340, 3) := by decide +kernel
theorem d_X11_solve_13 : decode (mB M_X11_solve) 13 = .ok (.ireturn, 1) := by decide +kernel
theorem c_solve {E : mEnv} (hE : E.1.stackTraces = false) (m : List mE) (t : cT) (l : Int32) (b : Bool)  : Rc E M_X11_solve m [.ref 100, .int l, .int ((bI b))] t (o_solve t l b) := by
  refine Rc.of hE rfl pn_X11 (Nat.le_of_ble_eq_true rfl) ?_
  refine g_eq (S' := (0, [some (.ref 100), some (.int l), some (.int (bI b))], [], (m, cw t))) rfl ?_
  refine g_aload_n d_X11_solve_0 rfl ?_
  refine g_iload_n d_X11_solve_1 rfl ?_
  refine g_iload_n d_X11_solve_2 rfl ?_
  by_cases h_3_0 : l < 1
  · rw [show o_solve t l b = .inr (xIAE, t) by simp only [o_solve, eq_true h_3_0, ↓reduceIte, Bool.false_eq_true, Bool.true_eq_false, not_true_eq_false, not_false_eq_true]; try rfl]
    have hc : Rx E M_X11_searchAndKeep [.ref 100, .int l, .int (bI b)] (m, cw t) xIAE (m, cw t) := by have hc := c_search hE m t l b; rw [show o_search t l b = .inr (xIAE, t) by simp only [o_search, o_after, eq_true h_3_0, ↓reduceIte, Bool.false_eq_true, Bool.true_eq_false, not_true_eq_false, not_false_eq_true]; try rfl] at hc; exact hc
    exact g_xcallV (As := [.int l, .int (bI b)]) d_X11_solve_3 o_X11_searchAndKeep l_X11_336 ⟨Nat.le_of_ble_eq_true rfl, Nat.le_of_ble_eq_true rfl⟩ hc (rfl) rfl rfl rfl rfl
  by_cases h_3_1 : l ≤ 1000
  · by_cases h_3_2 : (decide (0 < gR (qG (tG t)))) = true
    · by_cases h_3_3 : (sY (tE (wE t (ruS (qG (tG t)) (qN (tG t)).1 (qN (tG t)).2 (tE t) l b)))) = true
      · rw [show o_solve t l b = .inr (xAE, (wE t (ruS (qG (tG t)) (qN (tG t)).1 (qN (tG t)).2 (tE t) l b))) by simp only [o_solve, eq_false h_3_0, eq_true h_3_1, eq_true h_3_2, eq_true h_3_3, ↓reduceIte, Bool.false_eq_true, Bool.true_eq_false, not_true_eq_false, not_false_eq_true]; try rfl]
        have hc : Rx E M_X11_searchAndKeep [.ref 100, .int l, .int (bI b)] (m, cw t) xAE (m, cw (wE t (ruS (qG (tG t)) (qN (tG t)).1 (qN (tG t)).2 (tE t) l b))) := by have hc := c_search hE m t l b; rw [show o_search t l b = .inr (xAE, (wE t (ruS (qG (tG t)) (qN (tG t)).1 (qN (tG t)).2 (tE t) l b))) by simp only [o_search, o_after, eq_false h_3_0, eq_true h_3_1, eq_true h_3_2, eq_true h_3_3, ↓reduceIte, Bool.false_eq_true, Bool.true_eq_false, not_true_eq_false, not_false_eq_true]; try rfl] at hc; exact hc
        exact g_xcallV (As := [.int l, .int (bI b)]) d_X11_solve_3 o_X11_searchAndKeep l_X11_336 ⟨Nat.le_of_ble_eq_true rfl, Nat.le_of_ble_eq_true rfl⟩ hc (rfl) rfl rfl rfl rfl
      by_cases h_3_4 : (sV (tE (wE t (ruS (qG (tG t)) (qN (tG t)).1 (qN (tG t)).2 (tE t) l b)))) = (-1)
      · rw [show o_solve t l b = .inr (xNSEE, (wE t (ruS (qG (tG t)) (qN (tG t)).1 (qN (tG t)).2 (tE t) l b))) by simp only [o_solve, eq_false h_3_0, eq_true h_3_1, eq_true h_3_2, eq_false h_3_3, eq_true h_3_4, ↓reduceIte, Bool.false_eq_true, Bool.true_eq_false, not_true_eq_false, not_false_eq_true]; try rfl]
        have hc : Rx E M_X11_searchAndKeep [.ref 100, .int l, .int (bI b)] (m, cw t) xNSEE (m, cw (wE t (ruS (qG (tG t)) (qN (tG t)).1 (qN (tG t)).2 (tE t) l b))) := by have hc := c_search hE m t l b; rw [show o_search t l b = .inr (xNSEE, (wE t (ruS (qG (tG t)) (qN (tG t)).1 (qN (tG t)).2 (tE t) l b))) by simp only [o_search, o_after, eq_false h_3_0, eq_true h_3_1, eq_true h_3_2, eq_false h_3_3, eq_true h_3_4, ↓reduceIte, Bool.false_eq_true, Bool.true_eq_false, not_true_eq_false, not_false_eq_true]; try rfl] at hc; exact hc
        exact g_xcallV (As := [.int l, .int (bI b)]) d_X11_solve_3 o_X11_searchAndKeep l_X11_336 ⟨Nat.le_of_ble_eq_true rfl, Nat.le_of_ble_eq_true rfl⟩ hc (rfl) rfl rfl rfl rfl
      have hc : Rt E M_X11_searchAndKeep 0 [.ref 100, .int l, .int (bI b)] (m, cw t) none (m, cw (wO (wE t (ruS (qG (tG t)) (qN (tG t)).1 (qN (tG t)).2 (tE t) l b)) (kpS (tE (wE t (ruS (qG (tG t)) (qN (tG t)).1 (qN (tG t)).2 (tE t) l b))) (tO (wE t (ruS (qG (tG t)) (qN (tG t)).1 (qN (tG t)).2 (tE t) l b)))))) := by have hc := c_search hE m t l b; rw [show o_search t l b = .inl (none, (wO (wE t (ruS (qG (tG t)) (qN (tG t)).1 (qN (tG t)).2 (tE t) l b)) (kpS (tE (wE t (ruS (qG (tG t)) (qN (tG t)).1 (qN (tG t)).2 (tE t) l b))) (tO (wE t (ruS (qG (tG t)) (qN (tG t)).1 (qN (tG t)).2 (tE t) l b)))))) by simp only [o_search, o_after, eq_false h_3_0, eq_true h_3_1, eq_true h_3_2, eq_false h_3_3, eq_false h_3_4, ↓reduceIte, Bool.false_eq_true, Bool.true_eq_false, not_true_eq_false, not_false_eq_true]; try rfl] at hc; exact hc
      refine g_callV (As := [.int l, .int (bI b)]) d_X11_solve_3 o_X11_searchAndKeep l_X11_336 ⟨Nat.le_of_ble_eq_true rfl, Nat.le_of_ble_eq_true rfl⟩ hc (rfl) rfl rfl rfl rfl rfl ?_ (Nat.zero_add _)
      refine g_aload_n d_X11_solve_6 rfl ?_
      refine g_getf d_X11_solve_7 f_X11_70 rfl rfl ?_
      refine g_getf d_X11_solve_10 f_X11_340 rfl rfl ?_
      rw [show o_solve t l b = .inl (some (.int (tO (wO (wE t (ruS (qG (tG t)) (qN (tG t)).1 (qN (tG t)).2 (tE t) l b)) (kpS (tE (wE t (ruS (qG (tG t)) (qN (tG t)).1 (qN (tG t)).2 (tE t) l b))) (tO (wE t (ruS (qG (tG t)) (qN (tG t)).1 (qN (tG t)).2 (tE t) l b)))))).2.1), (wO (wE t (ruS (qG (tG t)) (qN (tG t)).1 (qN (tG t)).2 (tE t) l b)) (kpS (tE (wE t (ruS (qG (tG t)) (qN (tG t)).1 (qN (tG t)).2 (tE t) l b))) (tO (wE t (ruS (qG (tG t)) (qN (tG t)).1 (qN (tG t)).2 (tE t) l b)))))) by simp only [o_solve, eq_false h_3_0, eq_true h_3_1, eq_true h_3_2, eq_false h_3_3, eq_false h_3_4, ↓reduceIte, Bool.false_eq_true, Bool.true_eq_false, not_true_eq_false, not_false_eq_true]; try rfl]
      exact g_retI d_X11_solve_13 rfl (rfl) (rfl)
    rw [show o_solve t l b = .inr (xISE, t) by simp only [o_solve, eq_false h_3_0, eq_true h_3_1, eq_false h_3_2, ↓reduceIte, Bool.false_eq_true, Bool.true_eq_false, not_true_eq_false, not_false_eq_true]; try rfl]
    have hc : Rx E M_X11_searchAndKeep [.ref 100, .int l, .int (bI b)] (m, cw t) xISE (m, cw t) := by have hc := c_search hE m t l b; rw [show o_search t l b = .inr (xISE, t) by simp only [o_search, o_after, eq_false h_3_0, eq_true h_3_1, eq_false h_3_2, ↓reduceIte, Bool.false_eq_true, Bool.true_eq_false, not_true_eq_false, not_false_eq_true]; try rfl] at hc; exact hc
    exact g_xcallV (As := [.int l, .int (bI b)]) d_X11_solve_3 o_X11_searchAndKeep l_X11_336 ⟨Nat.le_of_ble_eq_true rfl, Nat.le_of_ble_eq_true rfl⟩ hc (rfl) rfl rfl rfl rfl
  rw [show o_solve t l b = .inr (xIAE, t) by simp only [o_solve, eq_false h_3_0, eq_false h_3_1, ↓reduceIte, Bool.false_eq_true, Bool.true_eq_false, not_true_eq_false, not_false_eq_true]; try rfl]
  have hc : Rx E M_X11_searchAndKeep [.ref 100, .int l, .int (bI b)] (m, cw t) xIAE (m, cw t) := by have hc := c_search hE m t l b; rw [show o_search t l b = .inr (xIAE, t) by simp only [o_search, o_after, eq_false h_3_0, eq_false h_3_1, ↓reduceIte, Bool.false_eq_true, Bool.true_eq_false, not_true_eq_false, not_false_eq_true]; try rfl] at hc; exact hc
  exact g_xcallV (As := [.int l, .int (bI b)]) d_X11_solve_3 o_X11_searchAndKeep l_X11_336 ⟨Nat.le_of_ble_eq_true rfl, Nat.le_of_ble_eq_true rfl⟩ hc (rfl) rfl rfl rfl rfl
def fnS (t : cT) (k : Nat) : cT := wG t (puQ (tG t) (intAtF 1000 (tO t).1 (nI k) / 4) (intAtF 1000 (tO t).1 (nI k) - intAtF 1000 (tO t).1 (nI k) / 4 * 4))
def fnL : Nat → Nat → cT → cT
  | 0, _, t => t
  | n + 1, k, t => fnL n (k + 1) (fnS t k)
theorem d_X11_finish_0 : decode (mB M_X11_finish) 0 = .ok (.aload_n 0, 1) := by decide +kernel
theorem d_X11_finish_1 : decode (mB M_X11_finish) 1 = .ok (.iload_n 1, 1) := by decide +kernel
theorem d_X11_finish_2 : decode (mB M_X11_finish) 2 = .ok (.iconst 1, 1) := by decide +kernel
theorem d_X11_finish_3 : decode (mB M_X11_finish) 3 = .ok (.invokevirtual 336, 3) := by decide +kernel
theorem d_X11_finish_6 : decode (mB M_X11_finish) 6 = .ok (.aload_n 0, 1) := by decide +kernel
theorem d_X11_finish_7 : decode (mB M_X11_finish) 7 = .ok (.getfield 36, 3) := by decide +kernel
theorem d_X11_finish_10 : decode (mB M_X11_finish) 10 = .ok (.aload_n 0, 1) := by decide +kernel
theorem d_X11_finish_11 : decode (mB M_X11_finish) 11 = .ok (.getfield 26, 3) := by decide +kernel
theorem d_X11_finish_14 : decode (mB M_X11_finish) 14 = .ok (.invokevirtual 293, 3) := by decide +kernel
theorem d_X11_finish_17 : decode (mB M_X11_finish) 17 = .ok (.aload_n 0, 1) := by decide +kernel
theorem d_X11_finish_18 : decode (mB M_X11_finish) 18 = .ok (.getfield 26, 3) := by decide +kernel
theorem d_X11_finish_21 : decode (mB M_X11_finish) 21 = .ok (.getfield 195, 3) := by decide +kernel
theorem d_X11_finish_24 : decode (mB M_X11_finish) 24 = .ok (.istore_n 2, 1) := by decide +kernel
theorem d_X11_finish_25 : decode (mB M_X11_finish) 25 = .ok (.iconst 0, 1) := by decide +kernel
theorem d_X11_finish_26 : decode (mB M_X11_finish) 26 = .ok (.istore_n 3, 1) := by decide +kernel
theorem d_X11_finish_27 : decode (mB M_X11_finish) 27 = .ok (.iload_n 3, 1) := by decide +kernel
theorem d_X11_finish_28 : decode (mB M_X11_finish) 28 = .ok (.aload_n 0, 1) := by decide +kernel
theorem d_X11_finish_29 : decode (mB M_X11_finish) 29 = .ok (.getfield 70, 3) := by decide +kernel
theorem d_X11_finish_32 : decode (mB M_X11_finish) 32 = .ok (.getfield 340, 3) := by decide +kernel
theorem d_X11_finish_35 : decode (mB M_X11_finish) 35 = .ok (.if_icmp .ge 32, 3) := by decide +kernel
theorem d_X11_finish_38 : decode (mB M_X11_finish) 38 = .ok (.aload_n 0, 1) := by decide +kernel
theorem d_X11_finish_39 : decode (mB M_X11_finish) 39 = .ok (.getfield 26, 3) := by decide +kernel
theorem d_X11_finish_42 : decode (mB M_X11_finish) 42 = .ok (.aload_n 0, 1) := by decide +kernel
theorem d_X11_finish_43 : decode (mB M_X11_finish) 43 = .ok (.getfield 70, 3) := by decide +kernel
theorem d_X11_finish_46 : decode (mB M_X11_finish) 46 = .ok (.iload_n 3, 1) := by decide +kernel
theorem d_X11_finish_47 : decode (mB M_X11_finish) 47 = .ok (.invokevirtual 350, 3) := by decide +kernel
theorem d_X11_finish_50 : decode (mB M_X11_finish) 50 = .ok (.aload_n 0, 1) := by decide +kernel
theorem d_X11_finish_51 : decode (mB M_X11_finish) 51 = .ok (.getfield 70, 3) := by decide +kernel
theorem d_X11_finish_54 : decode (mB M_X11_finish) 54 = .ok (.iload_n 3, 1) := by decide +kernel
theorem d_X11_finish_55 : decode (mB M_X11_finish) 55 = .ok (.invokevirtual 347, 3) := by decide +kernel
theorem d_X11_finish_58 : decode (mB M_X11_finish) 58 = .ok (.invokevirtual 306, 3) := by decide +kernel
theorem d_X11_finish_61 : decode (mB M_X11_finish) 61 = .ok (.iinc 3 1, 3) := by decide +kernel
theorem d_X11_finish_64 : decode (mB M_X11_finish) 64 = .ok (.goto (-37), 3) := by decide +kernel
theorem d_X11_finish_67 : decode (mB M_X11_finish) 67 = .ok (.aload_n 0, 1) := by decide +kernel
theorem d_X11_finish_68 : decode (mB M_X11_finish) 68 = .ok (.invokevirtual 309, 3) := by decide +kernel
theorem d_X11_finish_71 : decode (mB M_X11_finish) 71 = .ok (.aload_n 0, 1) := by decide +kernel
theorem d_X11_finish_72 : decode (mB M_X11_finish) 72 = .ok (.getfield 26, 3) := by decide +kernel
theorem d_X11_finish_75 : decode (mB M_X11_finish) 75 = .ok (.getfield 195, 3) := by decide +kernel
theorem d_X11_finish_78 : decode (mB M_X11_finish) 78 = .ok (.iload_n 2, 1) := by decide +kernel
theorem d_X11_finish_79 : decode (mB M_X11_finish) 79 = .ok (.isub, 1) := by decide +kernel
theorem d_X11_finish_80 : decode (mB M_X11_finish) 80 = .ok (.ireturn, 1) := by decide +kernel
theorem l_fin {E : mEnv} (hE : E.1.stackTraces = false) (m : List mE) (l s : Int32) (N : Nat) (hN : N < 2 ^ 31) : ∀ (n : Nat) (k : Nat) (t : cT), (tO t).2.1 = nI N → k + n = N → Go E M_X11_finish 0 (27, [some (.ref 100), some (.int l), some (.int s), some (.int (nI k))], [], (m, cw t)) (.inl (67, [some (.ref 100), some (.int l), some (.int s), none], [], (m, cw (fnL n k t)))) := by
  intro n
  induction n with
  | zero =>
    intro k t hp hk
    obtain rfl : k = N := by omega
    refine g_iload_n d_X11_finish_27 rfl ?_
    refine g_aload_n d_X11_finish_28 rfl ?_
    refine g_getf d_X11_finish_29 f_X11_70 rfl rfl ?_
    refine g_getf d_X11_finish_32 f_X11_340 rfl rfl ?_
    refine g_icmp_ge (tgt := 67) d_X11_finish_35 (by decide) (fun c_35 => ?_) (fun c_35 => absurd c_35 (absurd (by rw [hp]; exact nI_le (Nat.le_refl k) hN) c_35))
    refine g_drop [3] rfl ?_
    exact g_end rfl
  | succ n ih =>
    intro k t hp hk
    refine g_iload_n d_X11_finish_27 rfl ?_
    refine g_aload_n d_X11_finish_28 rfl ?_
    refine g_getf d_X11_finish_29 f_X11_70 rfl rfl ?_
    refine g_getf d_X11_finish_32 f_X11_340 rfl rfl ?_
    refine g_icmp_ge (tgt := 67) d_X11_finish_35 (by decide) (fun c_35 => absurd c_35 (by rw [hp]; exact nI_ge (a := k) (b := N) (by omega) hN)) (fun c_35 => ?_)
    refine g_aload_n d_X11_finish_38 rfl ?_
    refine g_getf d_X11_finish_39 f_X11_26 rfl rfl ?_
    refine g_aload_n d_X11_finish_42 rfl ?_
    refine g_getf d_X11_finish_43 f_X11_70 rfl rfl ?_
    refine g_iload_n d_X11_finish_46 rfl ?_
    refine g_callV (As := [.int (nI k)]) d_X11_finish_47 o_X9_cellAt l_X11_350 ⟨Nat.le_of_ble_eq_true rfl, Nat.le_of_ble_eq_true rfl⟩ (c_cellAt hE m t (nI k)) rfl rfl rfl rfl rfl rfl ?_ (Nat.zero_add _)
    refine g_aload_n d_X11_finish_50 rfl ?_
    refine g_getf d_X11_finish_51 f_X11_70 rfl rfl ?_
    refine g_iload_n d_X11_finish_54 rfl ?_
    refine g_callV (As := [.int (nI k)]) d_X11_finish_55 o_X9_directionAt l_X11_347 ⟨Nat.le_of_ble_eq_true rfl, Nat.le_of_ble_eq_true rfl⟩ (c_dirAt hE m t (nI k)) rfl rfl rfl rfl rfl rfl ?_ (Nat.zero_add _)
    refine g_callV (As := [.int (intAtF 1000 (tO t).1 (nI k) / 4), .int (intAtF 1000 (tO t).1 (nI k) - intAtF 1000 (tO t).1 (nI k) / 4 * 4)]) d_X11_finish_58 o_X0_pushBox l_X11_306 ⟨Nat.le_of_ble_eq_true rfl, Nat.le_of_ble_eq_true rfl⟩ (c_pushBox hE m t (intAtF 1000 (tO t).1 (nI k) / 4) (intAtF 1000 (tO t).1 (nI k) - intAtF 1000 (tO t).1 (nI k) / 4 * 4)) rfl rfl rfl rfl rfl rfl ?_ (Nat.zero_add _)
    refine g_iinc (v := ((nI k) + 1)) (L' := [some (.ref 100), some (.int l), some (.int s), some (.int ((nI k) + 1))]) d_X11_finish_61 rfl rfl rfl ?_
    refine g_goto (tgt := 27) d_X11_finish_64 (by decide) ?_
    refine g_eq (S' := (27, [some (.ref 100), some (.int l), some (.int s), some (.int (nI (k + 1)))], [], (m, cw (fnS t k)))) (by rw [← nI_1 k]; rfl) ?_
    exact ih (k + 1) (fnS t k) hp (by omega)
def o_fin (t : cT)  : mO :=
  if (qC (tG (fnL (tO t).2.1.toNatClampNeg 0 (wH t (hBeg (tH t) (tG t)))))) ≤ 400 then (.inl (some (.int ((qC (tG (wH (fnL (tO t).2.1.toNatClampNeg 0 (wH t (hBeg (tH t) (tG t)))) (cmtH (tH (fnL (tO t).2.1.toNatClampNeg 0 (wH t (hBeg (tH t) (tG t))))))))) - (qC (tG (wH t (hBeg (tH t) (tG t))))))), (wH (fnL (tO t).2.1.toNatClampNeg 0 (wH t (hBeg (tH t) (tG t)))) (cmtH (tH (fnL (tO t).2.1.toNatClampNeg 0 (wH t (hBeg (tH t) (tG t))))))))) else
  .inr (xAE, (wG (fnL (tO t).2.1.toNatClampNeg 0 (wH t (hBeg (tH t) (tG t)))) (rollQ (tH (fnL (tO t).2.1.toNatClampNeg 0 (wH t (hBeg (tH t) (tG t))))) (tG (fnL (tO t).2.1.toNatClampNeg 0 (wH t (hBeg (tH t) (tG t))))))))
theorem l_finish {E : mEnv} (hE : E.1.stackTraces = false) (m : List mE) (t : cT) (l : Int32) (hp : ¬ (tO t).2.1 < 0) : Go E M_X11_finish (ocs (o_fin t)) (6, [some (.ref 100), some (.int l), none, none], [], (m, cw t)) (oG m (o_fin t)) := by
  refine g_aload_n d_X11_finish_6 rfl ?_
  refine g_getf d_X11_finish_7 f_X11_36 rfl rfl ?_
  refine g_aload_n d_X11_finish_10 rfl ?_
  refine g_getf d_X11_finish_11 f_X11_26 rfl rfl ?_
  refine g_callV (As := [.ref 104]) d_X11_finish_14 o_X3_begin l_X11_293 ⟨Nat.le_of_ble_eq_true rfl, Nat.le_of_ble_eq_true rfl⟩ (c_hbegin hE m t) rfl rfl rfl rfl rfl rfl ?_ (Nat.zero_add _)
  refine g_aload_n d_X11_finish_17 rfl ?_
  refine g_getf d_X11_finish_18 f_X11_26 rfl rfl ?_
  refine g_getf d_X11_finish_21 f_X11_195 rfl rfl ?_
  refine g_istore_n (L' := [some (.ref 100), some (.int l), some (.int (qC (tG (wH t (hBeg (tH t) (tG t)))))), none]) d_X11_finish_24 rfl rfl ?_
  refine g_iconst (v := 0) d_X11_finish_25 (by decide) ?_
  refine g_istore_n (L' := [some (.ref 100), some (.int l), some (.int (qC (tG (wH t (hBeg (tH t) (tG t)))))), some (.int 0)]) d_X11_finish_26 rfl rfl ?_
  refine g_eq (S' := (27, [some (.ref 100), some (.int l), some (.int (qC (tG (wH t (hBeg (tH t) (tG t)))))), some (.int (nI 0))], [], (m, cw (wH t (hBeg (tH t) (tG t)))))) (by first | rfl | (rw [nI_1]; rfl) | (simp only [nI_1]; rfl) | simp only [nI_1]) ?_
  refine Go.trans0 (l_fin hE m l (qC (tG (wH t (hBeg (tH t) (tG t))))) (tO t).2.1.toNatClampNeg (Int32.toNatClampNeg_lt _) (tO t).2.1.toNatClampNeg 0 (wH t (hBeg (tH t) (tG t))) (nI_cl hp) (by omega)) ?_
  refine g_eq (S' := (67, [some (.ref 100), some (.int l), some (.int (qC (tG (wH t (hBeg (tH t) (tG t)))))), none], [], (m, cw (fnL (tO t).2.1.toNatClampNeg 0 (wH t (hBeg (tH t) (tG t))))))) rfl ?_
  refine g_aload_n d_X11_finish_67 rfl ?_
  by_cases h_68_0 : (qC (tG (fnL (tO t).2.1.toNatClampNeg 0 (wH t (hBeg (tH t) (tG t)))))) ≤ 400
  · have hc : Rt E M_X11_commitOrThrow 0 [.ref 100] (m, cw (fnL (tO t).2.1.toNatClampNeg 0 (wH t (hBeg (tH t) (tG t))))) none (m, cw (wH (fnL (tO t).2.1.toNatClampNeg 0 (wH t (hBeg (tH t) (tG t)))) (cmtH (tH (fnL (tO t).2.1.toNatClampNeg 0 (wH t (hBeg (tH t) (tG t)))))))) := by have hc := c_commitOrThrow hE m (fnL (tO t).2.1.toNatClampNeg 0 (wH t (hBeg (tH t) (tG t)))); rw [show o_commitOrThrow (fnL (tO t).2.1.toNatClampNeg 0 (wH t (hBeg (tH t) (tG t)))) = .inl (none, (wH (fnL (tO t).2.1.toNatClampNeg 0 (wH t (hBeg (tH t) (tG t)))) (cmtH (tH (fnL (tO t).2.1.toNatClampNeg 0 (wH t (hBeg (tH t) (tG t)))))))) by simp only [o_commitOrThrow, eq_true h_68_0, ↓reduceIte, Bool.false_eq_true, Bool.true_eq_false, not_true_eq_false, not_false_eq_true]; try rfl] at hc; exact hc
    refine g_callV (As := []) d_X11_finish_68 o_X11_commitOrThrow l_X11_309 ⟨Nat.le_of_ble_eq_true rfl, Nat.le_of_ble_eq_true rfl⟩ hc (rfl) rfl rfl rfl rfl rfl ?_ (Nat.zero_add _)
    refine g_aload_n d_X11_finish_71 rfl ?_
    refine g_getf d_X11_finish_72 f_X11_26 rfl rfl ?_
    refine g_getf d_X11_finish_75 f_X11_195 rfl rfl ?_
    refine g_iload_n d_X11_finish_78 rfl ?_
    refine g_isub d_X11_finish_79 ?_
    rw [show o_fin t = .inl (some (.int ((qC (tG (wH (fnL (tO t).2.1.toNatClampNeg 0 (wH t (hBeg (tH t) (tG t)))) (cmtH (tH (fnL (tO t).2.1.toNatClampNeg 0 (wH t (hBeg (tH t) (tG t))))))))) - (qC (tG (wH t (hBeg (tH t) (tG t))))))), (wH (fnL (tO t).2.1.toNatClampNeg 0 (wH t (hBeg (tH t) (tG t)))) (cmtH (tH (fnL (tO t).2.1.toNatClampNeg 0 (wH t (hBeg (tH t) (tG t)))))))) by simp only [o_fin, eq_true h_68_0, ↓reduceIte, Bool.false_eq_true, Bool.true_eq_false, not_true_eq_false, not_false_eq_true]; try rfl]
    exact g_retI d_X11_finish_80 rfl (rfl) (rfl)
  rw [show o_fin t = .inr (xAE, (wG (fnL (tO t).2.1.toNatClampNeg 0 (wH t (hBeg (tH t) (tG t)))) (rollQ (tH (fnL (tO t).2.1.toNatClampNeg 0 (wH t (hBeg (tH t) (tG t))))) (tG (fnL (tO t).2.1.toNatClampNeg 0 (wH t (hBeg (tH t) (tG t)))))))) by simp only [o_fin, eq_false h_68_0, ↓reduceIte, Bool.false_eq_true, Bool.true_eq_false, not_true_eq_false, not_false_eq_true]; try rfl]
  have hc : Rx E M_X11_commitOrThrow [.ref 100] (m, cw (fnL (tO t).2.1.toNatClampNeg 0 (wH t (hBeg (tH t) (tG t))))) xAE (m, cw (wG (fnL (tO t).2.1.toNatClampNeg 0 (wH t (hBeg (tH t) (tG t)))) (rollQ (tH (fnL (tO t).2.1.toNatClampNeg 0 (wH t (hBeg (tH t) (tG t))))) (tG (fnL (tO t).2.1.toNatClampNeg 0 (wH t (hBeg (tH t) (tG t)))))))) := by have hc := c_commitOrThrow hE m (fnL (tO t).2.1.toNatClampNeg 0 (wH t (hBeg (tH t) (tG t)))); rw [show o_commitOrThrow (fnL (tO t).2.1.toNatClampNeg 0 (wH t (hBeg (tH t) (tG t)))) = .inr (xAE, (wG (fnL (tO t).2.1.toNatClampNeg 0 (wH t (hBeg (tH t) (tG t)))) (rollQ (tH (fnL (tO t).2.1.toNatClampNeg 0 (wH t (hBeg (tH t) (tG t))))) (tG (fnL (tO t).2.1.toNatClampNeg 0 (wH t (hBeg (tH t) (tG t)))))))) by simp only [o_commitOrThrow, eq_false h_68_0, ↓reduceIte, Bool.false_eq_true, Bool.true_eq_false, not_true_eq_false, not_false_eq_true]; try rfl] at hc; exact hc
  exact g_xcallV (As := []) d_X11_finish_68 o_X11_commitOrThrow l_X11_309 ⟨Nat.le_of_ble_eq_true rfl, Nat.le_of_ble_eq_true rfl⟩ hc (rfl) rfl rfl rfl rfl
theorem fin_pos (t : cT) : ¬ (tO (wO t (kpS (tE t) (tO t)))).2.1 < 0 := by
  show ¬ nI (dpF (tE t)) < 0
  have : dpF (tE t) ≤ 0 + 1000 := dpL_le _ _ _ _
  exact nI_pos (by omega)
def o_finish (t : cT) (l : Int32) : mO :=
  if l < 1 then (.inr (xIAE, t)) else
  if l ≤ 1000 then (if (decide (0 < gR (qG (tG t)))) = true then (if (sY (tE (wE t (ruS (qG (tG t)) (qN (tG t)).1 (qN (tG t)).2 (tE t) l true)))) = true then (.inr (xAE, (wE t (ruS (qG (tG t)) (qN (tG t)).1 (qN (tG t)).2 (tE t) l true)))) else
      if (sV (tE (wE t (ruS (qG (tG t)) (qN (tG t)).1 (qN (tG t)).2 (tE t) l true)))) = (-1) then (.inr (xNSEE, (wE t (ruS (qG (tG t)) (qN (tG t)).1 (qN (tG t)).2 (tE t) l true)))) else
      o_fin (wO (wE t (ruS (qG (tG t)) (qN (tG t)).1 (qN (tG t)).2 (tE t) l true)) (kpS (tE (wE t (ruS (qG (tG t)) (qN (tG t)).1 (qN (tG t)).2 (tE t) l true))) (tO (wE t (ruS (qG (tG t)) (qN (tG t)).1 (qN (tG t)).2 (tE t) l true)))))) else
    .inr (xISE, t)) else
  .inr (xIAE, t)
theorem c_finish {E : mEnv} (hE : E.1.stackTraces = false) (m : List mE) (t : cT) (l : Int32)  : Rc E M_X11_finish m [.ref 100, .int l] t (o_finish t l) := by
  refine Rc.of hE rfl pn_X11 (Nat.le_of_ble_eq_true rfl) ?_
  refine g_eq (S' := (0, [some (.ref 100), some (.int l), none, none], [], (m, cw t))) rfl ?_
  refine g_aload_n d_X11_finish_0 rfl ?_
  refine g_iload_n d_X11_finish_1 rfl ?_
  refine g_iconst (v := 1) d_X11_finish_2 (by decide) ?_
  by_cases h_3_0 : l < 1
  · rw [show o_finish t l = .inr (xIAE, t) by simp only [o_finish, eq_true h_3_0, ↓reduceIte, Bool.false_eq_true, Bool.true_eq_false, not_true_eq_false, not_false_eq_true]; try rfl]
    have hc : Rx E M_X11_searchAndKeep [.ref 100, .int l, .int 1] (m, cw t) xIAE (m, cw t) := by have hc := c_search hE m t l true; rw [show o_search t l true = .inr (xIAE, t) by simp only [o_search, o_after, eq_true h_3_0, ↓reduceIte, Bool.false_eq_true, Bool.true_eq_false, not_true_eq_false, not_false_eq_true]; try rfl] at hc; exact hc
    exact g_xcallV (As := [.int l, .int 1]) d_X11_finish_3 o_X11_searchAndKeep l_X11_336 ⟨Nat.le_of_ble_eq_true rfl, Nat.le_of_ble_eq_true rfl⟩ hc (rfl) rfl rfl rfl rfl
  by_cases h_3_1 : l ≤ 1000
  · by_cases h_3_2 : (decide (0 < gR (qG (tG t)))) = true
    · by_cases h_3_3 : (sY (tE (wE t (ruS (qG (tG t)) (qN (tG t)).1 (qN (tG t)).2 (tE t) l true)))) = true
      · rw [show o_finish t l = .inr (xAE, (wE t (ruS (qG (tG t)) (qN (tG t)).1 (qN (tG t)).2 (tE t) l true))) by simp only [o_finish, eq_false h_3_0, eq_true h_3_1, eq_true h_3_2, eq_true h_3_3, ↓reduceIte, Bool.false_eq_true, Bool.true_eq_false, not_true_eq_false, not_false_eq_true]; try rfl]
        have hc : Rx E M_X11_searchAndKeep [.ref 100, .int l, .int 1] (m, cw t) xAE (m, cw (wE t (ruS (qG (tG t)) (qN (tG t)).1 (qN (tG t)).2 (tE t) l true))) := by have hc := c_search hE m t l true; rw [show o_search t l true = .inr (xAE, (wE t (ruS (qG (tG t)) (qN (tG t)).1 (qN (tG t)).2 (tE t) l true))) by simp only [o_search, o_after, eq_false h_3_0, eq_true h_3_1, eq_true h_3_2, eq_true h_3_3, ↓reduceIte, Bool.false_eq_true, Bool.true_eq_false, not_true_eq_false, not_false_eq_true]; try rfl] at hc; exact hc
        exact g_xcallV (As := [.int l, .int 1]) d_X11_finish_3 o_X11_searchAndKeep l_X11_336 ⟨Nat.le_of_ble_eq_true rfl, Nat.le_of_ble_eq_true rfl⟩ hc (rfl) rfl rfl rfl rfl
      by_cases h_3_4 : (sV (tE (wE t (ruS (qG (tG t)) (qN (tG t)).1 (qN (tG t)).2 (tE t) l true)))) = (-1)
      · rw [show o_finish t l = .inr (xNSEE, (wE t (ruS (qG (tG t)) (qN (tG t)).1 (qN (tG t)).2 (tE t) l true))) by simp only [o_finish, eq_false h_3_0, eq_true h_3_1, eq_true h_3_2, eq_false h_3_3, eq_true h_3_4, ↓reduceIte, Bool.false_eq_true, Bool.true_eq_false, not_true_eq_false, not_false_eq_true]; try rfl]
        have hc : Rx E M_X11_searchAndKeep [.ref 100, .int l, .int 1] (m, cw t) xNSEE (m, cw (wE t (ruS (qG (tG t)) (qN (tG t)).1 (qN (tG t)).2 (tE t) l true))) := by have hc := c_search hE m t l true; rw [show o_search t l true = .inr (xNSEE, (wE t (ruS (qG (tG t)) (qN (tG t)).1 (qN (tG t)).2 (tE t) l true))) by simp only [o_search, o_after, eq_false h_3_0, eq_true h_3_1, eq_true h_3_2, eq_false h_3_3, eq_true h_3_4, ↓reduceIte, Bool.false_eq_true, Bool.true_eq_false, not_true_eq_false, not_false_eq_true]; try rfl] at hc; exact hc
        exact g_xcallV (As := [.int l, .int 1]) d_X11_finish_3 o_X11_searchAndKeep l_X11_336 ⟨Nat.le_of_ble_eq_true rfl, Nat.le_of_ble_eq_true rfl⟩ hc (rfl) rfl rfl rfl rfl
      have hc : Rt E M_X11_searchAndKeep 0 [.ref 100, .int l, .int 1] (m, cw t) none (m, cw (wO (wE t (ruS (qG (tG t)) (qN (tG t)).1 (qN (tG t)).2 (tE t) l true)) (kpS (tE (wE t (ruS (qG (tG t)) (qN (tG t)).1 (qN (tG t)).2 (tE t) l true))) (tO (wE t (ruS (qG (tG t)) (qN (tG t)).1 (qN (tG t)).2 (tE t) l true)))))) := by have hc := c_search hE m t l true; rw [show o_search t l true = .inl (none, (wO (wE t (ruS (qG (tG t)) (qN (tG t)).1 (qN (tG t)).2 (tE t) l true)) (kpS (tE (wE t (ruS (qG (tG t)) (qN (tG t)).1 (qN (tG t)).2 (tE t) l true))) (tO (wE t (ruS (qG (tG t)) (qN (tG t)).1 (qN (tG t)).2 (tE t) l true)))))) by simp only [o_search, o_after, eq_false h_3_0, eq_true h_3_1, eq_true h_3_2, eq_false h_3_3, eq_false h_3_4, ↓reduceIte, Bool.false_eq_true, Bool.true_eq_false, not_true_eq_false, not_false_eq_true]; try rfl] at hc; exact hc
      refine g_callV (As := [.int l, .int 1]) d_X11_finish_3 o_X11_searchAndKeep l_X11_336 ⟨Nat.le_of_ble_eq_true rfl, Nat.le_of_ble_eq_true rfl⟩ hc (rfl) rfl rfl rfl rfl rfl ?_ (Nat.zero_add _)
      rw [show o_finish t l = o_fin (wO (wE t (ruS (qG (tG t)) (qN (tG t)).1 (qN (tG t)).2 (tE t) l true)) (kpS (tE (wE t (ruS (qG (tG t)) (qN (tG t)).1 (qN (tG t)).2 (tE t) l true))) (tO (wE t (ruS (qG (tG t)) (qN (tG t)).1 (qN (tG t)).2 (tE t) l true))))) by simp only [o_finish, eq_false h_3_0, eq_true h_3_1, eq_true h_3_2, eq_false h_3_3, eq_false h_3_4, ↓reduceIte, Bool.false_eq_true, Bool.true_eq_false, not_true_eq_false, not_false_eq_true]; try rfl]
      exact l_finish hE m (wO (wE t (ruS (qG (tG t)) (qN (tG t)).1 (qN (tG t)).2 (tE t) l true)) (kpS (tE (wE t (ruS (qG (tG t)) (qN (tG t)).1 (qN (tG t)).2 (tE t) l true))) (tO (wE t (ruS (qG (tG t)) (qN (tG t)).1 (qN (tG t)).2 (tE t) l true))))) l (fin_pos _)
    rw [show o_finish t l = .inr (xISE, t) by simp only [o_finish, eq_false h_3_0, eq_true h_3_1, eq_false h_3_2, ↓reduceIte, Bool.false_eq_true, Bool.true_eq_false, not_true_eq_false, not_false_eq_true]; try rfl]
    have hc : Rx E M_X11_searchAndKeep [.ref 100, .int l, .int 1] (m, cw t) xISE (m, cw t) := by have hc := c_search hE m t l true; rw [show o_search t l true = .inr (xISE, t) by simp only [o_search, o_after, eq_false h_3_0, eq_true h_3_1, eq_false h_3_2, ↓reduceIte, Bool.false_eq_true, Bool.true_eq_false, not_true_eq_false, not_false_eq_true]; try rfl] at hc; exact hc
    exact g_xcallV (As := [.int l, .int 1]) d_X11_finish_3 o_X11_searchAndKeep l_X11_336 ⟨Nat.le_of_ble_eq_true rfl, Nat.le_of_ble_eq_true rfl⟩ hc (rfl) rfl rfl rfl rfl
  rw [show o_finish t l = .inr (xIAE, t) by simp only [o_finish, eq_false h_3_0, eq_false h_3_1, ↓reduceIte, Bool.false_eq_true, Bool.true_eq_false, not_true_eq_false, not_false_eq_true]; try rfl]
  have hc : Rx E M_X11_searchAndKeep [.ref 100, .int l, .int 1] (m, cw t) xIAE (m, cw t) := by have hc := c_search hE m t l true; rw [show o_search t l true = .inr (xIAE, t) by simp only [o_search, o_after, eq_false h_3_0, eq_false h_3_1, ↓reduceIte, Bool.false_eq_true, Bool.true_eq_false, not_true_eq_false, not_false_eq_true]; try rfl] at hc; exact hc
  exact g_xcallV (As := [.int l, .int 1]) d_X11_finish_3 o_X11_searchAndKeep l_X11_336 ⟨Nat.le_of_ble_eq_true rfl, Nat.le_of_ble_eq_true rfl⟩ hc (rfl) rfl rfl rfl rfl
def o_readRoom (t : cT)  : mO :=
  if (rdL (tI (wI t ((tI t).1, 0))).1 (nI (tI t).2.toNatClampNeg) (tI t).2.toNatClampNeg 0 rClr).1 = (-1) then (if (rRoom (tT (wT (wI t ((tI t).1, 0)) (rdL (tI (wI t ((tI t).1, 0))).1 (nI (tI t).2.toNatClampNeg) (tI t).2.toNatClampNeg 0 rClr).2))) = true then (.inl (some (.int (bcF (gO (qG (tG (wH (wG (wT (wI t ((tI t).1, 0)) (rdL (tI (wI t ((tI t).1, 0))).1 (nI (tI t).2.toNatClampNeg) (tI t).2.toNatClampNeg 0 rClr).2) (bgQ (tG (wT (wI t ((tI t).1, 0)) (rdL (tI (wI t ((tI t).1, 0))).1 (nI (tI t).2.toNatClampNeg) (tI t).2.toNatClampNeg 0 rClr).2)) (tT (wT (wI t ((tI t).1, 0)) (rdL (tI (wI t ((tI t).1, 0))).1 (nI (tI t).2.toNatClampNeg) (tI t).2.toNatClampNeg 0 rClr).2)) (rR (tT (wT (wI t ((tI t).1, 0)) (rdL (tI (wI t ((tI t).1, 0))).1 (nI (tI t).2.toNatClampNeg) (tI t).2.toNatClampNeg 0 rClr).2))).toNatClampNeg)) (hB (tH (wG (wT (wI t ((tI t).1, 0)) (rdL (tI (wI t ((tI t).1, 0))).1 (nI (tI t).2.toNatClampNeg) (tI t).2.toNatClampNeg 0 rClr).2) (bgQ (tG (wT (wI t ((tI t).1, 0)) (rdL (tI (wI t ((tI t).1, 0))).1 (nI (tI t).2.toNatClampNeg) (tI t).2.toNatClampNeg 0 rClr).2)) (tT (wT (wI t ((tI t).1, 0)) (rdL (tI (wI t ((tI t).1, 0))).1 (nI (tI t).2.toNatClampNeg) (tI t).2.toNatClampNeg 0 rClr).2)) (rR (tT (wT (wI t ((tI t).1, 0)) (rdL (tI (wI t ((tI t).1, 0))).1 (nI (tI t).2.toNatClampNeg) (tI t).2.toNatClampNeg 0 rClr).2))).toNatClampNeg))), hP (tH (wG (wT (wI t ((tI t).1, 0)) (rdL (tI (wI t ((tI t).1, 0))).1 (nI (tI t).2.toNatClampNeg) (tI t).2.toNatClampNeg 0 rClr).2) (bgQ (tG (wT (wI t ((tI t).1, 0)) (rdL (tI (wI t ((tI t).1, 0))).1 (nI (tI t).2.toNatClampNeg) (tI t).2.toNatClampNeg 0 rClr).2)) (tT (wT (wI t ((tI t).1, 0)) (rdL (tI (wI t ((tI t).1, 0))).1 (nI (tI t).2.toNatClampNeg) (tI t).2.toNatClampNeg 0 rClr).2)) (rR (tT (wT (wI t ((tI t).1, 0)) (rdL (tI (wI t ((tI t).1, 0))).1 (nI (tI t).2.toNatClampNeg) (tI t).2.toNatClampNeg 0 rClr).2))).toNatClampNeg))), hS (tH (wG (wT (wI t ((tI t).1, 0)) (rdL (tI (wI t ((tI t).1, 0))).1 (nI (tI t).2.toNatClampNeg) (tI t).2.toNatClampNeg 0 rClr).2) (bgQ (tG (wT (wI t ((tI t).1, 0)) (rdL (tI (wI t ((tI t).1, 0))).1 (nI (tI t).2.toNatClampNeg) (tI t).2.toNatClampNeg 0 rClr).2)) (tT (wT (wI t ((tI t).1, 0)) (rdL (tI (wI t ((tI t).1, 0))).1 (nI (tI t).2.toNatClampNeg) (tI t).2.toNatClampNeg 0 rClr).2)) (rR (tT (wT (wI t ((tI t).1, 0)) (rdL (tI (wI t ((tI t).1, 0))).1 (nI (tI t).2.toNatClampNeg) (tI t).2.toNatClampNeg 0 rClr).2))).toNatClampNeg))), 0))))))), (wH (wG (wT (wI t ((tI t).1, 0)) (rdL (tI (wI t ((tI t).1, 0))).1 (nI (tI t).2.toNatClampNeg) (tI t).2.toNatClampNeg 0 rClr).2) (bgQ (tG (wT (wI t ((tI t).1, 0)) (rdL (tI (wI t ((tI t).1, 0))).1 (nI (tI t).2.toNatClampNeg) (tI t).2.toNatClampNeg 0 rClr).2)) (tT (wT (wI t ((tI t).1, 0)) (rdL (tI (wI t ((tI t).1, 0))).1 (nI (tI t).2.toNatClampNeg) (tI t).2.toNatClampNeg 0 rClr).2)) (rR (tT (wT (wI t ((tI t).1, 0)) (rdL (tI (wI t ((tI t).1, 0))).1 (nI (tI t).2.toNatClampNeg) (tI t).2.toNatClampNeg 0 rClr).2))).toNatClampNeg)) (hB (tH (wG (wT (wI t ((tI t).1, 0)) (rdL (tI (wI t ((tI t).1, 0))).1 (nI (tI t).2.toNatClampNeg) (tI t).2.toNatClampNeg 0 rClr).2) (bgQ (tG (wT (wI t ((tI t).1, 0)) (rdL (tI (wI t ((tI t).1, 0))).1 (nI (tI t).2.toNatClampNeg) (tI t).2.toNatClampNeg 0 rClr).2)) (tT (wT (wI t ((tI t).1, 0)) (rdL (tI (wI t ((tI t).1, 0))).1 (nI (tI t).2.toNatClampNeg) (tI t).2.toNatClampNeg 0 rClr).2)) (rR (tT (wT (wI t ((tI t).1, 0)) (rdL (tI (wI t ((tI t).1, 0))).1 (nI (tI t).2.toNatClampNeg) (tI t).2.toNatClampNeg 0 rClr).2))).toNatClampNeg))), hP (tH (wG (wT (wI t ((tI t).1, 0)) (rdL (tI (wI t ((tI t).1, 0))).1 (nI (tI t).2.toNatClampNeg) (tI t).2.toNatClampNeg 0 rClr).2) (bgQ (tG (wT (wI t ((tI t).1, 0)) (rdL (tI (wI t ((tI t).1, 0))).1 (nI (tI t).2.toNatClampNeg) (tI t).2.toNatClampNeg 0 rClr).2)) (tT (wT (wI t ((tI t).1, 0)) (rdL (tI (wI t ((tI t).1, 0))).1 (nI (tI t).2.toNatClampNeg) (tI t).2.toNatClampNeg 0 rClr).2)) (rR (tT (wT (wI t ((tI t).1, 0)) (rdL (tI (wI t ((tI t).1, 0))).1 (nI (tI t).2.toNatClampNeg) (tI t).2.toNatClampNeg 0 rClr).2))).toNatClampNeg))), hS (tH (wG (wT (wI t ((tI t).1, 0)) (rdL (tI (wI t ((tI t).1, 0))).1 (nI (tI t).2.toNatClampNeg) (tI t).2.toNatClampNeg 0 rClr).2) (bgQ (tG (wT (wI t ((tI t).1, 0)) (rdL (tI (wI t ((tI t).1, 0))).1 (nI (tI t).2.toNatClampNeg) (tI t).2.toNatClampNeg 0 rClr).2)) (tT (wT (wI t ((tI t).1, 0)) (rdL (tI (wI t ((tI t).1, 0))).1 (nI (tI t).2.toNatClampNeg) (tI t).2.toNatClampNeg 0 rClr).2)) (rR (tT (wT (wI t ((tI t).1, 0)) (rdL (tI (wI t ((tI t).1, 0))).1 (nI (tI t).2.toNatClampNeg) (tI t).2.toNatClampNeg 0 rClr).2))).toNatClampNeg))), 0)))) else
    .inr (xAE, (wT (wI t ((tI t).1, 0)) (rdL (tI (wI t ((tI t).1, 0))).1 (nI (tI t).2.toNatClampNeg) (tI t).2.toNatClampNeg 0 rClr).2))) else
  .inl (some (.int ((-100) - (rdL (tI (wI t ((tI t).1, 0))).1 (nI (tI t).2.toNatClampNeg) (tI t).2.toNatClampNeg 0 rClr).1)), (wT (wI t ((tI t).1, 0)) (rdL (tI (wI t ((tI t).1, 0))).1 (nI (tI t).2.toNatClampNeg) (tI t).2.toNatClampNeg 0 rClr).2))
theorem d_X11_readRoom_0 : decode (mB M_X11_readRoom) 0 = .ok (.aload_n 0, 1) := by decide +kernel
theorem d_X11_readRoom_1 : decode (mB M_X11_readRoom) 1 = .ok (.getfield 10, 3) := by decide +kernel
theorem d_X11_readRoom_4 : decode (mB M_X11_readRoom) 4 = .ok (.invokevirtual 103, 3) := by decide +kernel
theorem d_X11_readRoom_7 : decode (mB M_X11_readRoom) 7 = .ok (.istore_n 1, 1) := by decide +kernel
theorem d_X11_readRoom_8 : decode (mB M_X11_readRoom) 8 = .ok (.aload_n 0, 1) := by decide +kernel
theorem d_X11_readRoom_9 : decode (mB M_X11_readRoom) 9 = .ok (.getfield 19, 3) := by decide +kernel
theorem d_X11_readRoom_12 : decode (mB M_X11_readRoom) 12 = .ok (.aload_n 0, 1) := by decide +kernel
theorem d_X11_readRoom_13 : decode (mB M_X11_readRoom) 13 = .ok (.getfield 10, 3) := by decide +kernel
theorem d_X11_readRoom_16 : decode (mB M_X11_readRoom) 16 = .ok (.iload_n 1, 1) := by decide +kernel
theorem d_X11_readRoom_17 : decode (mB M_X11_readRoom) 17 = .ok (.invokevirtual 107, 3) := by decide +kernel
theorem d_X11_readRoom_20 : decode (mB M_X11_readRoom) 20 = .ok (.istore_n 2, 1) := by decide +kernel
theorem d_X11_readRoom_21 : decode (mB M_X11_readRoom) 21 = .ok (.iload_n 2, 1) := by decide +kernel
theorem d_X11_readRoom_22 : decode (mB M_X11_readRoom) 22 = .ok (.iconst (-1), 1) := by decide +kernel
theorem d_X11_readRoom_23 : decode (mB M_X11_readRoom) 23 = .ok (.if_icmp .eq 8, 3) := by decide +kernel
theorem d_X11_readRoom_26 : decode (mB M_X11_readRoom) 26 = .ok (.bipush (-100), 2) := by decide +kernel
theorem d_X11_readRoom_28 : decode (mB M_X11_readRoom) 28 = .ok (.iload_n 2, 1) := by decide +kernel
theorem d_X11_readRoom_29 : decode (mB M_X11_readRoom) 29 = .ok (.isub, 1) := by decide +kernel
theorem d_X11_readRoom_30 : decode (mB M_X11_readRoom) 30 = .ok (.ireturn, 1) := by decide +kernel
theorem d_X11_readRoom_31 : decode (mB M_X11_readRoom) 31 = .ok (.aload_n 0, 1) := by decide +kernel
theorem d_X11_readRoom_32 : decode (mB M_X11_readRoom) 32 = .ok (.getfield 19, 3) := by decide +kernel
theorem d_X11_readRoom_35 : decode (mB M_X11_readRoom) 35 = .ok (.invokevirtual 111, 3) := by decide +kernel
theorem d_X11_readRoom_38 : decode (mB M_X11_readRoom) 38 = .ok (.ifCond .ne 13, 3) := by decide +kernel
theorem d_X11_readRoom_51 : decode (mB M_X11_readRoom) 51 = .ok (.aload_n 0, 1) := by decide +kernel
theorem d_X11_readRoom_52 : decode (mB M_X11_readRoom) 52 = .ok (.getfield 26, 3) := by decide +kernel
theorem d_X11_readRoom_55 : decode (mB M_X11_readRoom) 55 = .ok (.aload_n 0, 1) := by decide +kernel
theorem d_X11_readRoom_56 : decode (mB M_X11_readRoom) 56 = .ok (.getfield 19, 3) := by decide +kernel
theorem d_X11_readRoom_59 : decode (mB M_X11_readRoom) 59 = .ok (.invokevirtual 120, 3) := by decide +kernel
theorem d_X11_readRoom_62 : decode (mB M_X11_readRoom) 62 = .ok (.aload_n 0, 1) := by decide +kernel
theorem d_X11_readRoom_63 : decode (mB M_X11_readRoom) 63 = .ok (.getfield 36, 3) := by decide +kernel
theorem d_X11_readRoom_66 : decode (mB M_X11_readRoom) 66 = .ok (.invokevirtual 124, 3) := by decide +kernel
theorem d_X11_readRoom_69 : decode (mB M_X11_readRoom) 69 = .ok (.aload_n 0, 1) := by decide +kernel
theorem d_X11_readRoom_70 : decode (mB M_X11_readRoom) 70 = .ok (.getfield 26, 3) := by decide +kernel
theorem d_X11_readRoom_73 : decode (mB M_X11_readRoom) 73 = .ok (.getfield 42, 3) := by decide +kernel
theorem d_X11_readRoom_76 : decode (mB M_X11_readRoom) 76 = .ok (.getfield 127, 3) := by decide +kernel
theorem d_X11_readRoom_79 : decode (mB M_X11_readRoom) 79 = .ok (.invokestatic 133, 3) := by decide +kernel
theorem d_X11_readRoom_82 : decode (mB M_X11_readRoom) 82 = .ok (.ireturn, 1) := by decide +kernel
theorem c_readRoom {E : mEnv} (hE : E.1.stackTraces = false) (m : List mE) (t : cT)  (hl : ¬ (tI t).2 < 0) (hch : chOk (tI t).1) (hR : ¬ rR (rdL (tI t).1 (nI (tI t).2.toNatClampNeg) (tI t).2.toNatClampNeg 0 rClr).2 < 0) : Rc E M_X11_readRoom m [.ref 100] t (o_readRoom t) := by
  refine Rc.of hE rfl pn_X11 (Nat.le_of_ble_eq_true rfl) ?_
  refine g_eq (S' := (0, [some (.ref 100), none, none], [], (m, cw t))) rfl ?_
  refine g_aload_n d_X11_readRoom_0 rfl ?_
  refine g_getf d_X11_readRoom_1 f_X11_10 rfl rfl ?_
  refine g_callV (As := []) d_X11_readRoom_4 o_X10_take l_X11_103 ⟨Nat.le_of_ble_eq_true rfl, Nat.le_of_ble_eq_true rfl⟩ (c_take hE m t) rfl rfl rfl rfl rfl rfl ?_ (Nat.zero_add _)
  refine g_istore_n (L' := [some (.ref 100), some (.int ((tI t).2)), none]) d_X11_readRoom_7 rfl rfl ?_
  refine g_eq (S' := (8, [some (.ref 100), some (.int (nI (tI t).2.toNatClampNeg)), none], [], (m, cw (wI t ((tI t).1, 0))))) (by rw [← nI_cl hl]; rfl) ?_
  refine g_aload_n d_X11_readRoom_8 rfl ?_
  refine g_getf d_X11_readRoom_9 f_X11_19 rfl rfl ?_
  refine g_aload_n d_X11_readRoom_12 rfl ?_
  refine g_getf d_X11_readRoom_13 f_X11_10 rfl rfl ?_
  refine g_iload_n d_X11_readRoom_16 rfl ?_
  refine g_callV (As := [.ref 101, .int (nI (tI t).2.toNatClampNeg)]) d_X11_readRoom_17 o_X7_read l_X11_107 ⟨Nat.le_of_ble_eq_true rfl, Nat.le_of_ble_eq_true rfl⟩ (c_read hE m (wI t ((tI t).1, 0)) (tI t).2.toNatClampNeg (Int32.toNatClampNeg_lt _) hch) rfl rfl rfl rfl rfl rfl ?_ (Nat.zero_add _)
  refine g_istore_n (L' := [some (.ref 100), some (.int (nI (tI t).2.toNatClampNeg)), some (.int ((rdL (tI (wI t ((tI t).1, 0))).1 (nI (tI t).2.toNatClampNeg) (tI t).2.toNatClampNeg 0 rClr).1))]) d_X11_readRoom_20 rfl rfl ?_
  refine g_iload_n d_X11_readRoom_21 rfl ?_
  refine g_iconst (v := (-1)) d_X11_readRoom_22 (by decide) ?_
  refine g_icmp_eq (tgt := 31) d_X11_readRoom_23 (by decide) (fun c_23 => ?_) (fun c_23 => ?_)
  · refine g_aload_n d_X11_readRoom_31 rfl ?_
    refine g_getf d_X11_readRoom_32 f_X11_19 rfl rfl ?_
    refine g_callV (As := []) d_X11_readRoom_35 o_X7_isRoom l_X11_111 ⟨Nat.le_of_ble_eq_true rfl, Nat.le_of_ble_eq_true rfl⟩ (c_isRoom hE m (wT (wI t ((tI t).1, 0)) (rdL (tI (wI t ((tI t).1, 0))).1 (nI (tI t).2.toNatClampNeg) (tI t).2.toNatClampNeg 0 rClr).2)) rfl rfl rfl rfl rfl rfl ?_ (Nat.zero_add _)
    refine g_ifb_ne (tgt := 51) d_X11_readRoom_38 (by decide) (fun c_38 => ?_) (fun c_38 => ?_)
    · refine g_aload_n d_X11_readRoom_51 rfl ?_
      refine g_getf d_X11_readRoom_52 f_X11_26 rfl rfl ?_
      refine g_aload_n d_X11_readRoom_55 rfl ?_
      refine g_getf d_X11_readRoom_56 f_X11_19 rfl rfl ?_
      refine g_callV (As := [.ref 103]) d_X11_readRoom_59 o_X0_begin l_X11_120 ⟨Nat.le_of_ble_eq_true rfl, Nat.le_of_ble_eq_true rfl⟩ (c_begin hE m (wT (wI t ((tI t).1, 0)) (rdL (tI (wI t ((tI t).1, 0))).1 (nI (tI t).2.toNatClampNeg) (tI t).2.toNatClampNeg 0 rClr).2) (rR (tT (wT (wI t ((tI t).1, 0)) (rdL (tI (wI t ((tI t).1, 0))).1 (nI (tI t).2.toNatClampNeg) (tI t).2.toNatClampNeg 0 rClr).2))).toNatClampNeg (Int32.toNatClampNeg_lt _) (nI_cl hR)) rfl rfl rfl rfl rfl rfl ?_ (Nat.zero_add _)
      refine g_aload_n d_X11_readRoom_62 rfl ?_
      refine g_getf d_X11_readRoom_63 f_X11_36 rfl rfl ?_
      refine g_callV (As := []) d_X11_readRoom_66 o_X3_clear l_X11_124 ⟨Nat.le_of_ble_eq_true rfl, Nat.le_of_ble_eq_true rfl⟩ (c_hclear hE m (wG (wT (wI t ((tI t).1, 0)) (rdL (tI (wI t ((tI t).1, 0))).1 (nI (tI t).2.toNatClampNeg) (tI t).2.toNatClampNeg 0 rClr).2) (bgQ (tG (wT (wI t ((tI t).1, 0)) (rdL (tI (wI t ((tI t).1, 0))).1 (nI (tI t).2.toNatClampNeg) (tI t).2.toNatClampNeg 0 rClr).2)) (tT (wT (wI t ((tI t).1, 0)) (rdL (tI (wI t ((tI t).1, 0))).1 (nI (tI t).2.toNatClampNeg) (tI t).2.toNatClampNeg 0 rClr).2)) (rR (tT (wT (wI t ((tI t).1, 0)) (rdL (tI (wI t ((tI t).1, 0))).1 (nI (tI t).2.toNatClampNeg) (tI t).2.toNatClampNeg 0 rClr).2))).toNatClampNeg))) rfl rfl rfl rfl rfl rfl ?_ (Nat.zero_add _)
      refine g_aload_n d_X11_readRoom_69 rfl ?_
      refine g_getf d_X11_readRoom_70 f_X11_26 rfl rfl ?_
      refine g_getf d_X11_readRoom_73 f_X11_42 rfl rfl ?_
      refine g_getf d_X11_readRoom_76 f_X11_127 rfl rfl ?_
      refine g_callS (As := [.long (gO (qG (tG (wH (wG (wT (wI t ((tI t).1, 0)) (rdL (tI (wI t ((tI t).1, 0))).1 (nI (tI t).2.toNatClampNeg) (tI t).2.toNatClampNeg 0 rClr).2) (bgQ (tG (wT (wI t ((tI t).1, 0)) (rdL (tI (wI t ((tI t).1, 0))).1 (nI (tI t).2.toNatClampNeg) (tI t).2.toNatClampNeg 0 rClr).2)) (tT (wT (wI t ((tI t).1, 0)) (rdL (tI (wI t ((tI t).1, 0))).1 (nI (tI t).2.toNatClampNeg) (tI t).2.toNatClampNeg 0 rClr).2)) (rR (tT (wT (wI t ((tI t).1, 0)) (rdL (tI (wI t ((tI t).1, 0))).1 (nI (tI t).2.toNatClampNeg) (tI t).2.toNatClampNeg 0 rClr).2))).toNatClampNeg)) (hB (tH (wG (wT (wI t ((tI t).1, 0)) (rdL (tI (wI t ((tI t).1, 0))).1 (nI (tI t).2.toNatClampNeg) (tI t).2.toNatClampNeg 0 rClr).2) (bgQ (tG (wT (wI t ((tI t).1, 0)) (rdL (tI (wI t ((tI t).1, 0))).1 (nI (tI t).2.toNatClampNeg) (tI t).2.toNatClampNeg 0 rClr).2)) (tT (wT (wI t ((tI t).1, 0)) (rdL (tI (wI t ((tI t).1, 0))).1 (nI (tI t).2.toNatClampNeg) (tI t).2.toNatClampNeg 0 rClr).2)) (rR (tT (wT (wI t ((tI t).1, 0)) (rdL (tI (wI t ((tI t).1, 0))).1 (nI (tI t).2.toNatClampNeg) (tI t).2.toNatClampNeg 0 rClr).2))).toNatClampNeg))), hP (tH (wG (wT (wI t ((tI t).1, 0)) (rdL (tI (wI t ((tI t).1, 0))).1 (nI (tI t).2.toNatClampNeg) (tI t).2.toNatClampNeg 0 rClr).2) (bgQ (tG (wT (wI t ((tI t).1, 0)) (rdL (tI (wI t ((tI t).1, 0))).1 (nI (tI t).2.toNatClampNeg) (tI t).2.toNatClampNeg 0 rClr).2)) (tT (wT (wI t ((tI t).1, 0)) (rdL (tI (wI t ((tI t).1, 0))).1 (nI (tI t).2.toNatClampNeg) (tI t).2.toNatClampNeg 0 rClr).2)) (rR (tT (wT (wI t ((tI t).1, 0)) (rdL (tI (wI t ((tI t).1, 0))).1 (nI (tI t).2.toNatClampNeg) (tI t).2.toNatClampNeg 0 rClr).2))).toNatClampNeg))), hS (tH (wG (wT (wI t ((tI t).1, 0)) (rdL (tI (wI t ((tI t).1, 0))).1 (nI (tI t).2.toNatClampNeg) (tI t).2.toNatClampNeg 0 rClr).2) (bgQ (tG (wT (wI t ((tI t).1, 0)) (rdL (tI (wI t ((tI t).1, 0))).1 (nI (tI t).2.toNatClampNeg) (tI t).2.toNatClampNeg 0 rClr).2)) (tT (wT (wI t ((tI t).1, 0)) (rdL (tI (wI t ((tI t).1, 0))).1 (nI (tI t).2.toNatClampNeg) (tI t).2.toNatClampNeg 0 rClr).2)) (rR (tT (wT (wI t ((tI t).1, 0)) (rdL (tI (wI t ((tI t).1, 0))).1 (nI (tI t).2.toNatClampNeg) (tI t).2.toNatClampNeg 0 rClr).2))).toNatClampNeg))), 0)))))]) d_X11_readRoom_79 o_J13_bitCount_95d88 l_X11_133 ⟨Nat.le_of_ble_eq_true rfl, Nat.le_of_ble_eq_true rfl⟩ (c_bitCount hE (gO (qG (tG (wH (wG (wT (wI t ((tI t).1, 0)) (rdL (tI (wI t ((tI t).1, 0))).1 (nI (tI t).2.toNatClampNeg) (tI t).2.toNatClampNeg 0 rClr).2) (bgQ (tG (wT (wI t ((tI t).1, 0)) (rdL (tI (wI t ((tI t).1, 0))).1 (nI (tI t).2.toNatClampNeg) (tI t).2.toNatClampNeg 0 rClr).2)) (tT (wT (wI t ((tI t).1, 0)) (rdL (tI (wI t ((tI t).1, 0))).1 (nI (tI t).2.toNatClampNeg) (tI t).2.toNatClampNeg 0 rClr).2)) (rR (tT (wT (wI t ((tI t).1, 0)) (rdL (tI (wI t ((tI t).1, 0))).1 (nI (tI t).2.toNatClampNeg) (tI t).2.toNatClampNeg 0 rClr).2))).toNatClampNeg)) (hB (tH (wG (wT (wI t ((tI t).1, 0)) (rdL (tI (wI t ((tI t).1, 0))).1 (nI (tI t).2.toNatClampNeg) (tI t).2.toNatClampNeg 0 rClr).2) (bgQ (tG (wT (wI t ((tI t).1, 0)) (rdL (tI (wI t ((tI t).1, 0))).1 (nI (tI t).2.toNatClampNeg) (tI t).2.toNatClampNeg 0 rClr).2)) (tT (wT (wI t ((tI t).1, 0)) (rdL (tI (wI t ((tI t).1, 0))).1 (nI (tI t).2.toNatClampNeg) (tI t).2.toNatClampNeg 0 rClr).2)) (rR (tT (wT (wI t ((tI t).1, 0)) (rdL (tI (wI t ((tI t).1, 0))).1 (nI (tI t).2.toNatClampNeg) (tI t).2.toNatClampNeg 0 rClr).2))).toNatClampNeg))), hP (tH (wG (wT (wI t ((tI t).1, 0)) (rdL (tI (wI t ((tI t).1, 0))).1 (nI (tI t).2.toNatClampNeg) (tI t).2.toNatClampNeg 0 rClr).2) (bgQ (tG (wT (wI t ((tI t).1, 0)) (rdL (tI (wI t ((tI t).1, 0))).1 (nI (tI t).2.toNatClampNeg) (tI t).2.toNatClampNeg 0 rClr).2)) (tT (wT (wI t ((tI t).1, 0)) (rdL (tI (wI t ((tI t).1, 0))).1 (nI (tI t).2.toNatClampNeg) (tI t).2.toNatClampNeg 0 rClr).2)) (rR (tT (wT (wI t ((tI t).1, 0)) (rdL (tI (wI t ((tI t).1, 0))).1 (nI (tI t).2.toNatClampNeg) (tI t).2.toNatClampNeg 0 rClr).2))).toNatClampNeg))), hS (tH (wG (wT (wI t ((tI t).1, 0)) (rdL (tI (wI t ((tI t).1, 0))).1 (nI (tI t).2.toNatClampNeg) (tI t).2.toNatClampNeg 0 rClr).2) (bgQ (tG (wT (wI t ((tI t).1, 0)) (rdL (tI (wI t ((tI t).1, 0))).1 (nI (tI t).2.toNatClampNeg) (tI t).2.toNatClampNeg 0 rClr).2)) (tT (wT (wI t ((tI t).1, 0)) (rdL (tI (wI t ((tI t).1, 0))).1 (nI (tI t).2.toNatClampNeg) (tI t).2.toNatClampNeg 0 rClr).2)) (rR (tT (wT (wI t ((tI t).1, 0)) (rdL (tI (wI t ((tI t).1, 0))).1 (nI (tI t).2.toNatClampNeg) (tI t).2.toNatClampNeg 0 rClr).2))).toNatClampNeg))), 0))))) _) rfl rfl ?_ (Nat.zero_add _)
      rw [show o_readRoom t = .inl (some (.int (bcF (gO (qG (tG (wH (wG (wT (wI t ((tI t).1, 0)) (rdL (tI (wI t ((tI t).1, 0))).1 (nI (tI t).2.toNatClampNeg) (tI t).2.toNatClampNeg 0 rClr).2) (bgQ (tG (wT (wI t ((tI t).1, 0)) (rdL (tI (wI t ((tI t).1, 0))).1 (nI (tI t).2.toNatClampNeg) (tI t).2.toNatClampNeg 0 rClr).2)) (tT (wT (wI t ((tI t).1, 0)) (rdL (tI (wI t ((tI t).1, 0))).1 (nI (tI t).2.toNatClampNeg) (tI t).2.toNatClampNeg 0 rClr).2)) (rR (tT (wT (wI t ((tI t).1, 0)) (rdL (tI (wI t ((tI t).1, 0))).1 (nI (tI t).2.toNatClampNeg) (tI t).2.toNatClampNeg 0 rClr).2))).toNatClampNeg)) (hB (tH (wG (wT (wI t ((tI t).1, 0)) (rdL (tI (wI t ((tI t).1, 0))).1 (nI (tI t).2.toNatClampNeg) (tI t).2.toNatClampNeg 0 rClr).2) (bgQ (tG (wT (wI t ((tI t).1, 0)) (rdL (tI (wI t ((tI t).1, 0))).1 (nI (tI t).2.toNatClampNeg) (tI t).2.toNatClampNeg 0 rClr).2)) (tT (wT (wI t ((tI t).1, 0)) (rdL (tI (wI t ((tI t).1, 0))).1 (nI (tI t).2.toNatClampNeg) (tI t).2.toNatClampNeg 0 rClr).2)) (rR (tT (wT (wI t ((tI t).1, 0)) (rdL (tI (wI t ((tI t).1, 0))).1 (nI (tI t).2.toNatClampNeg) (tI t).2.toNatClampNeg 0 rClr).2))).toNatClampNeg))), hP (tH (wG (wT (wI t ((tI t).1, 0)) (rdL (tI (wI t ((tI t).1, 0))).1 (nI (tI t).2.toNatClampNeg) (tI t).2.toNatClampNeg 0 rClr).2) (bgQ (tG (wT (wI t ((tI t).1, 0)) (rdL (tI (wI t ((tI t).1, 0))).1 (nI (tI t).2.toNatClampNeg) (tI t).2.toNatClampNeg 0 rClr).2)) (tT (wT (wI t ((tI t).1, 0)) (rdL (tI (wI t ((tI t).1, 0))).1 (nI (tI t).2.toNatClampNeg) (tI t).2.toNatClampNeg 0 rClr).2)) (rR (tT (wT (wI t ((tI t).1, 0)) (rdL (tI (wI t ((tI t).1, 0))).1 (nI (tI t).2.toNatClampNeg) (tI t).2.toNatClampNeg 0 rClr).2))).toNatClampNeg))), hS (tH (wG (wT (wI t ((tI t).1, 0)) (rdL (tI (wI t ((tI t).1, 0))).1 (nI (tI t).2.toNatClampNeg) (tI t).2.toNatClampNeg 0 rClr).2) (bgQ (tG (wT (wI t ((tI t).1, 0)) (rdL (tI (wI t ((tI t).1, 0))).1 (nI (tI t).2.toNatClampNeg) (tI t).2.toNatClampNeg 0 rClr).2)) (tT (wT (wI t ((tI t).1, 0)) (rdL (tI (wI t ((tI t).1, 0))).1 (nI (tI t).2.toNatClampNeg) (tI t).2.toNatClampNeg 0 rClr).2)) (rR (tT (wT (wI t ((tI t).1, 0)) (rdL (tI (wI t ((tI t).1, 0))).1 (nI (tI t).2.toNatClampNeg) (tI t).2.toNatClampNeg 0 rClr).2))).toNatClampNeg))), 0))))))), (wH (wG (wT (wI t ((tI t).1, 0)) (rdL (tI (wI t ((tI t).1, 0))).1 (nI (tI t).2.toNatClampNeg) (tI t).2.toNatClampNeg 0 rClr).2) (bgQ (tG (wT (wI t ((tI t).1, 0)) (rdL (tI (wI t ((tI t).1, 0))).1 (nI (tI t).2.toNatClampNeg) (tI t).2.toNatClampNeg 0 rClr).2)) (tT (wT (wI t ((tI t).1, 0)) (rdL (tI (wI t ((tI t).1, 0))).1 (nI (tI t).2.toNatClampNeg) (tI t).2.toNatClampNeg 0 rClr).2)) (rR (tT (wT (wI t ((tI t).1, 0)) (rdL (tI (wI t ((tI t).1, 0))).1 (nI (tI t).2.toNatClampNeg) (tI t).2.toNatClampNeg 0 rClr).2))).toNatClampNeg)) (hB (tH (wG (wT (wI t ((tI t).1, 0)) (rdL (tI (wI t ((tI t).1, 0))).1 (nI (tI t).2.toNatClampNeg) (tI t).2.toNatClampNeg 0 rClr).2) (bgQ (tG (wT (wI t ((tI t).1, 0)) (rdL (tI (wI t ((tI t).1, 0))).1 (nI (tI t).2.toNatClampNeg) (tI t).2.toNatClampNeg 0 rClr).2)) (tT (wT (wI t ((tI t).1, 0)) (rdL (tI (wI t ((tI t).1, 0))).1 (nI (tI t).2.toNatClampNeg) (tI t).2.toNatClampNeg 0 rClr).2)) (rR (tT (wT (wI t ((tI t).1, 0)) (rdL (tI (wI t ((tI t).1, 0))).1 (nI (tI t).2.toNatClampNeg) (tI t).2.toNatClampNeg 0 rClr).2))).toNatClampNeg))), hP (tH (wG (wT (wI t ((tI t).1, 0)) (rdL (tI (wI t ((tI t).1, 0))).1 (nI (tI t).2.toNatClampNeg) (tI t).2.toNatClampNeg 0 rClr).2) (bgQ (tG (wT (wI t ((tI t).1, 0)) (rdL (tI (wI t ((tI t).1, 0))).1 (nI (tI t).2.toNatClampNeg) (tI t).2.toNatClampNeg 0 rClr).2)) (tT (wT (wI t ((tI t).1, 0)) (rdL (tI (wI t ((tI t).1, 0))).1 (nI (tI t).2.toNatClampNeg) (tI t).2.toNatClampNeg 0 rClr).2)) (rR (tT (wT (wI t ((tI t).1, 0)) (rdL (tI (wI t ((tI t).1, 0))).1 (nI (tI t).2.toNatClampNeg) (tI t).2.toNatClampNeg 0 rClr).2))).toNatClampNeg))), hS (tH (wG (wT (wI t ((tI t).1, 0)) (rdL (tI (wI t ((tI t).1, 0))).1 (nI (tI t).2.toNatClampNeg) (tI t).2.toNatClampNeg 0 rClr).2) (bgQ (tG (wT (wI t ((tI t).1, 0)) (rdL (tI (wI t ((tI t).1, 0))).1 (nI (tI t).2.toNatClampNeg) (tI t).2.toNatClampNeg 0 rClr).2)) (tT (wT (wI t ((tI t).1, 0)) (rdL (tI (wI t ((tI t).1, 0))).1 (nI (tI t).2.toNatClampNeg) (tI t).2.toNatClampNeg 0 rClr).2)) (rR (tT (wT (wI t ((tI t).1, 0)) (rdL (tI (wI t ((tI t).1, 0))).1 (nI (tI t).2.toNatClampNeg) (tI t).2.toNatClampNeg 0 rClr).2))).toNatClampNeg))), 0))) by simp only [o_readRoom, eq_true c_23, c_38, ↓reduceIte, Bool.false_eq_true, Bool.true_eq_false, not_true_eq_false, not_false_eq_true]; try rfl]
      exact g_retI d_X11_readRoom_82 rfl (rfl) (rfl)
    · rw [show o_readRoom t = .inr (xAE, (wT (wI t ((tI t).1, 0)) (rdL (tI (wI t ((tI t).1, 0))).1 (nI (tI t).2.toNatClampNeg) (tI t).2.toNatClampNeg 0 rClr).2)) by simp only [o_readRoom, eq_true c_23, c_38, ↓reduceIte, Bool.false_eq_true, Bool.true_eq_false, not_true_eq_false, not_false_eq_true]; try rfl]
      exact g_throw (n := 0) th_X11_readRoom_41 rfl
  · refine g_bipush (v := (-100)) d_X11_readRoom_26 (by decide) ?_
    refine g_iload_n d_X11_readRoom_28 rfl ?_
    refine g_isub d_X11_readRoom_29 ?_
    rw [show o_readRoom t = .inl (some (.int ((-100) - (rdL (tI (wI t ((tI t).1, 0))).1 (nI (tI t).2.toNatClampNeg) (tI t).2.toNatClampNeg 0 rClr).1)), (wT (wI t ((tI t).1, 0)) (rdL (tI (wI t ((tI t).1, 0))).1 (nI (tI t).2.toNatClampNeg) (tI t).2.toNatClampNeg 0 rClr).2)) by simp only [o_readRoom, eq_false c_23, ↓reduceIte, Bool.false_eq_true, Bool.true_eq_false, not_true_eq_false, not_false_eq_true]; try rfl]
    exact g_retI d_X11_readRoom_30 rfl (rfl) (rfl)
