/-! Matching, Solution -/
def oTo (s : Nat → Int32) (box set dist : Int32) : Nat → Int32 := if (intAtF 32 s (set &&& ((1 <<< (box &&& 31)) ^^^ (-1)))) = -1 then s else if dist = -1 then s else if intAtF 32 s set = -1 then setIntF 32 s set ((intAtF 32 s (set &&& ((1 <<< (box &&& 31)) ^^^ (-1)))) + dist) else if intAtF 32 s set ≤ (intAtF 32 s (set &&& ((1 <<< (box &&& 31)) ^^^ (-1)))) + dist then s else setIntF 32 s set ((intAtF 32 s (set &&& ((1 <<< (box &&& 31)) ^^^ (-1)))) + dist)
theorem d_X5_offerTo_0 : decode (mB M_X5_offerTo) 0 = .ok (.aload_n 0, 1) := by decide +kernel
theorem d_X5_offerTo_1 : decode (mB M_X5_offerTo) 1 = .ok (.getfield 19, 3) := by decide +kernel
theorem d_X5_offerTo_4 : decode (mB M_X5_offerTo) 4 = .ok (.iload_n 2, 1) := by decide +kernel
theorem d_X5_offerTo_5 : decode (mB M_X5_offerTo) 5 = .ok (.iconst 1, 1) := by decide +kernel
theorem d_X5_offerTo_6 : decode (mB M_X5_offerTo) 6 = .ok (.iload_n 1, 1) := by decide +kernel
theorem d_X5_offerTo_7 : decode (mB M_X5_offerTo) 7 = .ok (.ishl, 1) := by decide +kernel
theorem d_X5_offerTo_8 : decode (mB M_X5_offerTo) 8 = .ok (.iconst (-1), 1) := by decide +kernel
theorem d_X5_offerTo_9 : decode (mB M_X5_offerTo) 9 = .ok (.ixor, 1) := by decide +kernel
theorem d_X5_offerTo_10 : decode (mB M_X5_offerTo) 10 = .ok (.iand, 1) := by decide +kernel
theorem d_X5_offerTo_11 : decode (mB M_X5_offerTo) 11 = .ok (.invokestatic 44, 3) := by decide +kernel
theorem d_X5_offerTo_14 : decode (mB M_X5_offerTo) 14 = .ok (.istore 4, 2) := by decide +kernel
theorem d_X5_offerTo_16 : decode (mB M_X5_offerTo) 16 = .ok (.iload 4, 2) := by decide +kernel
theorem d_X5_offerTo_18 : decode (mB M_X5_offerTo) 18 = .ok (.iconst (-1), 1) := by decide +kernel
theorem d_X5_offerTo_19 : decode (mB M_X5_offerTo) 19 = .ok (.if_icmp .eq 8, 3) := by decide +kernel
theorem d_X5_offerTo_22 : decode (mB M_X5_offerTo) 22 = .ok (.iload_n 3, 1) := by decide +kernel
theorem d_X5_offerTo_23 : decode (mB M_X5_offerTo) 23 = .ok (.iconst (-1), 1) := by decide +kernel
theorem d_X5_offerTo_24 : decode (mB M_X5_offerTo) 24 = .ok (.if_icmp .ne 4, 3) := by decide +kernel
theorem d_X5_offerTo_27 : decode (mB M_X5_offerTo) 27 = .ok (.return_, 1) := by decide +kernel
theorem d_X5_offerTo_28 : decode (mB M_X5_offerTo) 28 = .ok (.aload_n 0, 1) := by decide +kernel
theorem d_X5_offerTo_29 : decode (mB M_X5_offerTo) 29 = .ok (.getfield 19, 3) := by decide +kernel
theorem d_X5_offerTo_32 : decode (mB M_X5_offerTo) 32 = .ok (.iload_n 2, 1) := by decide +kernel
theorem d_X5_offerTo_33 : decode (mB M_X5_offerTo) 33 = .ok (.invokestatic 44, 3) := by decide +kernel
theorem d_X5_offerTo_36 : decode (mB M_X5_offerTo) 36 = .ok (.istore 5, 2) := by decide +kernel
theorem d_X5_offerTo_38 : decode (mB M_X5_offerTo) 38 = .ok (.iload 5, 2) := by decide +kernel
theorem d_X5_offerTo_40 : decode (mB M_X5_offerTo) 40 = .ok (.iconst (-1), 1) := by decide +kernel
theorem d_X5_offerTo_41 : decode (mB M_X5_offerTo) 41 = .ok (.if_icmp .eq 12, 3) := by decide +kernel
theorem d_X5_offerTo_44 : decode (mB M_X5_offerTo) 44 = .ok (.iload 4, 2) := by decide +kernel
theorem d_X5_offerTo_46 : decode (mB M_X5_offerTo) 46 = .ok (.iload_n 3, 1) := by decide +kernel
theorem d_X5_offerTo_47 : decode (mB M_X5_offerTo) 47 = .ok (.iadd, 1) := by decide +kernel
theorem d_X5_offerTo_48 : decode (mB M_X5_offerTo) 48 = .ok (.iload 5, 2) := by decide +kernel
theorem d_X5_offerTo_50 : decode (mB M_X5_offerTo) 50 = .ok (.if_icmp .ge 15, 3) := by decide +kernel
theorem d_X5_offerTo_53 : decode (mB M_X5_offerTo) 53 = .ok (.aload_n 0, 1) := by decide +kernel
theorem d_X5_offerTo_54 : decode (mB M_X5_offerTo) 54 = .ok (.getfield 19, 3) := by decide +kernel
theorem d_X5_offerTo_57 : decode (mB M_X5_offerTo) 57 = .ok (.iload_n 2, 1) := by decide +kernel
theorem d_X5_offerTo_58 : decode (mB M_X5_offerTo) 58 = .ok (.iload 4, 2) := by decide +kernel
theorem d_X5_offerTo_60 : decode (mB M_X5_offerTo) 60 = .ok (.iload_n 3, 1) := by decide +kernel
theorem d_X5_offerTo_61 : decode (mB M_X5_offerTo) 61 = .ok (.iadd, 1) := by decide +kernel
theorem d_X5_offerTo_62 : decode (mB M_X5_offerTo) 62 = .ok (.invokestatic 26, 3) := by decide +kernel
theorem d_X5_offerTo_65 : decode (mB M_X5_offerTo) 65 = .ok (.return_, 1) := by decide +kernel
theorem c_offerTo {E : mEnv} (hE : E.1.stackTraces = false) (m : List mE) (t : cT) (box set dist : Int32) : Rt E M_X5_offerTo 0 [.ref 127, .int box, .int set, .int dist] ((m, cw t)) none ((m, cw (wM t ((tM t).1, oTo (tM t).2 box set dist)))) := by
  refine Rt.of hE rfl pn_X5 (Nat.le_of_ble_eq_true rfl) ?_
  refine g_eq (S' := (0, [some (.ref 127), some (.int box), some (.int set), some (.int dist), none, none], [], (m, cw t))) rfl ?_
  refine g_aload_n d_X5_offerTo_0 rfl ?_
  refine g_getf d_X5_offerTo_1 f_X5_19 rfl rfl ?_
  refine g_iload_n d_X5_offerTo_4 rfl ?_
  refine g_iconst (v := 1) d_X5_offerTo_5 (by decide) ?_
  refine g_iload_n d_X5_offerTo_6 rfl ?_
  refine g_ishl d_X5_offerTo_7 ?_
  refine g_iconst (v := (-1)) d_X5_offerTo_8 (by decide) ?_
  refine g_ixor d_X5_offerTo_9 ?_
  refine g_iand d_X5_offerTo_10 ?_
  refine g_callN (As := [.ref 129, .int (set &&& ((1 <<< (box &&& 31)) ^^^ (-1)))]) d_X5_offerTo_11 o_X11_intAt n_X5_44 ⟨Nat.le_of_ble_eq_true rfl, Nat.le_of_ble_eq_true rfl⟩ (c_intAt hE 129 32 (tM t).2 (set &&& ((1 <<< (box &&& 31)) ^^^ (-1))) _ (by decide) rfl) rfl rfl ?_ (Nat.zero_add _)
  refine g_istore (L' := [some (.ref 127), some (.int box), some (.int set), some (.int dist), some (.int (intAtF 32 (tM t).2 (set &&& ((1 <<< (box &&& 31)) ^^^ (-1))))), none]) d_X5_offerTo_14 rfl rfl ?_
  refine g_iload d_X5_offerTo_16 rfl ?_
  refine g_iconst (v := (-1)) d_X5_offerTo_18 (by decide) ?_
  refine g_icmp_eq (tgt := 27) d_X5_offerTo_19 (by decide) (fun c_19 => ?_) (fun c_19 => ?_)
  · exact g_retV d_X5_offerTo_27 rfl (by simp only [oTo, eq_true c_19, ↓reduceIte]; rfl)
  · refine g_iload_n d_X5_offerTo_22 rfl ?_
    refine g_iconst (v := (-1)) d_X5_offerTo_23 (by decide) ?_
    refine g_icmp_ne (tgt := 28) d_X5_offerTo_24 (by decide) (fun c_24 => ?_) (fun c_24 => ?_)
    · refine g_aload_n d_X5_offerTo_28 rfl ?_
      refine g_getf d_X5_offerTo_29 f_X5_19 rfl rfl ?_
      refine g_iload_n d_X5_offerTo_32 rfl ?_
      refine g_callN (As := [.ref 129, .int set]) d_X5_offerTo_33 o_X11_intAt n_X5_44 ⟨Nat.le_of_ble_eq_true rfl, Nat.le_of_ble_eq_true rfl⟩ (c_intAt hE 129 32 (tM t).2 set _ (by decide) rfl) rfl rfl ?_ (Nat.zero_add _)
      refine g_istore (L' := [some (.ref 127), some (.int box), some (.int set), some (.int dist), some (.int (intAtF 32 (tM t).2 (set &&& ((1 <<< (box &&& 31)) ^^^ (-1))))), some (.int (intAtF 32 (tM t).2 set))]) d_X5_offerTo_36 rfl rfl ?_
      refine g_iload d_X5_offerTo_38 rfl ?_
      refine g_iconst (v := (-1)) d_X5_offerTo_40 (by decide) ?_
      refine g_icmp_eq (tgt := 53) d_X5_offerTo_41 (by decide) (fun c_41 => ?_) (fun c_41 => ?_)
      · refine g_aload_n d_X5_offerTo_53 rfl ?_
        refine g_getf d_X5_offerTo_54 f_X5_19 rfl rfl ?_
        refine g_iload_n d_X5_offerTo_57 rfl ?_
        refine g_iload d_X5_offerTo_58 rfl ?_
        refine g_iload_n d_X5_offerTo_60 rfl ?_
        refine g_iadd d_X5_offerTo_61 ?_
        refine g_callN (As := [.ref 129, .int set, .int ((intAtF 32 (tM t).2 (set &&& ((1 <<< (box &&& 31)) ^^^ (-1)))) + dist)]) d_X5_offerTo_62 o_X11_setInt n_X5_26 ⟨Nat.le_of_ble_eq_true rfl, Nat.le_of_ble_eq_true rfl⟩ (c_setInt hE 129 32 (tM t).2 set ((intAtF 32 (tM t).2 (set &&& ((1 <<< (box &&& 31)) ^^^ (-1)))) + dist) _ (by decide) rfl) rfl rfl ?_ (Nat.zero_add _)
        exact g_retV d_X5_offerTo_65 rfl (by simp only [oTo, eq_false c_19, eq_false c_24, eq_true c_41, ↓reduceIte]; rfl)
      · refine g_iload d_X5_offerTo_44 rfl ?_
        refine g_iload_n d_X5_offerTo_46 rfl ?_
        refine g_iadd d_X5_offerTo_47 ?_
        refine g_iload d_X5_offerTo_48 rfl ?_
        refine g_icmp_ge (tgt := 65) d_X5_offerTo_50 (by decide) (fun c_50 => ?_) (fun c_50 => ?_)
        · exact g_retV d_X5_offerTo_65 rfl (by simp only [oTo, eq_false c_19, eq_false c_24, eq_false c_41, eq_true c_50, ↓reduceIte]; rfl)
        · refine g_aload_n d_X5_offerTo_53 rfl ?_
          refine g_getf d_X5_offerTo_54 f_X5_19 rfl rfl ?_
          refine g_iload_n d_X5_offerTo_57 rfl ?_
          refine g_iload d_X5_offerTo_58 rfl ?_
          refine g_iload_n d_X5_offerTo_60 rfl ?_
          refine g_iadd d_X5_offerTo_61 ?_
          refine g_callN (As := [.ref 129, .int set, .int ((intAtF 32 (tM t).2 (set &&& ((1 <<< (box &&& 31)) ^^^ (-1)))) + dist)]) d_X5_offerTo_62 o_X11_setInt n_X5_26 ⟨Nat.le_of_ble_eq_true rfl, Nat.le_of_ble_eq_true rfl⟩ (c_setInt hE 129 32 (tM t).2 set ((intAtF 32 (tM t).2 (set &&& ((1 <<< (box &&& 31)) ^^^ (-1)))) + dist) _ (by decide) rfl) rfl rfl ?_ (Nat.zero_add _)
          exact g_retV d_X5_offerTo_65 rfl (by simp only [oTo, eq_false c_19, eq_false c_24, eq_false c_41, eq_false c_50, ↓reduceIte]; rfl)
    · exact g_retV d_X5_offerTo_27 rfl (by simp only [oTo, eq_false c_19, eq_true c_24, ↓reduceIte]; rfl)
/-- one goal is offered to the boxes of a set -/
def of1 (d : Nat → Int32) (goal set : Int32) : Nat → Nat → (Nat → Int32) → (Nat → Int32)
  | 0, _, s => s
  | n + 1, k, s => of1 d goal set n (k + 1) (if (set >>> (nI k &&& 31)) &&& 1 = 0 then s else oTo s (nI k) set (intAtF 320 d (64 * nI k + goal)))
def of2 (d : Nat → Int32) (goal : Int32) (N : Nat) : Nat → (Nat → Int32) → (Nat → Int32)
  | 0, s => s
  | j + 1, s => of2 d goal N j (of1 d goal (nI (j + 1)) N 0 s)
theorem d_X5_offer_0 : decode (mB M_X5_offer) 0 = .ok (.iconst 1, 1) := by decide +kernel
theorem d_X5_offer_1 : decode (mB M_X5_offer) 1 = .ok (.iload_n 2, 1) := by decide +kernel
theorem d_X5_offer_2 : decode (mB M_X5_offer) 2 = .ok (.ishl, 1) := by decide +kernel
theorem d_X5_offer_3 : decode (mB M_X5_offer) 3 = .ok (.iconst 1, 1) := by decide +kernel
theorem d_X5_offer_4 : decode (mB M_X5_offer) 4 = .ok (.isub, 1) := by decide +kernel
theorem d_X5_offer_5 : decode (mB M_X5_offer) 5 = .ok (.istore_n 3, 1) := by decide +kernel
theorem d_X5_offer_6 : decode (mB M_X5_offer) 6 = .ok (.iload_n 3, 1) := by decide +kernel
theorem d_X5_offer_7 : decode (mB M_X5_offer) 7 = .ok (.ifCond .le 54, 3) := by decide +kernel
theorem d_X5_offer_10 : decode (mB M_X5_offer) 10 = .ok (.iconst 0, 1) := by decide +kernel
theorem d_X5_offer_11 : decode (mB M_X5_offer) 11 = .ok (.istore 4, 2) := by decide +kernel
theorem d_X5_offer_13 : decode (mB M_X5_offer) 13 = .ok (.iload 4, 2) := by decide +kernel
theorem d_X5_offer_15 : decode (mB M_X5_offer) 15 = .ok (.iload_n 2, 1) := by decide +kernel
theorem d_X5_offer_16 : decode (mB M_X5_offer) 16 = .ok (.if_icmp .ge 39, 3) := by decide +kernel
theorem d_X5_offer_19 : decode (mB M_X5_offer) 19 = .ok (.iload_n 3, 1) := by decide +kernel
theorem d_X5_offer_20 : decode (mB M_X5_offer) 20 = .ok (.iload 4, 2) := by decide +kernel
theorem d_X5_offer_22 : decode (mB M_X5_offer) 22 = .ok (.ishr, 1) := by decide +kernel
theorem d_X5_offer_23 : decode (mB M_X5_offer) 23 = .ok (.iconst 1, 1) := by decide +kernel
theorem d_X5_offer_24 : decode (mB M_X5_offer) 24 = .ok (.iand, 1) := by decide +kernel
theorem d_X5_offer_25 : decode (mB M_X5_offer) 25 = .ok (.ifCond .eq 24, 3) := by decide +kernel
theorem d_X5_offer_28 : decode (mB M_X5_offer) 28 = .ok (.aload_n 0, 1) := by decide +kernel
theorem d_X5_offer_29 : decode (mB M_X5_offer) 29 = .ok (.iload 4, 2) := by decide +kernel
theorem d_X5_offer_31 : decode (mB M_X5_offer) 31 = .ok (.iload_n 3, 1) := by decide +kernel
theorem d_X5_offer_32 : decode (mB M_X5_offer) 32 = .ok (.aload_n 0, 1) := by decide +kernel
theorem d_X5_offer_33 : decode (mB M_X5_offer) 33 = .ok (.getfield 15, 3) := by decide +kernel
theorem d_X5_offer_36 : decode (mB M_X5_offer) 36 = .ok (.bipush 64, 2) := by decide +kernel
theorem d_X5_offer_38 : decode (mB M_X5_offer) 38 = .ok (.iload 4, 2) := by decide +kernel
theorem d_X5_offer_40 : decode (mB M_X5_offer) 40 = .ok (.imul, 1) := by decide +kernel
theorem d_X5_offer_41 : decode (mB M_X5_offer) 41 = .ok (.iload_n 1, 1) := by decide +kernel
theorem d_X5_offer_42 : decode (mB M_X5_offer) 42 = .ok (.iadd, 1) := by decide +kernel
theorem d_X5_offer_43 : decode (mB M_X5_offer) 43 = .ok (.invokestatic 44, 3) := by decide +kernel
theorem d_X5_offer_46 : decode (mB M_X5_offer) 46 = .ok (.invokevirtual 61, 3) := by decide +kernel
theorem d_X5_offer_49 : decode (mB M_X5_offer) 49 = .ok (.iinc 4 1, 3) := by decide +kernel
theorem d_X5_offer_52 : decode (mB M_X5_offer) 52 = .ok (.goto (-39), 3) := by decide +kernel
theorem d_X5_offer_55 : decode (mB M_X5_offer) 55 = .ok (.iinc 3 (-1), 3) := by decide +kernel
theorem d_X5_offer_58 : decode (mB M_X5_offer) 58 = .ok (.goto (-52), 3) := by decide +kernel
theorem d_X5_offer_61 : decode (mB M_X5_offer) 61 = .ok (.return_, 1) := by decide +kernel
theorem l_offerI {E : mEnv} (hE : E.1.stackTraces = false) (m : List mE) (goal set : Int32) (N : Nat) (hN : N < 2 ^ 31) : ∀ (n : Nat) (k : Nat) (t : cT), k + n = N → Go E M_X5_offer 0 (13, [some (.ref 127), some (.int goal), some (.int (nI N)), some (.int set), some (.int (nI k))], [], (m, cw t)) (.inl (55, [some (.ref 127), some (.int goal), some (.int (nI N)), some (.int set), none], [], (m, cw (wM t ((tM t).1, of1 (tM t).1 goal set n k (tM t).2))))) := by
  intro n
  induction n with
  | zero =>
    intro k t hk
    obtain rfl : k = N := by omega
    refine g_iload d_X5_offer_13 rfl ?_
    refine g_iload_n d_X5_offer_15 rfl ?_
    refine g_icmp_ge (tgt := 55) d_X5_offer_16 (by decide) (fun c_16 => ?_) (fun c_16 => absurd c_16 (absurd (nI_le (Nat.le_refl k) hN) c_16))
    refine g_drop [4] rfl ?_
    exact g_end rfl
  | succ n ih =>
    intro k t hk
    refine g_iload d_X5_offer_13 rfl ?_
    refine g_iload_n d_X5_offer_15 rfl ?_
    refine g_icmp_ge (tgt := 55) d_X5_offer_16 (by decide) (fun c_16 => absurd c_16 (nI_ge (a := k) (b := N) (by omega) hN)) (fun c_16 => ?_)
    refine g_iload_n d_X5_offer_19 rfl ?_
    refine g_iload d_X5_offer_20 rfl ?_
    refine g_ishr d_X5_offer_22 ?_
    refine g_iconst (v := 1) d_X5_offer_23 (by decide) ?_
    refine g_iand d_X5_offer_24 ?_
    refine g_if_eq (tgt := 49) d_X5_offer_25 (by decide) (fun c_25 => ?_) (fun c_25 => ?_)
    · refine g_iinc (v := ((nI k) + 1)) (L' := [some (.ref 127), some (.int goal), some (.int (nI N)), some (.int set), some (.int ((nI k) + 1))]) d_X5_offer_49 rfl rfl rfl ?_
      refine g_goto (tgt := 13) d_X5_offer_52 (by decide) ?_
      refine g_eq (S' := (13, [some (.ref 127), some (.int goal), some (.int (nI N)), some (.int set), some (.int (nI (k + 1)))], [], (m, cw t))) (by first | rfl | (rw [nI_1]; rfl) | (simp only [nI_1]; rfl) | simp only [nI_1]) ?_
      rw [show of1 (tM t).1 goal set (n + 1) k (tM t).2 = of1 (tM t).1 goal set n (k + 1) (tM t).2 by simp only [of1, eq_true c_25, ↓reduceIte]; try rfl]
      exact ih (k + 1) t (by omega)
    · refine g_aload_n d_X5_offer_28 rfl ?_
      refine g_iload d_X5_offer_29 rfl ?_
      refine g_iload_n d_X5_offer_31 rfl ?_
      refine g_aload_n d_X5_offer_32 rfl ?_
      refine g_getf d_X5_offer_33 f_X5_15 rfl rfl ?_
      refine g_bipush (v := 64) d_X5_offer_36 (by decide) ?_
      refine g_iload d_X5_offer_38 rfl ?_
      refine g_imul d_X5_offer_40 ?_
      refine g_iload_n d_X5_offer_41 rfl ?_
      refine g_iadd d_X5_offer_42 ?_
      refine g_callN (As := [.ref 128, .int ((64 * (nI k)) + goal)]) d_X5_offer_43 o_X11_intAt n_X5_44 ⟨Nat.le_of_ble_eq_true rfl, Nat.le_of_ble_eq_true rfl⟩ (c_intAt hE 128 320 (tM t).1 ((64 * (nI k)) + goal) _ (by decide) rfl) rfl rfl ?_ (Nat.zero_add _)
      refine g_callV (As := [.int (nI k), .int set, .int (intAtF 320 (tM t).1 ((64 * (nI k)) + goal))]) d_X5_offer_46 o_X5_offerTo l_X5_61 ⟨Nat.le_of_ble_eq_true rfl, Nat.le_of_ble_eq_true rfl⟩ (c_offerTo hE m t (nI k) set (intAtF 320 (tM t).1 ((64 * (nI k)) + goal))) rfl rfl rfl rfl rfl rfl ?_ (Nat.zero_add _)
      refine g_iinc (v := ((nI k) + 1)) (L' := [some (.ref 127), some (.int goal), some (.int (nI N)), some (.int set), some (.int ((nI k) + 1))]) d_X5_offer_49 rfl rfl rfl ?_
      refine g_goto (tgt := 13) d_X5_offer_52 (by decide) ?_
      refine g_eq (S' := (13, [some (.ref 127), some (.int goal), some (.int (nI N)), some (.int set), some (.int (nI (k + 1)))], [], (m, cw (wM t ((tM t).1, oTo (tM t).2 (nI k) set (intAtF 320 (tM t).1 (64 * nI k + goal))))))) (by first | rfl | (rw [nI_1]; rfl) | (simp only [nI_1]; rfl) | simp only [nI_1]) ?_
      rw [show of1 (tM t).1 goal set (n + 1) k (tM t).2 = of1 (tM (wM t ((tM t).1, oTo (tM t).2 (nI k) set (intAtF 320 (tM t).1 (64 * nI k + goal))))).1 goal set n (k + 1) (tM (wM t ((tM t).1, oTo (tM t).2 (nI k) set (intAtF 320 (tM t).1 (64 * nI k + goal))))).2 by simp only [of1, eq_false c_25, ↓reduceIte]; try rfl]
      exact ih (k + 1) (wM t ((tM t).1, oTo (tM t).2 (nI k) set (intAtF 320 (tM t).1 (64 * nI k + goal)))) (by omega)
theorem l_offer {E : mEnv} (hE : E.1.stackTraces = false) (m : List mE) (goal : Int32) (N : Nat) (hN : N < 2 ^ 31) : ∀ (n : Nat) (t : cT), n < 2 ^ 31 → Go E M_X5_offer 0 (6, [some (.ref 127), some (.int goal), some (.int (nI N)), some (.int (nI n)), none], [], (m, cw t)) (.inr (.inl (none, (m, cw (wM t ((tM t).1, of2 (tM t).1 goal N n (tM t).2)))))) := by
  intro n
  induction n with
  | zero =>
    intro t hn
    refine g_iload_n d_X5_offer_6 rfl ?_
    refine g_if_le (tgt := 61) d_X5_offer_7 (by decide) (fun c_7 => ?_) (fun c_7 => absurd c_7 (absurd (show nI 0 ≤ 0 by decide) c_7))
    exact g_retV d_X5_offer_61 rfl (rfl)
  | succ n ih =>
    intro t hn
    refine g_iload_n d_X5_offer_6 rfl ?_
    refine g_if_le (tgt := 61) d_X5_offer_7 (by decide) (fun c_7 => absurd c_7 (nI_nle (by omega) hn)) (fun c_7 => ?_)
    refine g_iconst (v := 0) d_X5_offer_10 (by decide) ?_
    refine g_istore (L' := [some (.ref 127), some (.int goal), some (.int (nI N)), some (.int (nI (n + 1))), some (.int 0)]) d_X5_offer_11 rfl rfl ?_
    refine g_eq (S' := (13, [some (.ref 127), some (.int goal), some (.int (nI N)), some (.int (nI (n + 1))), some (.int (nI 0))], [], (m, cw t))) (by first | rfl | (rw [nI_1]; rfl) | (simp only [nI_1]; rfl) | simp only [nI_1]) ?_
    refine Go.trans0 (l_offerI hE m goal (nI (n + 1)) N hN N 0 t (by omega)) ?_
    refine g_eq (S' := (55, [some (.ref 127), some (.int goal), some (.int (nI N)), some (.int (nI (n + 1))), none], [], (m, cw (wM t ((tM t).1, of1 (tM t).1 goal (nI (n + 1)) N 0 (tM t).2))))) rfl ?_
    refine g_iinc (v := ((nI (n + 1)) + (-1))) (L' := [some (.ref 127), some (.int goal), some (.int (nI N)), some (.int ((nI (n + 1)) + (-1))), none]) d_X5_offer_55 rfl rfl rfl ?_
    refine g_goto (tgt := 6) d_X5_offer_58 (by decide) ?_
    refine g_eq (S' := (6, [some (.ref 127), some (.int goal), some (.int (nI N)), some (.int (nI n)), none], [], (m, cw (wM t ((tM t).1, of1 (tM t).1 goal (nI (n + 1)) N 0 (tM t).2))))) (by first | (rw [← pk_m1 n]; done) | (rw [← pk_m1 n]; rfl)) ?_
    exact ih (wM t ((tM t).1, of1 (tM t).1 goal (nI (n + 1)) N 0 (tM t).2)) (by omega)
theorem c_offer {E : mEnv} (hE : E.1.stackTraces = false) (m : List mE) (t : cT) (goal : Int32) (N J : Nat) (hN : N < 2 ^ 31) (hJ : J < 2 ^ 31) (hs : (1 <<< (nI N &&& 31) : Int32) - 1 = nI J) : Rt E M_X5_offer 0 [.ref 127, .int goal, .int ((nI N))] ((m, cw t)) none ((m, cw (wM t ((tM t).1, of2 (tM t).1 goal N J (tM t).2)))) := by
  refine Rt.of hE rfl pn_X5 (Nat.le_of_ble_eq_true rfl) ?_
  refine g_eq (S' := (0, [some (.ref 127), some (.int goal), some (.int (nI N)), none, none], [], (m, cw t))) rfl ?_
  refine g_iconst (v := 1) d_X5_offer_0 (by decide) ?_
  refine g_iload_n d_X5_offer_1 rfl ?_
  refine g_ishl d_X5_offer_2 ?_
  refine g_iconst (v := 1) d_X5_offer_3 (by decide) ?_
  refine g_isub d_X5_offer_4 ?_
  refine g_istore_n (L' := [some (.ref 127), some (.int goal), some (.int (nI N)), some (.int ((1 <<< ((nI N) &&& 31)) - 1)), none]) d_X5_offer_5 rfl rfl ?_
  refine g_eq (S' := (6, [some (.ref 127), some (.int goal), some (.int (nI N)), some (.int (nI J)), none], [], (m, cw t))) (by first | (rw [← hs]; done) | (rw [← hs]; rfl)) ?_
  exact l_offer hE m goal N hN J t hJ
def mf1 (off : Int32) : Nat → Nat → (Nat → Int32) → (Nat → Int32)
  | 0, _, d => d
  | n + 1, k, d => mf1 off n (k + 1) (setIntF 320 d (off + nI k) (-1))
def mf2 (off : Int32) (q : Int64) (p : Int32) : Nat → Nat → (Nat → Int32) → (Nat → Int32)
  | 0, _, d => d
  | n + 1, k, d => mf2 off q p n (k + 1) (if hasF q (nI k) = true then setIntF 320 d (off + nI k) p else d)
def mf3 (g : gT) (off : Int32) : Nat → Nat → Int64 → Int64 → (Nat → Int32) → (Nat → Int32)
  | 0, _, _, _, d => d
  | n + 1, p, a, b, d => if a = 0 then d else mf3 g off n (p + 1) (gLp g a &&& (b ^^^ (-1))) (b ||| (gLp g a &&& (b ^^^ (-1)))) (mf2 off (a &&& gG g) (nI p) 64 0 d)
def mfF (g : gT) (c off : Int32) (d : Nat → Int32) : Nat → Int32 := mf3 g off 64 0 (jshl 1 c) (jshl 1 c) (mf1 off 64 0 d)
theorem d_X5_measureFrom_0 : decode (mB M_X5_measureFrom) 0 = .ok (.iconst 0, 1) := by decide +kernel
theorem d_X5_measureFrom_1 : decode (mB M_X5_measureFrom) 1 = .ok (.istore_n 3, 1) := by decide +kernel
theorem d_X5_measureFrom_2 : decode (mB M_X5_measureFrom) 2 = .ok (.iload_n 3, 1) := by decide +kernel
theorem d_X5_measureFrom_3 : decode (mB M_X5_measureFrom) 3 = .ok (.bipush 64, 2) := by decide +kernel
theorem d_X5_measureFrom_5 : decode (mB M_X5_measureFrom) 5 = .ok (.if_icmp .ge 20, 3) := by decide +kernel
theorem d_X5_measureFrom_8 : decode (mB M_X5_measureFrom) 8 = .ok (.aload_n 0, 1) := by decide +kernel
theorem d_X5_measureFrom_9 : decode (mB M_X5_measureFrom) 9 = .ok (.getfield 15, 3) := by decide +kernel
theorem d_X5_measureFrom_12 : decode (mB M_X5_measureFrom) 12 = .ok (.iload_n 2, 1) := by decide +kernel
theorem d_X5_measureFrom_13 : decode (mB M_X5_measureFrom) 13 = .ok (.iload_n 3, 1) := by decide +kernel
theorem d_X5_measureFrom_14 : decode (mB M_X5_measureFrom) 14 = .ok (.iadd, 1) := by decide +kernel
theorem d_X5_measureFrom_15 : decode (mB M_X5_measureFrom) 15 = .ok (.iconst (-1), 1) := by decide +kernel
theorem d_X5_measureFrom_16 : decode (mB M_X5_measureFrom) 16 = .ok (.invokestatic 26, 3) := by decide +kernel
theorem d_X5_measureFrom_19 : decode (mB M_X5_measureFrom) 19 = .ok (.iinc 3 1, 3) := by decide +kernel
theorem d_X5_measureFrom_22 : decode (mB M_X5_measureFrom) 22 = .ok (.goto (-20), 3) := by decide +kernel
theorem d_X5_measureFrom_25 : decode (mB M_X5_measureFrom) 25 = .ok (.iload_n 1, 1) := by decide +kernel
theorem d_X5_measureFrom_26 : decode (mB M_X5_measureFrom) 26 = .ok (.invokestatic 51, 3) := by decide +kernel
theorem d_X5_measureFrom_29 : decode (mB M_X5_measureFrom) 29 = .ok (.lstore_n 3, 1) := by decide +kernel
theorem d_X5_measureFrom_30 : decode (mB M_X5_measureFrom) 30 = .ok (.lload_n 3, 1) := by decide +kernel
theorem d_X5_measureFrom_31 : decode (mB M_X5_measureFrom) 31 = .ok (.lstore 5, 2) := by decide +kernel
theorem d_X5_measureFrom_33 : decode (mB M_X5_measureFrom) 33 = .ok (.iconst 0, 1) := by decide +kernel
theorem d_X5_measureFrom_34 : decode (mB M_X5_measureFrom) 34 = .ok (.istore 7, 2) := by decide +kernel
theorem d_X5_measureFrom_36 : decode (mB M_X5_measureFrom) 36 = .ok (.iload 7, 2) := by decide +kernel
theorem d_X5_measureFrom_38 : decode (mB M_X5_measureFrom) 38 = .ok (.bipush 64, 2) := by decide +kernel
theorem d_X5_measureFrom_40 : decode (mB M_X5_measureFrom) 40 = .ok (.if_icmp .ge 83, 3) := by decide +kernel
theorem d_X5_measureFrom_43 : decode (mB M_X5_measureFrom) 43 = .ok (.lload_n 3, 1) := by decide +kernel
theorem d_X5_measureFrom_44 : decode (mB M_X5_measureFrom) 44 = .ok (.lconst 0, 1) := by decide +kernel
theorem d_X5_measureFrom_45 : decode (mB M_X5_measureFrom) 45 = .ok (.lcmp, 1) := by decide +kernel
theorem d_X5_measureFrom_46 : decode (mB M_X5_measureFrom) 46 = .ok (.ifCond .eq 77, 3) := by decide +kernel
theorem d_X5_measureFrom_49 : decode (mB M_X5_measureFrom) 49 = .ok (.iconst 0, 1) := by decide +kernel
theorem d_X5_measureFrom_50 : decode (mB M_X5_measureFrom) 50 = .ok (.istore 8, 2) := by decide +kernel
theorem d_X5_measureFrom_52 : decode (mB M_X5_measureFrom) 52 = .ok (.iload 8, 2) := by decide +kernel
theorem d_X5_measureFrom_54 : decode (mB M_X5_measureFrom) 54 = .ok (.bipush 64, 2) := by decide +kernel
theorem d_X5_measureFrom_56 : decode (mB M_X5_measureFrom) 56 = .ok (.if_icmp .ge 39, 3) := by decide +kernel
theorem d_X5_measureFrom_59 : decode (mB M_X5_measureFrom) 59 = .ok (.lload_n 3, 1) := by decide +kernel
theorem d_X5_measureFrom_60 : decode (mB M_X5_measureFrom) 60 = .ok (.aload_n 0, 1) := by decide +kernel
theorem d_X5_measureFrom_61 : decode (mB M_X5_measureFrom) 61 = .ok (.getfield 9, 3) := by decide +kernel
theorem d_X5_measureFrom_64 : decode (mB M_X5_measureFrom) 64 = .ok (.getfield 30, 3) := by decide +kernel
theorem d_X5_measureFrom_67 : decode (mB M_X5_measureFrom) 67 = .ok (.land, 1) := by decide +kernel
theorem d_X5_measureFrom_68 : decode (mB M_X5_measureFrom) 68 = .ok (.iload 8, 2) := by decide +kernel
theorem d_X5_measureFrom_70 : decode (mB M_X5_measureFrom) 70 = .ok (.invokestatic 36, 3) := by decide +kernel
theorem d_X5_measureFrom_73 : decode (mB M_X5_measureFrom) 73 = .ok (.ifCond .eq 16, 3) := by decide +kernel
theorem d_X5_measureFrom_76 : decode (mB M_X5_measureFrom) 76 = .ok (.aload_n 0, 1) := by decide +kernel
theorem d_X5_measureFrom_77 : decode (mB M_X5_measureFrom) 77 = .ok (.getfield 15, 3) := by decide +kernel
theorem d_X5_measureFrom_80 : decode (mB M_X5_measureFrom) 80 = .ok (.iload_n 2, 1) := by decide +kernel
theorem d_X5_measureFrom_81 : decode (mB M_X5_measureFrom) 81 = .ok (.iload 8, 2) := by decide +kernel
theorem d_X5_measureFrom_83 : decode (mB M_X5_measureFrom) 83 = .ok (.iadd, 1) := by decide +kernel
theorem d_X5_measureFrom_84 : decode (mB M_X5_measureFrom) 84 = .ok (.iload 7, 2) := by decide +kernel
theorem d_X5_measureFrom_86 : decode (mB M_X5_measureFrom) 86 = .ok (.invokestatic 26, 3) := by decide +kernel
theorem d_X5_measureFrom_89 : decode (mB M_X5_measureFrom) 89 = .ok (.iinc 8 1, 3) := by decide +kernel
theorem d_X5_measureFrom_92 : decode (mB M_X5_measureFrom) 92 = .ok (.goto (-40), 3) := by decide +kernel
theorem d_X5_measureFrom_95 : decode (mB M_X5_measureFrom) 95 = .ok (.aload_n 0, 1) := by decide +kernel
theorem d_X5_measureFrom_96 : decode (mB M_X5_measureFrom) 96 = .ok (.getfield 9, 3) := by decide +kernel
theorem d_X5_measureFrom_99 : decode (mB M_X5_measureFrom) 99 = .ok (.lload_n 3, 1) := by decide +kernel
theorem d_X5_measureFrom_100 : decode (mB M_X5_measureFrom) 100 = .ok (.invokevirtual 55, 3) := by decide +kernel
theorem d_X5_measureFrom_103 : decode (mB M_X5_measureFrom) 103 = .ok (.lload 5, 2) := by decide +kernel
theorem d_X5_measureFrom_105 : decode (mB M_X5_measureFrom) 105 = .ok (.ldc2_w 59, 3) := by decide +kernel
theorem d_X5_measureFrom_108 : decode (mB M_X5_measureFrom) 108 = .ok (.lxor, 1) := by decide +kernel
theorem d_X5_measureFrom_109 : decode (mB M_X5_measureFrom) 109 = .ok (.land, 1) := by decide +kernel
theorem d_X5_measureFrom_110 : decode (mB M_X5_measureFrom) 110 = .ok (.lstore_n 3, 1) := by decide +kernel
theorem d_X5_measureFrom_111 : decode (mB M_X5_measureFrom) 111 = .ok (.lload 5, 2) := by decide +kernel
theorem d_X5_measureFrom_113 : decode (mB M_X5_measureFrom) 113 = .ok (.lload_n 3, 1) := by decide +kernel
theorem d_X5_measureFrom_114 : decode (mB M_X5_measureFrom) 114 = .ok (.lor, 1) := by decide +kernel
theorem d_X5_measureFrom_115 : decode (mB M_X5_measureFrom) 115 = .ok (.lstore 5, 2) := by decide +kernel
theorem d_X5_measureFrom_117 : decode (mB M_X5_measureFrom) 117 = .ok (.iinc 7 1, 3) := by decide +kernel
theorem d_X5_measureFrom_120 : decode (mB M_X5_measureFrom) 120 = .ok (.goto (-84), 3) := by decide +kernel
theorem d_X5_measureFrom_123 : decode (mB M_X5_measureFrom) 123 = .ok (.return_, 1) := by decide +kernel
theorem l_mf1 {E : mEnv} (hE : E.1.stackTraces = false) (m : List mE) (c off : Int32) : ∀ (n : Nat) (k : Nat) (t : cT), k + n = 64 → Go E M_X5_measureFrom 0 (2, [some (.ref 127), some (.int c), some (.int off), some (.int (nI k)), none, none, none, none, none], [], (m, cw t)) (.inl (25, [some (.ref 127), some (.int c), some (.int off), none, none, none, none, none, none], [], (m, cw (wM t (mf1 off n k (tM t).1, (tM t).2))))) := by
  intro n
  induction n with
  | zero =>
    intro k t hk
    obtain rfl : k = 64 := by omega
    refine g_iload_n d_X5_measureFrom_2 rfl ?_
    refine g_bipush (v := 64) d_X5_measureFrom_3 (by decide) ?_
    refine g_icmp_ge (tgt := 25) d_X5_measureFrom_5 (by decide) (fun c_5 => ?_) (fun c_5 => absurd c_5 (absurd (nI_le (Nat.le_refl 64) (by decide)) c_5))
    refine g_drop [3] rfl ?_
    exact g_end rfl
  | succ n ih =>
    intro k t hk
    refine g_iload_n d_X5_measureFrom_2 rfl ?_
    refine g_bipush (v := 64) d_X5_measureFrom_3 (by decide) ?_
    refine g_icmp_ge (tgt := 25) d_X5_measureFrom_5 (by decide) (fun c_5 => absurd c_5 (nI_ge (a := k) (b := 64) (by omega) (by decide))) (fun c_5 => ?_)
    refine g_aload_n d_X5_measureFrom_8 rfl ?_
    refine g_getf d_X5_measureFrom_9 f_X5_15 rfl rfl ?_
    refine g_iload_n d_X5_measureFrom_12 rfl ?_
    refine g_iload_n d_X5_measureFrom_13 rfl ?_
    refine g_iadd d_X5_measureFrom_14 ?_
    refine g_iconst (v := (-1)) d_X5_measureFrom_15 (by decide) ?_
    refine g_callN (As := [.ref 128, .int (off + (nI k)), .int (-1)]) d_X5_measureFrom_16 o_X11_setInt n_X5_26 ⟨Nat.le_of_ble_eq_true rfl, Nat.le_of_ble_eq_true rfl⟩ (c_setInt hE 128 320 (tM t).1 (off + (nI k)) (-1) _ (by decide) rfl) rfl rfl ?_ (Nat.zero_add _)
    refine g_iinc (v := ((nI k) + 1)) (L' := [some (.ref 127), some (.int c), some (.int off), some (.int ((nI k) + 1)), none, none, none, none, none]) d_X5_measureFrom_19 rfl rfl rfl ?_
    refine g_goto (tgt := 2) d_X5_measureFrom_22 (by decide) ?_
    refine g_eq (S' := (2, [some (.ref 127), some (.int c), some (.int off), some (.int (nI (k + 1))), none, none, none, none, none], [], (m, cw (wM t (setIntF 320 (tM t).1 (off + nI k) (-1), (tM t).2))))) (by rw [← nI_1]; rfl) ?_
    exact ih (k + 1) (wM t (setIntF 320 (tM t).1 (off + nI k) (-1), (tM t).2)) (by omega)
theorem l_mf2 {E : mEnv} (hE : E.1.stackTraces = false) (m : List mE) (c off : Int32) (a b : Int64) (p : Int32) : ∀ (n : Nat) (k : Nat) (t : cT), k + n = 64 → Go E M_X5_measureFrom 0 (52, [some (.ref 127), some (.int c), some (.int off), some (.long a), none, some (.long b), none, some (.int p), some (.int (nI k))], [], (m, cw t)) (.inl (95, [some (.ref 127), some (.int c), some (.int off), some (.long a), none, some (.long b), none, some (.int p), none], [], (m, cw (wM t (mf2 off (a &&& gG (qG (tG t))) p n k (tM t).1, (tM t).2))))) := by
  intro n
  induction n with
  | zero =>
    intro k t hk
    obtain rfl : k = 64 := by omega
    refine g_iload d_X5_measureFrom_52 rfl ?_
    refine g_bipush (v := 64) d_X5_measureFrom_54 (by decide) ?_
    refine g_icmp_ge (tgt := 95) d_X5_measureFrom_56 (by decide) (fun c_56 => ?_) (fun c_56 => absurd c_56 (absurd (nI_le (Nat.le_refl 64) (by decide)) c_56))
    refine g_drop [8] rfl ?_
    exact g_end rfl
  | succ n ih =>
    intro k t hk
    refine g_iload d_X5_measureFrom_52 rfl ?_
    refine g_bipush (v := 64) d_X5_measureFrom_54 (by decide) ?_
    refine g_icmp_ge (tgt := 95) d_X5_measureFrom_56 (by decide) (fun c_56 => absurd c_56 (nI_ge (a := k) (b := 64) (by omega) (by decide))) (fun c_56 => ?_)
    refine g_lload_n d_X5_measureFrom_59 rfl ?_
    refine g_aload_n d_X5_measureFrom_60 rfl ?_
    refine g_getf d_X5_measureFrom_61 f_X5_9 rfl rfl ?_
    refine g_getf d_X5_measureFrom_64 f_X5_30 rfl rfl ?_
    refine g_land d_X5_measureFrom_67 ?_
    refine g_iload d_X5_measureFrom_68 rfl ?_
    refine g_callN (As := [.long (a &&& (gG (qG (tG t)))), .int (nI k)]) d_X5_measureFrom_70 o_X11_has n_X5_36 ⟨Nat.le_of_ble_eq_true rfl, Nat.le_of_ble_eq_true rfl⟩ (c_has hE (a &&& (gG (qG (tG t)))) (nI k) _) rfl rfl ?_ (Nat.zero_add _)
    refine g_ifb_eq (tgt := 89) d_X5_measureFrom_73 (by decide) (fun c_73 => ?_) (fun c_73 => ?_)
    · refine g_iinc (v := ((nI k) + 1)) (L' := [some (.ref 127), some (.int c), some (.int off), some (.long a), none, some (.long b), none, some (.int p), some (.int ((nI k) + 1))]) d_X5_measureFrom_89 rfl rfl rfl ?_
      refine g_goto (tgt := 52) d_X5_measureFrom_92 (by decide) ?_
      refine g_eq (S' := (52, [some (.ref 127), some (.int c), some (.int off), some (.long a), none, some (.long b), none, some (.int p), some (.int (nI (k + 1)))], [], (m, cw t))) (by first | rfl | (rw [← nI_1]; rfl)) ?_
      rw [show mf2 off (a &&& gG (qG (tG t))) p (n + 1) k (tM t).1 = mf2 off (a &&& gG (qG (tG t))) p n (k + 1) (tM t).1 by simp only [mf2, c_73, ↓reduceIte, Bool.false_eq_true]; try rfl]
      exact ih (k + 1) t (by omega)
    · refine g_aload_n d_X5_measureFrom_76 rfl ?_
      refine g_getf d_X5_measureFrom_77 f_X5_15 rfl rfl ?_
      refine g_iload_n d_X5_measureFrom_80 rfl ?_
      refine g_iload d_X5_measureFrom_81 rfl ?_
      refine g_iadd d_X5_measureFrom_83 ?_
      refine g_iload d_X5_measureFrom_84 rfl ?_
      refine g_callN (As := [.ref 128, .int (off + (nI k)), .int p]) d_X5_measureFrom_86 o_X11_setInt n_X5_26 ⟨Nat.le_of_ble_eq_true rfl, Nat.le_of_ble_eq_true rfl⟩ (c_setInt hE 128 320 (tM t).1 (off + (nI k)) p _ (by decide) rfl) rfl rfl ?_ (Nat.zero_add _)
      refine g_iinc (v := ((nI k) + 1)) (L' := [some (.ref 127), some (.int c), some (.int off), some (.long a), none, some (.long b), none, some (.int p), some (.int ((nI k) + 1))]) d_X5_measureFrom_89 rfl rfl rfl ?_
      refine g_goto (tgt := 52) d_X5_measureFrom_92 (by decide) ?_
      refine g_eq (S' := (52, [some (.ref 127), some (.int c), some (.int off), some (.long a), none, some (.long b), none, some (.int p), some (.int (nI (k + 1)))], [], (m, cw (wM t (setIntF 320 (tM t).1 (off + nI k) p, (tM t).2))))) (by first | rfl | (rw [← nI_1]; rfl)) ?_
      rw [show mf2 off (a &&& gG (qG (tG t))) p (n + 1) k (tM t).1 = mf2 off (a &&& gG (qG (tG t))) p n (k + 1) (tM (wM t (setIntF 320 (tM t).1 (off + nI k) p, (tM t).2))).1 by simp only [mf2, c_73, ↓reduceIte, Bool.false_eq_true]; try rfl]
      exact ih (k + 1) (wM t (setIntF 320 (tM t).1 (off + nI k) p, (tM t).2)) (by omega)
theorem l_mf3 {E : mEnv} (hE : E.1.stackTraces = false) (m : List mE) (c off : Int32) : ∀ (n : Nat) (k : Nat) (a b : Int64) (t : cT), k + n = 64 → Go E M_X5_measureFrom 0 (36, [some (.ref 127), some (.int c), some (.int off), some (.long a), none, some (.long b), none, some (.int (nI k)), none], [], (m, cw t)) (.inr (.inl (none, (m, cw (wM t (mf3 (qG (tG t)) off n k a b (tM t).1, (tM t).2)))))) := by
  intro n
  induction n with
  | zero =>
    intro k a b t hk
    obtain rfl : k = 64 := by omega
    refine g_iload d_X5_measureFrom_36 rfl ?_
    refine g_bipush (v := 64) d_X5_measureFrom_38 (by decide) ?_
    refine g_icmp_ge (tgt := 123) d_X5_measureFrom_40 (by decide) (fun c_40 => ?_) (fun c_40 => absurd c_40 (absurd (nI_le (Nat.le_refl 64) (by decide)) c_40))
    exact g_retV d_X5_measureFrom_123 rfl (rfl)
  | succ n ih =>
    intro k a b t hk
    refine g_iload d_X5_measureFrom_36 rfl ?_
    refine g_bipush (v := 64) d_X5_measureFrom_38 (by decide) ?_
    refine g_icmp_ge (tgt := 123) d_X5_measureFrom_40 (by decide) (fun c_40 => absurd c_40 (nI_ge (a := k) (b := 64) (by omega) (by decide))) (fun c_40 => ?_)
    refine g_lload_n d_X5_measureFrom_43 rfl ?_
    refine g_lconst (v := 0) d_X5_measureFrom_44 (by decide) ?_
    refine g_lcmp_eq (tgt := 123) d_X5_measureFrom_45 d_X5_measureFrom_46 (by decide) (fun c_45 => ?_) (fun c_45 => ?_)
    · exact g_retV d_X5_measureFrom_123 rfl (by simp only [mf3, eq_true c_45, ↓reduceIte]; rfl)
    · refine g_iconst (v := 0) d_X5_measureFrom_49 (by decide) ?_
      refine g_istore (L' := [some (.ref 127), some (.int c), some (.int off), some (.long a), none, some (.long b), none, some (.int (nI k)), some (.int 0)]) d_X5_measureFrom_50 rfl rfl ?_
      refine g_eq (S' := (52, [some (.ref 127), some (.int c), some (.int off), some (.long a), none, some (.long b), none, some (.int (nI k)), some (.int (nI 0))], [], (m, cw t))) (by first | rfl | (rw [nI_1]; rfl) | (simp only [nI_1]; rfl) | simp only [nI_1]) ?_
      refine Go.trans0 (l_mf2 hE m c off a b (nI k) 64 0 t (by omega)) ?_
      refine g_eq (S' := (95, [some (.ref 127), some (.int c), some (.int off), some (.long a), none, some (.long b), none, some (.int (nI k)), none], [], (m, cw (wM t (mf2 off (a &&& gG (qG (tG t))) (nI k) 64 0 (tM t).1, (tM t).2))))) rfl ?_
      refine g_aload_n d_X5_measureFrom_95 rfl ?_
      refine g_getf d_X5_measureFrom_96 f_X5_9 rfl rfl ?_
      refine g_lload_n d_X5_measureFrom_99 rfl ?_
      refine g_callV (As := [.long a]) d_X5_measureFrom_100 o_X2_lonePushed l_X5_55 ⟨Nat.le_of_ble_eq_true rfl, Nat.le_of_ble_eq_true rfl⟩ (c_lonePushed hE 105 (qG (tG (wM t (mf2 off (a &&& gG (qG (tG t))) (nI k) 64 0 (tM t).1, (tM t).2)))) _ rfl a) rfl rfl rfl rfl rfl rfl ?_ (Nat.zero_add _)
      refine g_lload d_X5_measureFrom_103 rfl ?_
      refine g_ldc2 (v := (-1)) d_X5_measureFrom_105 k_X5_59 ?_
      refine g_lxor d_X5_measureFrom_108 ?_
      refine g_land d_X5_measureFrom_109 ?_
      refine g_lstore_n (L' := [some (.ref 127), some (.int c), some (.int off), some (.long ((gLp (qG (tG (wM t (mf2 off (a &&& gG (qG (tG t))) (nI k) 64 0 (tM t).1, (tM t).2)))) a) &&& (b ^^^ (-1)))), none, some (.long b), none, some (.int (nI k)), none]) d_X5_measureFrom_110 rfl rfl ?_
      refine g_lload d_X5_measureFrom_111 rfl ?_
      refine g_lload_n d_X5_measureFrom_113 rfl ?_
      refine g_lor d_X5_measureFrom_114 ?_
      refine g_lstore (L' := [some (.ref 127), some (.int c), some (.int off), some (.long ((gLp (qG (tG (wM t (mf2 off (a &&& gG (qG (tG t))) (nI k) 64 0 (tM t).1, (tM t).2)))) a) &&& (b ^^^ (-1)))), none, some (.long (b ||| ((gLp (qG (tG (wM t (mf2 off (a &&& gG (qG (tG t))) (nI k) 64 0 (tM t).1, (tM t).2)))) a) &&& (b ^^^ (-1))))), none, some (.int (nI k)), none]) d_X5_measureFrom_115 rfl rfl ?_
      refine g_iinc (v := ((nI k) + 1)) (L' := [some (.ref 127), some (.int c), some (.int off), some (.long ((gLp (qG (tG (wM t (mf2 off (a &&& gG (qG (tG t))) (nI k) 64 0 (tM t).1, (tM t).2)))) a) &&& (b ^^^ (-1)))), none, some (.long (b ||| ((gLp (qG (tG (wM t (mf2 off (a &&& gG (qG (tG t))) (nI k) 64 0 (tM t).1, (tM t).2)))) a) &&& (b ^^^ (-1))))), none, some (.int ((nI k) + 1)), none]) d_X5_measureFrom_117 rfl rfl rfl ?_
      refine g_goto (tgt := 36) d_X5_measureFrom_120 (by decide) ?_
      refine g_eq (S' := (36, [some (.ref 127), some (.int c), some (.int off), some (.long (gLp (qG (tG t)) a &&& (b ^^^ (-1)))), none, some (.long (b ||| (gLp (qG (tG t)) a &&& (b ^^^ (-1))))), none, some (.int (nI (k + 1))), none], [], (m, cw (wM t (mf2 off (a &&& gG (qG (tG t))) (nI k) 64 0 (tM t).1, (tM t).2))))) (by first | rfl | (rw [nI_1]; rfl) | (simp only [nI_1]; rfl) | simp only [nI_1]) ?_
      rw [show mf3 (qG (tG t)) off (n + 1) k a b (tM t).1 = mf3 (qG (tG t)) off n (k + 1) (gLp (qG (tG t)) a &&& (b ^^^ (-1))) (b ||| (gLp (qG (tG t)) a &&& (b ^^^ (-1)))) (mf2 off (a &&& gG (qG (tG t))) (nI k) 64 0 (tM t).1) by simp only [mf3, eq_false c_45, ↓reduceIte]]
      exact ih (k + 1) _ _ (wM t (mf2 off (a &&& gG (qG (tG t))) (nI k) 64 0 (tM t).1, (tM t).2)) (by omega)
theorem c_measureFrom {E : mEnv} (hE : E.1.stackTraces = false) (m : List mE) (t : cT) (c off : Int32) : Rt E M_X5_measureFrom 0 [.ref 127, .int c, .int off] ((m, cw t)) none ((m, cw (wM t (mfF (qG (tG t)) c off (tM t).1, (tM t).2)))) := by
  refine Rt.of hE rfl pn_X5 (Nat.le_of_ble_eq_true rfl) ?_
  refine g_eq (S' := (0, [some (.ref 127), some (.int c), some (.int off), none, none, none, none, none, none], [], (m, cw t))) rfl ?_
  refine g_iconst (v := 0) d_X5_measureFrom_0 (by decide) ?_
  refine g_istore_n (L' := [some (.ref 127), some (.int c), some (.int off), some (.int 0), none, none, none, none, none]) d_X5_measureFrom_1 rfl rfl ?_
  refine g_eq (S' := (2, [some (.ref 127), some (.int c), some (.int off), some (.int (nI 0)), none, none, none, none, none], [], (m, cw t))) (by first | rfl | (rw [nI_1]; rfl) | (simp only [nI_1]; rfl) | simp only [nI_1]) ?_
  refine Go.trans0 (l_mf1 hE m c off 64 0 t (by omega)) ?_
  refine g_eq (S' := (25, [some (.ref 127), some (.int c), some (.int off), none, none, none, none, none, none], [], (m, cw (wM t (mf1 off 64 0 (tM t).1, (tM t).2))))) rfl ?_
  refine g_iload_n d_X5_measureFrom_25 rfl ?_
  refine g_callN (As := [.int c]) d_X5_measureFrom_26 o_X11_bit n_X5_51 ⟨Nat.le_of_ble_eq_true rfl, Nat.le_of_ble_eq_true rfl⟩ (c_bit hE c _) rfl rfl ?_ (Nat.zero_add _)
  refine g_lstore_n (L' := [some (.ref 127), some (.int c), some (.int off), some (.long (jshl 1 c)), none, none, none, none, none]) d_X5_measureFrom_29 rfl rfl ?_
  refine g_lload_n d_X5_measureFrom_30 rfl ?_
  refine g_lstore (L' := [some (.ref 127), some (.int c), some (.int off), some (.long (jshl 1 c)), none, some (.long (jshl 1 c)), none, none, none]) d_X5_measureFrom_31 rfl rfl ?_
  refine g_iconst (v := 0) d_X5_measureFrom_33 (by decide) ?_
  refine g_istore (L' := [some (.ref 127), some (.int c), some (.int off), some (.long (jshl 1 c)), none, some (.long (jshl 1 c)), none, some (.int 0), none]) d_X5_measureFrom_34 rfl rfl ?_
  refine g_eq (S' := (36, [some (.ref 127), some (.int c), some (.int off), some (.long (jshl 1 c)), none, some (.long (jshl 1 c)), none, some (.int (nI 0)), none], [], (m, cw (wM t (mf1 off 64 0 (tM t).1, (tM t).2))))) (rfl) ?_
  exact l_mf3 hE m c off 64 0 _ _ (wM t (mf1 off 64 0 (tM t).1, (tM t).2)) (by omega)
def msL (g : gT) (q : Int64) : Nat → Nat → Nat → (Nat → Int32) → Nat × (Nat → Int32)
  | 0, _, j, d => (j, d)
  | n + 1, k, j, d => if 5 ≤ j then (j, d) else if hasF q (nI k) = true then msL g q n (k + 1) (j + 1) (mfF g (nI k) (64 * nI j) d) else msL g q n (k + 1) j d
theorem c5_iff {j : Nat} (h : j ≤ 5) : (5 : Int32) ≤ nI j ↔ 5 ≤ j := nI_leI (a := 5) (b := j) (by decide) (by omega)
theorem d_X5_measure_0 : decode (mB M_X5_measure) 0 = .ok (.iconst 0, 1) := by decide +kernel
theorem d_X5_measure_1 : decode (mB M_X5_measure) 1 = .ok (.istore_n 3, 1) := by decide +kernel
theorem d_X5_measure_2 : decode (mB M_X5_measure) 2 = .ok (.iconst 0, 1) := by decide +kernel
theorem d_X5_measure_3 : decode (mB M_X5_measure) 3 = .ok (.istore 4, 2) := by decide +kernel
theorem d_X5_measure_5 : decode (mB M_X5_measure) 5 = .ok (.iload 4, 2) := by decide +kernel
theorem d_X5_measure_7 : decode (mB M_X5_measure) 7 = .ok (.bipush 64, 2) := by decide +kernel
theorem d_X5_measure_9 : decode (mB M_X5_measure) 9 = .ok (.if_icmp .ge 36, 3) := by decide +kernel
theorem d_X5_measure_12 : decode (mB M_X5_measure) 12 = .ok (.iload_n 3, 1) := by decide +kernel
theorem d_X5_measure_13 : decode (mB M_X5_measure) 13 = .ok (.iconst 5, 1) := by decide +kernel
theorem d_X5_measure_14 : decode (mB M_X5_measure) 14 = .ok (.if_icmp .ge 31, 3) := by decide +kernel
theorem d_X5_measure_17 : decode (mB M_X5_measure) 17 = .ok (.lload_n 1, 1) := by decide +kernel
theorem d_X5_measure_18 : decode (mB M_X5_measure) 18 = .ok (.iload 4, 2) := by decide +kernel
theorem d_X5_measure_20 : decode (mB M_X5_measure) 20 = .ok (.invokestatic 36, 3) := by decide +kernel
theorem d_X5_measure_23 : decode (mB M_X5_measure) 23 = .ok (.ifCond .eq 16, 3) := by decide +kernel
theorem d_X5_measure_26 : decode (mB M_X5_measure) 26 = .ok (.aload_n 0, 1) := by decide +kernel
theorem d_X5_measure_27 : decode (mB M_X5_measure) 27 = .ok (.iload 4, 2) := by decide +kernel
theorem d_X5_measure_29 : decode (mB M_X5_measure) 29 = .ok (.bipush 64, 2) := by decide +kernel
theorem d_X5_measure_31 : decode (mB M_X5_measure) 31 = .ok (.iload_n 3, 1) := by decide +kernel
theorem d_X5_measure_32 : decode (mB M_X5_measure) 32 = .ok (.imul, 1) := by decide +kernel
theorem d_X5_measure_33 : decode (mB M_X5_measure) 33 = .ok (.invokevirtual 48, 3) := by decide +kernel
theorem d_X5_measure_36 : decode (mB M_X5_measure) 36 = .ok (.iinc 3 1, 3) := by decide +kernel
theorem d_X5_measure_39 : decode (mB M_X5_measure) 39 = .ok (.iinc 4 1, 3) := by decide +kernel
theorem d_X5_measure_42 : decode (mB M_X5_measure) 42 = .ok (.goto (-37), 3) := by decide +kernel
theorem d_X5_measure_45 : decode (mB M_X5_measure) 45 = .ok (.iload_n 3, 1) := by decide +kernel
theorem d_X5_measure_46 : decode (mB M_X5_measure) 46 = .ok (.ireturn, 1) := by decide +kernel
theorem l_measure {E : mEnv} (hE : E.1.stackTraces = false) (m : List mE) (q : Int64) : ∀ (n : Nat) (k j : Nat) (t : cT), k + n = 64 → j ≤ 5 → Go E M_X5_measure 0 (5, [some (.ref 127), some (.long q), none, some (.int (nI j)), some (.int (nI k))], [], (m, cw t)) (.inr (.inl (some (.int (nI (msL (qG (tG t)) q n k j (tM t).1).1)), (m, cw (wM t ((msL (qG (tG t)) q n k j (tM t).1).2, (tM t).2)))))) := by
  intro n
  induction n with
  | zero =>
    intro k j t hk hj
    obtain rfl : k = 64 := by omega
    refine g_iload d_X5_measure_5 rfl ?_
    refine g_bipush (v := 64) d_X5_measure_7 (by decide) ?_
    refine g_icmp_ge (tgt := 45) d_X5_measure_9 (by decide) (fun c_9 => ?_) (fun c_9 => absurd c_9 (absurd (nI_le (Nat.le_refl 64) (by decide)) c_9))
    refine g_iload_n d_X5_measure_45 rfl ?_
    exact g_retI d_X5_measure_46 rfl (rfl) (rfl)
  | succ n ih =>
    intro k j t hk hj
    refine g_iload d_X5_measure_5 rfl ?_
    refine g_bipush (v := 64) d_X5_measure_7 (by decide) ?_
    refine g_icmp_ge (tgt := 45) d_X5_measure_9 (by decide) (fun c_9 => absurd c_9 (nI_ge (a := k) (b := 64) (by omega) (by decide))) (fun c_9 => ?_)
    refine g_iload_n d_X5_measure_12 rfl ?_
    refine g_iconst (v := 5) d_X5_measure_13 (by decide) ?_
    refine g_icmp_ge (tgt := 45) d_X5_measure_14 (by decide) (fun c_14 => ?_) (fun c_14 => ?_)
    · refine g_iload_n d_X5_measure_45 rfl ?_
      exact g_retI d_X5_measure_46 rfl (by simp only [msL, eq_true ((c5_iff hj).mp c_14), ↓reduceIte]) (by simp only [msL, eq_true ((c5_iff hj).mp c_14), ↓reduceIte]; rfl)
    · refine g_lload_n d_X5_measure_17 rfl ?_
      refine g_iload d_X5_measure_18 rfl ?_
      refine g_callN (As := [.long q, .int (nI k)]) d_X5_measure_20 o_X11_has n_X5_36 ⟨Nat.le_of_ble_eq_true rfl, Nat.le_of_ble_eq_true rfl⟩ (c_has hE q (nI k) _) rfl rfl ?_ (Nat.zero_add _)
      refine g_ifb_eq (tgt := 39) d_X5_measure_23 (by decide) (fun c_23 => ?_) (fun c_23 => ?_)
      · refine g_iinc (v := ((nI k) + 1)) (L' := [some (.ref 127), some (.long q), none, some (.int (nI j)), some (.int ((nI k) + 1))]) d_X5_measure_39 rfl rfl rfl ?_
        refine g_goto (tgt := 5) d_X5_measure_42 (by decide) ?_
        refine g_eq (S' := (5, [some (.ref 127), some (.long q), none, some (.int (nI j)), some (.int (nI (k + 1)))], [], (m, cw t))) (by first | rfl | (rw [← nI_1 k, ← nI_1 j]; rfl) | (rw [← nI_1 k]; rfl)) ?_
        rw [show msL (qG (tG t)) q (n + 1) k j (tM t).1 = msL (qG (tG t)) q n (k + 1) j (tM t).1 by simp only [msL, eq_false (fun z => c_14 ((c5_iff hj).mpr z)), c_23, ↓reduceIte, Bool.false_eq_true]; try rfl]
        exact ih (k + 1) j t (by omega) hj
      · refine g_aload_n d_X5_measure_26 rfl ?_
        refine g_iload d_X5_measure_27 rfl ?_
        refine g_bipush (v := 64) d_X5_measure_29 (by decide) ?_
        refine g_iload_n d_X5_measure_31 rfl ?_
        refine g_imul d_X5_measure_32 ?_
        refine g_callV (As := [.int (nI k), .int (64 * (nI j))]) d_X5_measure_33 o_X5_measureFrom l_X5_48 ⟨Nat.le_of_ble_eq_true rfl, Nat.le_of_ble_eq_true rfl⟩ (c_measureFrom hE m t (nI k) (64 * (nI j))) rfl rfl rfl rfl rfl rfl ?_ (Nat.zero_add _)
        refine g_iinc (v := ((nI j) + 1)) (L' := [some (.ref 127), some (.long q), none, some (.int ((nI j) + 1)), some (.int (nI k))]) d_X5_measure_36 rfl rfl rfl ?_
        refine g_iinc (v := ((nI k) + 1)) (L' := [some (.ref 127), some (.long q), none, some (.int ((nI j) + 1)), some (.int ((nI k) + 1))]) d_X5_measure_39 rfl rfl rfl ?_
        refine g_goto (tgt := 5) d_X5_measure_42 (by decide) ?_
        refine g_eq (S' := (5, [some (.ref 127), some (.long q), none, some (.int (nI (j + 1))), some (.int (nI (k + 1)))], [], (m, cw (wM t (mfF (qG (tG t)) (nI k) (64 * nI j) (tM t).1, (tM t).2))))) (by first | rfl | (rw [← nI_1 k, ← nI_1 j]; rfl) | (rw [← nI_1 k]; rfl)) ?_
        rw [show msL (qG (tG t)) q (n + 1) k j (tM t).1 = msL (qG (tG t)) q n (k + 1) (j + 1) (tM (wM t (mfF (qG (tG t)) (nI k) (64 * nI j) (tM t).1, (tM t).2))).1 by simp only [msL, eq_false (fun z => c_14 ((c5_iff hj).mpr z)), c_23, ↓reduceIte, Bool.false_eq_true]; try rfl]
        exact ih (k + 1) (j + 1) (wM t (mfF (qG (tG t)) (nI k) (64 * nI j) (tM t).1, (tM t).2)) (by omega) (by have h5 : ¬ 5 ≤ j := fun z => c_14 ((c5_iff hj).mpr z); omega)
theorem c_measure {E : mEnv} (hE : E.1.stackTraces = false) (m : List mE) (t : cT) (q : Int64) : Rt E M_X5_measure 0 [.ref 127, .long q] ((m, cw t)) (some (.int (nI (msL (qG (tG t)) q 64 0 0 (tM t).1).1))) ((m, cw (wM t ((msL (qG (tG t)) q 64 0 0 (tM t).1).2, (tM t).2)))) := by
  refine Rt.of hE rfl pn_X5 (Nat.le_of_ble_eq_true rfl) ?_
  refine g_eq (S' := (0, [some (.ref 127), some (.long q), none, none, none], [], (m, cw t))) rfl ?_
  refine g_iconst (v := 0) d_X5_measure_0 (by decide) ?_
  refine g_istore_n (L' := [some (.ref 127), some (.long q), none, some (.int 0), none]) d_X5_measure_1 rfl rfl ?_
  refine g_iconst (v := 0) d_X5_measure_2 (by decide) ?_
  refine g_istore (L' := [some (.ref 127), some (.long q), none, some (.int 0), some (.int 0)]) d_X5_measure_3 rfl rfl ?_
  refine g_eq (S' := (5, [some (.ref 127), some (.long q), none, some (.int (nI 0)), some (.int (nI 0))], [], (m, cw t))) (rfl) ?_
  exact l_measure hE m q 64 0 0 t (by omega) (by omega)
