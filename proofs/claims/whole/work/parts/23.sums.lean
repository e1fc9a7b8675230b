/-! the least sum; Search; Solution -/
/-- the sums at first: 0 for no box, none else -/
def su0 : Nat → Nat → (Nat → Int32) → (Nat → Int32)
  | 0, _, s => s
  | n + 1, k, s => su0 n (k + 1) (setIntF 32 s (nI k) (if nI k = 0 then 0 else -1))
def suG (d : Nat → Int32) (q : Int64) (N J : Nat) : Nat → Nat → (Nat → Int32) → (Nat → Int32)
  | 0, _, s => s
  | n + 1, k, s => suG d q N J n (k + 1) (if hasF q (nI k) = true then of2 d (nI k) N J s else s)
theorem d_X5_leastSum_0 : decode (mB M_X5_leastSum) 0 = .ok (.aload_n 0, 1) := by decide +kernel
theorem d_X5_leastSum_1 : decode (mB M_X5_leastSum) 1 = .ok (.lload_n 1, 1) := by decide +kernel
theorem d_X5_leastSum_2 : decode (mB M_X5_leastSum) 2 = .ok (.invokevirtual 22, 3) := by decide +kernel
theorem d_X5_leastSum_5 : decode (mB M_X5_leastSum) 5 = .ok (.istore_n 3, 1) := by decide +kernel
theorem d_X5_leastSum_6 : decode (mB M_X5_leastSum) 6 = .ok (.iconst 1, 1) := by decide +kernel
theorem d_X5_leastSum_7 : decode (mB M_X5_leastSum) 7 = .ok (.iload_n 3, 1) := by decide +kernel
theorem d_X5_leastSum_8 : decode (mB M_X5_leastSum) 8 = .ok (.ishl, 1) := by decide +kernel
theorem d_X5_leastSum_9 : decode (mB M_X5_leastSum) 9 = .ok (.iconst 1, 1) := by decide +kernel
theorem d_X5_leastSum_10 : decode (mB M_X5_leastSum) 10 = .ok (.isub, 1) := by decide +kernel
theorem d_X5_leastSum_11 : decode (mB M_X5_leastSum) 11 = .ok (.istore 4, 2) := by decide +kernel
theorem d_X5_leastSum_13 : decode (mB M_X5_leastSum) 13 = .ok (.iconst 0, 1) := by decide +kernel
theorem d_X5_leastSum_14 : decode (mB M_X5_leastSum) 14 = .ok (.istore 5, 2) := by decide +kernel
theorem d_X5_leastSum_16 : decode (mB M_X5_leastSum) 16 = .ok (.iload 5, 2) := by decide +kernel
theorem d_X5_leastSum_18 : decode (mB M_X5_leastSum) 18 = .ok (.iload 4, 2) := by decide +kernel
theorem d_X5_leastSum_20 : decode (mB M_X5_leastSum) 20 = .ok (.if_icmp .gt 28, 3) := by decide +kernel
theorem d_X5_leastSum_23 : decode (mB M_X5_leastSum) 23 = .ok (.aload_n 0, 1) := by decide +kernel
theorem d_X5_leastSum_24 : decode (mB M_X5_leastSum) 24 = .ok (.getfield 19, 3) := by decide +kernel
theorem d_X5_leastSum_27 : decode (mB M_X5_leastSum) 27 = .ok (.iload 5, 2) := by decide +kernel
theorem d_X5_leastSum_29 : decode (mB M_X5_leastSum) 29 = .ok (.iload 5, 2) := by decide +kernel
theorem d_X5_leastSum_31 : decode (mB M_X5_leastSum) 31 = .ok (.ifCond .ne 7, 3) := by decide +kernel
theorem d_X5_leastSum_34 : decode (mB M_X5_leastSum) 34 = .ok (.iconst 0, 1) := by decide +kernel
theorem d_X5_leastSum_35 : decode (mB M_X5_leastSum) 35 = .ok (.goto 4, 3) := by decide +kernel
theorem d_X5_leastSum_38 : decode (mB M_X5_leastSum) 38 = .ok (.iconst (-1), 1) := by decide +kernel
theorem d_X5_leastSum_39 : decode (mB M_X5_leastSum) 39 = .ok (.invokestatic 26, 3) := by decide +kernel
theorem d_X5_leastSum_42 : decode (mB M_X5_leastSum) 42 = .ok (.iinc 5 1, 3) := by decide +kernel
theorem d_X5_leastSum_45 : decode (mB M_X5_leastSum) 45 = .ok (.goto (-29), 3) := by decide +kernel
theorem d_X5_leastSum_48 : decode (mB M_X5_leastSum) 48 = .ok (.iconst 0, 1) := by decide +kernel
theorem d_X5_leastSum_49 : decode (mB M_X5_leastSum) 49 = .ok (.istore 5, 2) := by decide +kernel
theorem d_X5_leastSum_51 : decode (mB M_X5_leastSum) 51 = .ok (.iload 5, 2) := by decide +kernel
theorem d_X5_leastSum_53 : decode (mB M_X5_leastSum) 53 = .ok (.bipush 64, 2) := by decide +kernel
theorem d_X5_leastSum_55 : decode (mB M_X5_leastSum) 55 = .ok (.if_icmp .ge 31, 3) := by decide +kernel
theorem d_X5_leastSum_58 : decode (mB M_X5_leastSum) 58 = .ok (.aload_n 0, 1) := by decide +kernel
theorem d_X5_leastSum_59 : decode (mB M_X5_leastSum) 59 = .ok (.getfield 9, 3) := by decide +kernel
theorem d_X5_leastSum_62 : decode (mB M_X5_leastSum) 62 = .ok (.getfield 30, 3) := by decide +kernel
theorem d_X5_leastSum_65 : decode (mB M_X5_leastSum) 65 = .ok (.iload 5, 2) := by decide +kernel
theorem d_X5_leastSum_67 : decode (mB M_X5_leastSum) 67 = .ok (.invokestatic 36, 3) := by decide +kernel
theorem d_X5_leastSum_70 : decode (mB M_X5_leastSum) 70 = .ok (.ifCond .eq 10, 3) := by decide +kernel
theorem d_X5_leastSum_73 : decode (mB M_X5_leastSum) 73 = .ok (.aload_n 0, 1) := by decide +kernel
theorem d_X5_leastSum_74 : decode (mB M_X5_leastSum) 74 = .ok (.iload 5, 2) := by decide +kernel
theorem d_X5_leastSum_76 : decode (mB M_X5_leastSum) 76 = .ok (.iload_n 3, 1) := by decide +kernel
theorem d_X5_leastSum_77 : decode (mB M_X5_leastSum) 77 = .ok (.invokevirtual 40, 3) := by decide +kernel
theorem d_X5_leastSum_80 : decode (mB M_X5_leastSum) 80 = .ok (.iinc 5 1, 3) := by decide +kernel
theorem d_X5_leastSum_83 : decode (mB M_X5_leastSum) 83 = .ok (.goto (-32), 3) := by decide +kernel
theorem d_X5_leastSum_86 : decode (mB M_X5_leastSum) 86 = .ok (.aload_n 0, 1) := by decide +kernel
theorem d_X5_leastSum_87 : decode (mB M_X5_leastSum) 87 = .ok (.getfield 19, 3) := by decide +kernel
theorem d_X5_leastSum_90 : decode (mB M_X5_leastSum) 90 = .ok (.iload 4, 2) := by decide +kernel
theorem d_X5_leastSum_92 : decode (mB M_X5_leastSum) 92 = .ok (.invokestatic 44, 3) := by decide +kernel
theorem d_X5_leastSum_95 : decode (mB M_X5_leastSum) 95 = .ok (.ireturn, 1) := by decide +kernel
theorem l_sum0 {E : mEnv} (hE : E.1.stackTraces = false) (m : List mE) (N J : Nat) (hJ : J < 2 ^ 30) : ∀ (n : Nat) (k : Nat) (t : cT), k + n = J + 1 → Go E M_X5_leastSum 0 (16, [some (.ref 127), none, none, some (.int (nI N)), some (.int (nI J)), some (.int (nI k))], [], (m, cw t)) (.inl (48, [some (.ref 127), none, none, some (.int (nI N)), some (.int (nI J)), none], [], (m, cw (wM t ((tM t).1, su0 n k (tM t).2))))) := by
  intro n
  induction n with
  | zero =>
    intro k t hk
    obtain rfl : k = J + 1 := by omega
    refine g_iload d_X5_leastSum_16 rfl ?_
    refine g_iload d_X5_leastSum_18 rfl ?_
    refine g_icmp_gt (tgt := 48) d_X5_leastSum_20 (by decide) (fun c_20 => ?_) (fun c_20 => absurd c_20 (absurd (nI_lt (Nat.lt_succ_self J) (by omega)) c_20))
    refine g_drop [5] rfl ?_
    exact g_end rfl
  | succ n ih =>
    intro k t hk
    refine g_iload d_X5_leastSum_16 rfl ?_
    refine g_iload d_X5_leastSum_18 rfl ?_
    refine g_icmp_gt (tgt := 48) d_X5_leastSum_20 (by decide) (fun c_20 => absurd c_20 (nI_nlt (by omega) (by omega))) (fun c_20 => ?_)
    refine g_aload_n d_X5_leastSum_23 rfl ?_
    refine g_getf d_X5_leastSum_24 f_X5_19 rfl rfl ?_
    refine g_iload d_X5_leastSum_27 rfl ?_
    refine g_iload d_X5_leastSum_29 rfl ?_
    refine g_if_ne (tgt := 38) d_X5_leastSum_31 (by decide) (fun c_31 => ?_) (fun c_31 => ?_)
    · refine g_iconst (v := (-1)) d_X5_leastSum_38 (by decide) ?_
      refine g_callN (As := [.ref 129, .int (nI k), .int (-1)]) d_X5_leastSum_39 o_X11_setInt n_X5_26 ⟨Nat.le_of_ble_eq_true rfl, Nat.le_of_ble_eq_true rfl⟩ (c_setInt hE 129 32 (tM t).2 (nI k) (-1) _ (by decide) rfl) rfl rfl ?_ (Nat.zero_add _)
      refine g_iinc (v := ((nI k) + 1)) (L' := [some (.ref 127), none, none, some (.int (nI N)), some (.int (nI J)), some (.int ((nI k) + 1))]) d_X5_leastSum_42 rfl rfl rfl ?_
      refine g_goto (tgt := 16) d_X5_leastSum_45 (by decide) ?_
      refine g_eq (S' := (16, [some (.ref 127), none, none, some (.int (nI N)), some (.int (nI J)), some (.int (nI (k + 1)))], [], (m, cw (wM t ((tM t).1, setIntF 32 (tM t).2 (nI k) (if nI k = 0 then 0 else -1)))))) (by rw [← nI_1 k]; simp only [eq_false c_31, ↓reduceIte]; try rfl) ?_
      exact ih (k + 1) (wM t ((tM t).1, setIntF 32 (tM t).2 (nI k) (if nI k = 0 then 0 else -1))) (by omega)
    · refine g_iconst (v := 0) d_X5_leastSum_34 (by decide) ?_
      refine g_goto (tgt := 39) d_X5_leastSum_35 (by decide) ?_
      refine g_callN (As := [.ref 129, .int (nI k), .int 0]) d_X5_leastSum_39 o_X11_setInt n_X5_26 ⟨Nat.le_of_ble_eq_true rfl, Nat.le_of_ble_eq_true rfl⟩ (c_setInt hE 129 32 (tM t).2 (nI k) 0 _ (by decide) rfl) rfl rfl ?_ (Nat.zero_add _)
      refine g_iinc (v := ((nI k) + 1)) (L' := [some (.ref 127), none, none, some (.int (nI N)), some (.int (nI J)), some (.int ((nI k) + 1))]) d_X5_leastSum_42 rfl rfl rfl ?_
      refine g_goto (tgt := 16) d_X5_leastSum_45 (by decide) ?_
      refine g_eq (S' := (16, [some (.ref 127), none, none, some (.int (nI N)), some (.int (nI J)), some (.int (nI (k + 1)))], [], (m, cw (wM t ((tM t).1, setIntF 32 (tM t).2 (nI k) (if nI k = 0 then 0 else -1)))))) (by rw [← nI_1 k]; simp only [eq_true c_31, ↓reduceIte]; try rfl) ?_
      exact ih (k + 1) (wM t ((tM t).1, setIntF 32 (tM t).2 (nI k) (if nI k = 0 then 0 else -1))) (by omega)
theorem l_sumG {E : mEnv} (hE : E.1.stackTraces = false) (m : List mE) (N J : Nat) (hN : N < 2 ^ 31) (hJ : J < 2 ^ 31) (hs : (1 <<< (nI N &&& 31) : Int32) - 1 = nI J) : ∀ (n : Nat) (k : Nat) (t : cT), k + n = 64 → Go E M_X5_leastSum 0 (51, [some (.ref 127), none, none, some (.int (nI N)), some (.int (nI J)), some (.int (nI k))], [], (m, cw t)) (.inr (.inl (some (.int (intAtF 32 (suG (tM t).1 (gG (qG (tG t))) N J n k (tM t).2) (nI J))), (m, cw (wM t ((tM t).1, suG (tM t).1 (gG (qG (tG t))) N J n k (tM t).2)))))) := by
  intro n
  induction n with
  | zero =>
    intro k t hk
    obtain rfl : k = 64 := by omega
    refine g_iload d_X5_leastSum_51 rfl ?_
    refine g_bipush (v := 64) d_X5_leastSum_53 (by decide) ?_
    refine g_icmp_ge (tgt := 86) d_X5_leastSum_55 (by decide) (fun c_55 => ?_) (fun c_55 => absurd c_55 (absurd (nI_le (Nat.le_refl 64) (by decide)) c_55))
    refine g_aload_n d_X5_leastSum_86 rfl ?_
    refine g_getf d_X5_leastSum_87 f_X5_19 rfl rfl ?_
    refine g_iload d_X5_leastSum_90 rfl ?_
    refine g_callN (As := [.ref 129, .int (nI J)]) d_X5_leastSum_92 o_X11_intAt n_X5_44 ⟨Nat.le_of_ble_eq_true rfl, Nat.le_of_ble_eq_true rfl⟩ (c_intAt hE 129 32 (tM t).2 (nI J) _ (by decide) rfl) rfl rfl ?_ (Nat.zero_add _)
    exact g_retI d_X5_leastSum_95 rfl (rfl) (rfl)
  | succ n ih =>
    intro k t hk
    refine g_iload d_X5_leastSum_51 rfl ?_
    refine g_bipush (v := 64) d_X5_leastSum_53 (by decide) ?_
    refine g_icmp_ge (tgt := 86) d_X5_leastSum_55 (by decide) (fun c_55 => absurd c_55 (nI_ge (a := k) (b := 64) (by omega) (by decide))) (fun c_55 => ?_)
    refine g_aload_n d_X5_leastSum_58 rfl ?_
    refine g_getf d_X5_leastSum_59 f_X5_9 rfl rfl ?_
    refine g_getf d_X5_leastSum_62 f_X5_30 rfl rfl ?_
    refine g_iload d_X5_leastSum_65 rfl ?_
    refine g_callN (As := [.long (gG (qG (tG t))), .int (nI k)]) d_X5_leastSum_67 o_X11_has n_X5_36 ⟨Nat.le_of_ble_eq_true rfl, Nat.le_of_ble_eq_true rfl⟩ (c_has hE (gG (qG (tG t))) (nI k) _) rfl rfl ?_ (Nat.zero_add _)
    refine g_ifb_eq (tgt := 80) d_X5_leastSum_70 (by decide) (fun c_70 => ?_) (fun c_70 => ?_)
    · refine g_iinc (v := ((nI k) + 1)) (L' := [some (.ref 127), none, none, some (.int (nI N)), some (.int (nI J)), some (.int ((nI k) + 1))]) d_X5_leastSum_80 rfl rfl rfl ?_
      refine g_goto (tgt := 51) d_X5_leastSum_83 (by decide) ?_
      refine g_eq (S' := (51, [some (.ref 127), none, none, some (.int (nI N)), some (.int (nI J)), some (.int (nI (k + 1)))], [], (m, cw t))) (by first | rfl | (rw [← nI_1 k]; rfl)) ?_
      rw [show suG (tM t).1 (gG (qG (tG t))) N J (n + 1) k (tM t).2 = suG (tM t).1 (gG (qG (tG t))) N J n (k + 1) (tM t).2 by simp only [suG, c_70, ↓reduceIte, Bool.false_eq_true]; try rfl]
      exact ih (k + 1) t (by omega)
    · refine g_aload_n d_X5_leastSum_73 rfl ?_
      refine g_iload d_X5_leastSum_74 rfl ?_
      refine g_iload_n d_X5_leastSum_76 rfl ?_
      refine g_callV (As := [.int (nI k), .int (nI N)]) d_X5_leastSum_77 o_X5_offer l_X5_40 ⟨Nat.le_of_ble_eq_true rfl, Nat.le_of_ble_eq_true rfl⟩ (c_offer hE m t (nI k) N J hN hJ hs) rfl rfl rfl rfl rfl rfl ?_ (Nat.zero_add _)
      refine g_iinc (v := ((nI k) + 1)) (L' := [some (.ref 127), none, none, some (.int (nI N)), some (.int (nI J)), some (.int ((nI k) + 1))]) d_X5_leastSum_80 rfl rfl rfl ?_
      refine g_goto (tgt := 51) d_X5_leastSum_83 (by decide) ?_
      refine g_eq (S' := (51, [some (.ref 127), none, none, some (.int (nI N)), some (.int (nI J)), some (.int (nI (k + 1)))], [], (m, cw (wM t ((tM t).1, of2 (tM t).1 (nI k) N J (tM t).2))))) (by first | rfl | (rw [← nI_1 k]; rfl)) ?_
      rw [show suG (tM t).1 (gG (qG (tG t))) N J (n + 1) k (tM t).2 = suG (tM (wM t ((tM t).1, of2 (tM t).1 (nI k) N J (tM t).2))).1 (gG (qG (tG (wM t ((tM t).1, of2 (tM t).1 (nI k) N J (tM t).2))))) N J n (k + 1) (tM (wM t ((tM t).1, of2 (tM t).1 (nI k) N J (tM t).2))).2 by simp only [suG, c_70, ↓reduceIte, Bool.false_eq_true]; try rfl]
      exact ih (k + 1) (wM t ((tM t).1, of2 (tM t).1 (nI k) N J (tM t).2)) (by omega)
def lsM (g : gT) (q : Int64) (d : Nat → Int32) : Nat × (Nat → Int32) := msL g q 64 0 0 d
def lsS (g : gT) (q : Int64) (d s : Nat → Int32) : Nat → Int32 := suG (lsM g q d).2 (gG g) (lsM g q d).1 (2 ^ (lsM g q d).1 - 1) 64 0 (su0 (2 ^ (lsM g q d).1) 0 s)
def lsF (g : gT) (q : Int64) (d s : Nat → Int32) : Int32 := intAtF 32 (lsS g q d s) (nI (2 ^ (lsM g q d).1 - 1))
theorem msL_le (g : gT) (q : Int64) : ∀ (n k j : Nat) (d : Nat → Int32), j ≤ 5 → (msL g q n k j d).1 ≤ 5 := by
  intro n
  induction n with
  | zero => intro k j d h; exact h
  | succ n ih =>
    intro k j d h
    simp only [msL]
    split
    · exact h
    · split
      · exact ih _ _ _ (by omega)
      · exact ih _ _ _ h
theorem sh_pow {N : Nat} (h : N ≤ 5) : (1 <<< (nI N &&& 31) : Int32) - 1 = nI (2 ^ N - 1) := by
  rcases (show N = 0 ∨ N = 1 ∨ N = 2 ∨ N = 3 ∨ N = 4 ∨ N = 5 by omega) with rfl | rfl | rfl | rfl | rfl | rfl <;> decide
theorem pow5 {N : Nat} (h : N ≤ 5) : 2 ^ N ≤ 32 := Nat.pow_le_pow_right (n := 2) (by decide) h
theorem c_leastSum {E : mEnv} (hE : E.1.stackTraces = false) (m : List mE) (t : cT) (q : Int64) : Rt E M_X5_leastSum 0 [.ref 127, .long q] ((m, cw t)) (some (.int (lsF (qG (tG t)) q (tM t).1 (tM t).2))) ((m, cw (wM t ((lsM (qG (tG t)) q (tM t).1).2, lsS (qG (tG t)) q (tM t).1 (tM t).2)))) := by
  have h5 : (lsM (qG (tG t)) q (tM t).1).1 ≤ 5 := msL_le _ _ 64 0 0 _ (by decide)
  refine Rt.of hE rfl pn_X5 (Nat.le_of_ble_eq_true rfl) ?_
  refine g_eq (S' := (0, [some (.ref 127), some (.long q), none, none, none, none], [], (m, cw t))) rfl ?_
  refine g_aload_n d_X5_leastSum_0 rfl ?_
  refine g_lload_n d_X5_leastSum_1 rfl ?_
  refine g_callV (As := [.long q]) d_X5_leastSum_2 o_X5_measure l_X5_22 ⟨Nat.le_of_ble_eq_true rfl, Nat.le_of_ble_eq_true rfl⟩ (c_measure hE m t q) rfl rfl rfl rfl rfl rfl ?_ (Nat.zero_add _)
  refine g_istore_n (L' := [some (.ref 127), some (.long q), none, some (.int (nI (msL (qG (tG t)) q 64 0 0 (tM t).1).1)), none, none]) d_X5_leastSum_5 rfl rfl ?_
  refine g_iconst (v := 1) d_X5_leastSum_6 (by decide) ?_
  refine g_iload_n d_X5_leastSum_7 rfl ?_
  refine g_ishl d_X5_leastSum_8 ?_
  refine g_iconst (v := 1) d_X5_leastSum_9 (by decide) ?_
  refine g_isub d_X5_leastSum_10 ?_
  refine g_istore (L' := [some (.ref 127), some (.long q), none, some (.int (nI (msL (qG (tG t)) q 64 0 0 (tM t).1).1)), some (.int ((1 <<< ((nI (msL (qG (tG t)) q 64 0 0 (tM t).1).1) &&& 31)) - 1)), none]) d_X5_leastSum_11 rfl rfl ?_
  refine g_iconst (v := 0) d_X5_leastSum_13 (by decide) ?_
  refine g_istore (L' := [some (.ref 127), some (.long q), none, some (.int (nI (msL (qG (tG t)) q 64 0 0 (tM t).1).1)), some (.int ((1 <<< ((nI (msL (qG (tG t)) q 64 0 0 (tM t).1).1) &&& 31)) - 1)), some (.int 0)]) d_X5_leastSum_14 rfl rfl ?_
  refine g_drop [1] (L1 := [some (.ref 127), none, none, some (.int (nI (msL (qG (tG t)) q 64 0 0 (tM t).1).1)), some (.int ((1 <<< ((nI (msL (qG (tG t)) q 64 0 0 (tM t).1).1) &&& 31)) - 1)), some (.int 0)]) rfl ?_
  refine g_eq (S' := (16, [some (.ref 127), none, none, some (.int (nI (lsM (qG (tG t)) q (tM t).1).1)), some (.int (nI (2 ^ (lsM (qG (tG t)) q (tM t).1).1 - 1))), some (.int (nI 0))], [], (m, cw (wM t ((lsM (qG (tG t)) q (tM t).1).2, (tM t).2))))) (by first | (rw [← sh_pow h5]; done) | (rw [← sh_pow h5]; rfl)) ?_
  refine Go.trans0 (l_sum0 hE m (lsM (qG (tG t)) q (tM t).1).1 (2 ^ (lsM (qG (tG t)) q (tM t).1).1 - 1) (by have := pow5 h5; omega) (2 ^ (lsM (qG (tG t)) q (tM t).1).1) 0 (wM t ((lsM (qG (tG t)) q (tM t).1).2, (tM t).2)) (by have := Nat.two_pow_pos (lsM (qG (tG t)) q (tM t).1).1; omega)) ?_
  refine g_iconst (v := 0) d_X5_leastSum_48 (by decide) ?_
  refine g_istore (L' := [some (.ref 127), none, none, some (.int (nI (lsM (qG (tG t)) q (tM t).1).1)), some (.int (nI (2 ^ (lsM (qG (tG t)) q (tM t).1).1 - 1))), some (.int (nI 0))]) d_X5_leastSum_49 rfl rfl ?_
  exact l_sumG hE m (lsM (qG (tG t)) q (tM t).1).1 (2 ^ (lsM (qG (tG t)) q (tM t).1).1 - 1) (by omega) (by have := pow5 h5; omega) (sh_pow h5) 64 0 (wM t ((lsM (qG (tG t)) q (tM t).1).2, su0 (2 ^ (lsM (qG (tG t)) q (tM t).1).1) 0 (tM t).2)) (by omega)
