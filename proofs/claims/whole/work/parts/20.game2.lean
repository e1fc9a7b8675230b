/-! reading a room, laying a grid, copies, the record once more -/
def rStB (x : RtT) (s : Int32) : Bool := if s = 47 then rEndB x else rAddB x s
def rStS (x : RtT) (s : Int32) : RtT := if s = 47 then rEndS x else (if rAddB x s = true then rAddS x s else x)
def rdL (f : Nat → Int32) (N : Int32) : Nat → Nat → RtT → Int32 × RtT
  | 0, _, x => ((if rEndB x = true then -1 else N), rEndS x)
  | n + 1, k, x => if rStB x (iAt f (nI k)) = true then rdL f N n (k + 1) (rStS x (iAt f (nI k))) else (nI k, rStS x (iAt f (nI k)))
theorem d_X7_read_0 : decode (mB M_X7_read) 0 = .ok (.aload_n 0, 1) := by decide +kernel
theorem d_X7_read_1 : decode (mB M_X7_read) 1 = .ok (.invokevirtual 9, 3) := by decide +kernel
theorem d_X7_read_4 : decode (mB M_X7_read) 4 = .ok (.iconst 0, 1) := by decide +kernel
theorem d_X7_read_5 : decode (mB M_X7_read) 5 = .ok (.istore_n 3, 1) := by decide +kernel
theorem d_X7_read_6 : decode (mB M_X7_read) 6 = .ok (.iload_n 3, 1) := by decide +kernel
theorem d_X7_read_7 : decode (mB M_X7_read) 7 = .ok (.iload_n 2, 1) := by decide +kernel
theorem d_X7_read_8 : decode (mB M_X7_read) 8 = .ok (.if_icmp .ge 45, 3) := by decide +kernel
theorem d_X7_read_11 : decode (mB M_X7_read) 11 = .ok (.aload_n 1, 1) := by decide +kernel
theorem d_X7_read_12 : decode (mB M_X7_read) 12 = .ok (.iload_n 3, 1) := by decide +kernel
theorem d_X7_read_13 : decode (mB M_X7_read) 13 = .ok (.invokevirtual 46, 3) := by decide +kernel
theorem d_X7_read_16 : decode (mB M_X7_read) 16 = .ok (.istore 4, 2) := by decide +kernel
theorem d_X7_read_18 : decode (mB M_X7_read) 18 = .ok (.iload 4, 2) := by decide +kernel
theorem d_X7_read_20 : decode (mB M_X7_read) 20 = .ok (.bipush 47, 2) := by decide +kernel
theorem d_X7_read_22 : decode (mB M_X7_read) 22 = .ok (.if_icmp .ne 10, 3) := by decide +kernel
theorem d_X7_read_25 : decode (mB M_X7_read) 25 = .ok (.aload_n 0, 1) := by decide +kernel
theorem d_X7_read_26 : decode (mB M_X7_read) 26 = .ok (.invokevirtual 52, 3) := by decide +kernel
theorem d_X7_read_29 : decode (mB M_X7_read) 29 = .ok (.goto 9, 3) := by decide +kernel
theorem d_X7_read_32 : decode (mB M_X7_read) 32 = .ok (.aload_n 0, 1) := by decide +kernel
theorem d_X7_read_33 : decode (mB M_X7_read) 33 = .ok (.iload 4, 2) := by decide +kernel
theorem d_X7_read_35 : decode (mB M_X7_read) 35 = .ok (.invokevirtual 56, 3) := by decide +kernel
theorem d_X7_read_38 : decode (mB M_X7_read) 38 = .ok (.istore 5, 2) := by decide +kernel
theorem d_X7_read_40 : decode (mB M_X7_read) 40 = .ok (.iload 5, 2) := by decide +kernel
theorem d_X7_read_42 : decode (mB M_X7_read) 42 = .ok (.ifCond .ne 5, 3) := by decide +kernel
theorem d_X7_read_45 : decode (mB M_X7_read) 45 = .ok (.iload_n 3, 1) := by decide +kernel
theorem d_X7_read_46 : decode (mB M_X7_read) 46 = .ok (.ireturn, 1) := by decide +kernel
theorem d_X7_read_47 : decode (mB M_X7_read) 47 = .ok (.iinc 3 1, 3) := by decide +kernel
theorem d_X7_read_50 : decode (mB M_X7_read) 50 = .ok (.goto (-44), 3) := by decide +kernel
theorem d_X7_read_53 : decode (mB M_X7_read) 53 = .ok (.aload_n 0, 1) := by decide +kernel
theorem d_X7_read_54 : decode (mB M_X7_read) 54 = .ok (.invokevirtual 52, 3) := by decide +kernel
theorem d_X7_read_57 : decode (mB M_X7_read) 57 = .ok (.ifCond .eq 7, 3) := by decide +kernel
theorem d_X7_read_60 : decode (mB M_X7_read) 60 = .ok (.iconst (-1), 1) := by decide +kernel
theorem d_X7_read_61 : decode (mB M_X7_read) 61 = .ok (.goto 4, 3) := by decide +kernel
theorem d_X7_read_64 : decode (mB M_X7_read) 64 = .ok (.iload_n 2, 1) := by decide +kernel
theorem d_X7_read_65 : decode (mB M_X7_read) 65 = .ok (.ireturn, 1) := by decide +kernel
theorem l_read {E : mEnv} (hE : E.1.stackTraces = false) (m : List mE) (N : Nat) (hN : N < 2 ^ 31) : ∀ (n : Nat) (k : Nat) (t : cT), chOk (tI t).1 → k + n = N → Go E M_X7_read 0 (6, [some (.ref 103), some (.ref 101), some (.int (nI N)), some (.int (nI k)), none, none], [], (m, cw t)) (.inr (.inl (some (.int (rdL (tI t).1 (nI N) n k (tT t)).1), (m, cw (wT t (rdL (tI t).1 (nI N) n k (tT t)).2))))) := by
  intro n
  induction n with
  | zero =>
    intro k t hch hk
    obtain rfl : k = N := by omega
    refine g_iload_n d_X7_read_6 rfl ?_
    refine g_iload_n d_X7_read_7 rfl ?_
    refine g_icmp_ge (tgt := 53) d_X7_read_8 (by decide) (fun c_8 => ?_) (fun c_8 => absurd c_8 (absurd (nI_le (Nat.le_refl k) hN) c_8))
    refine g_aload_n d_X7_read_53 rfl ?_
    refine g_callV (As := []) d_X7_read_54 o_X7_endRow l_X7_52 ⟨Nat.le_of_ble_eq_true rfl, Nat.le_of_ble_eq_true rfl⟩ (c_endRow hE m t) rfl rfl rfl rfl rfl rfl ?_ (Nat.zero_add _)
    refine g_ifb_eq (tgt := 64) d_X7_read_57 (by decide) (fun c_57 => ?_) (fun c_57 => ?_)
    · refine g_iload_n d_X7_read_64 rfl ?_
      exact g_retI d_X7_read_65 rfl (by simp only [rdL, c_57, ↓reduceIte, Bool.false_eq_true]) (by simp only [rdL]; try rfl)
    · refine g_iconst (v := (-1)) d_X7_read_60 (by decide) ?_
      refine g_goto (tgt := 65) d_X7_read_61 (by decide) ?_
      exact g_retI d_X7_read_65 rfl (by simp only [rdL, c_57, ↓reduceIte, Bool.false_eq_true]) (by simp only [rdL]; try rfl)
  | succ n ih =>
    intro k t hch hk
    refine g_iload_n d_X7_read_6 rfl ?_
    refine g_iload_n d_X7_read_7 rfl ?_
    refine g_icmp_ge (tgt := 53) d_X7_read_8 (by decide) (fun c_8 => absurd c_8 (nI_ge (a := k) (b := N) (by omega) hN)) (fun c_8 => ?_)
    refine g_aload_n d_X7_read_11 rfl ?_
    refine g_iload_n d_X7_read_12 rfl ?_
    refine g_callV (As := [.int (nI k)]) d_X7_read_13 o_X10_at l_X7_46 ⟨Nat.le_of_ble_eq_true rfl, Nat.le_of_ble_eq_true rfl⟩ (c_iat hE m t (nI k) hch) rfl rfl rfl rfl rfl rfl ?_ (Nat.zero_add _)
    refine g_istore (L' := [some (.ref 103), some (.ref 101), some (.int (nI N)), some (.int (nI k)), some (.int (iAt (tI t).1 (nI k))), none]) d_X7_read_16 rfl rfl ?_
    refine g_iload d_X7_read_18 rfl ?_
    refine g_bipush (v := 47) d_X7_read_20 (by decide) ?_
    refine g_icmp_ne (tgt := 32) d_X7_read_22 (by decide) (fun c_22 => ?_) (fun c_22 => ?_)
    · refine g_aload_n d_X7_read_32 rfl ?_
      refine g_iload d_X7_read_33 rfl ?_
      refine g_callV (As := [.int (iAt (tI t).1 (nI k))]) d_X7_read_35 o_X7_addCell l_X7_56 ⟨Nat.le_of_ble_eq_true rfl, Nat.le_of_ble_eq_true rfl⟩ (c_addCell hE m t (iAt (tI t).1 (nI k))) rfl rfl rfl rfl rfl rfl ?_ (Nat.zero_add _)
      refine g_istore (L' := [some (.ref 103), some (.ref 101), some (.int (nI N)), some (.int (nI k)), some (.int (iAt (tI t).1 (nI k))), some (.int (bI (rAddB (tT t) (iAt (tI t).1 (nI k)))))]) d_X7_read_38 rfl rfl ?_
      refine g_iload d_X7_read_40 rfl ?_
      refine g_ifb_ne (tgt := 47) d_X7_read_42 (by decide) (fun c_42 => ?_) (fun c_42 => ?_)
      · refine g_iinc (v := ((nI k) + 1)) (L' := [some (.ref 103), some (.ref 101), some (.int (nI N)), some (.int ((nI k) + 1)), some (.int (iAt (tI t).1 (nI k))), some (.int (bI (rAddB (tT t) (iAt (tI t).1 (nI k)))))]) d_X7_read_47 rfl rfl rfl ?_
        refine g_goto (tgt := 6) d_X7_read_50 (by decide) ?_
        refine g_drop [4, 5] (L1 := [some (.ref 103), some (.ref 101), some (.int (nI N)), some (.int ((nI k) + 1)), none, none]) rfl ?_
        refine g_eq (S' := (6, [some (.ref 103), some (.ref 101), some (.int (nI N)), some (.int (nI (k + 1))), none, none], [], (m, cw (wT t (rStS (tT t) (iAt (tI t).1 (nI k))))))) (by rw [nI_1]; simp only [rStS, eq_false c_22, ↓reduceIte]; try rfl) ?_
        rw [show rdL (tI t).1 (nI N) (n + 1) k (tT t) = rdL (tI t).1 (nI N) n (k + 1) (rStS (tT t) (iAt (tI t).1 (nI k))) by simp only [rdL, rStB, eq_false c_22, ↓reduceIte, c_42]]
        exact ih (k + 1) (wT t (rStS (tT t) (iAt (tI t).1 (nI k)))) hch (by omega)
      · refine g_iload_n d_X7_read_45 rfl ?_
        exact g_retI d_X7_read_46 rfl (by simp only [rdL, rStB, eq_false c_22, c_42, ↓reduceIte, Bool.false_eq_true]) (by simp only [rdL, rStB, rStS, eq_false c_22, c_42, ↓reduceIte, Bool.false_eq_true]; try rfl)
    · refine g_aload_n d_X7_read_25 rfl ?_
      refine g_callV (As := []) d_X7_read_26 o_X7_endRow l_X7_52 ⟨Nat.le_of_ble_eq_true rfl, Nat.le_of_ble_eq_true rfl⟩ (c_endRow hE m t) rfl rfl rfl rfl rfl rfl ?_ (Nat.zero_add _)
      refine g_goto (tgt := 38) d_X7_read_29 (by decide) ?_
      refine g_istore (L' := [some (.ref 103), some (.ref 101), some (.int (nI N)), some (.int (nI k)), some (.int (iAt (tI t).1 (nI k))), some (.int (bI (rEndB (tT t))))]) d_X7_read_38 rfl rfl ?_
      refine g_iload d_X7_read_40 rfl ?_
      refine g_ifb_ne (tgt := 47) d_X7_read_42 (by decide) (fun c_42 => ?_) (fun c_42 => ?_)
      · refine g_iinc (v := ((nI k) + 1)) (L' := [some (.ref 103), some (.ref 101), some (.int (nI N)), some (.int ((nI k) + 1)), some (.int (iAt (tI t).1 (nI k))), some (.int (bI (rEndB (tT t))))]) d_X7_read_47 rfl rfl rfl ?_
        refine g_goto (tgt := 6) d_X7_read_50 (by decide) ?_
        refine g_drop [4, 5] (L1 := [some (.ref 103), some (.ref 101), some (.int (nI N)), some (.int ((nI k) + 1)), none, none]) rfl ?_
        refine g_eq (S' := (6, [some (.ref 103), some (.ref 101), some (.int (nI N)), some (.int (nI (k + 1))), none, none], [], (m, cw (wT t (rStS (tT t) (iAt (tI t).1 (nI k))))))) (by rw [nI_1]; simp only [rStS, eq_true c_22, ↓reduceIte]; try rfl) ?_
        rw [show rdL (tI t).1 (nI N) (n + 1) k (tT t) = rdL (tI t).1 (nI N) n (k + 1) (rStS (tT t) (iAt (tI t).1 (nI k))) by simp only [rdL, rStB, eq_true c_22, ↓reduceIte, c_42]]
        exact ih (k + 1) (wT t (rStS (tT t) (iAt (tI t).1 (nI k)))) hch (by omega)
      · refine g_iload_n d_X7_read_45 rfl ?_
        exact g_retI d_X7_read_46 rfl (by simp only [rdL, rStB, eq_true c_22, c_42, ↓reduceIte, Bool.false_eq_true]) (by simp only [rdL, rStB, rStS, eq_true c_22, c_42, ↓reduceIte, Bool.false_eq_true]; try rfl)
theorem c_read {E : mEnv} (hE : E.1.stackTraces = false) (m : List mE) (t : cT) (N : Nat) (hN : N < 2 ^ 31) (hch : chOk (tI t).1) : Rt E M_X7_read 0 [.ref 103, .ref 101, .int ((nI N))] ((m, cw t)) (some (.int (rdL (tI t).1 (nI N) N 0 rClr).1)) ((m, cw (wT t (rdL (tI t).1 (nI N) N 0 rClr).2))) := by
  refine Rt.of hE rfl pn_X7 (Nat.le_of_ble_eq_true rfl) ?_
  refine g_eq (S' := (0, [some (.ref 103), some (.ref 101), some (.int (nI N)), none, none, none], [], (m, cw t))) rfl ?_
  refine g_aload_n d_X7_read_0 rfl ?_
  refine g_callV (As := []) d_X7_read_1 o_X7_clear l_X7_9 ⟨Nat.le_of_ble_eq_true rfl, Nat.le_of_ble_eq_true rfl⟩ (c_rclear hE m t) rfl rfl rfl rfl rfl rfl ?_ (Nat.zero_add _)
  refine g_iconst (v := 0) d_X7_read_4 (by decide) ?_
  refine g_istore_n (L' := [some (.ref 103), some (.ref 101), some (.int (nI N)), some (.int 0), none, none]) d_X7_read_5 rfl rfl ?_
  refine g_eq (S' := (6, [some (.ref 103), some (.ref 101), some (.int (nI N)), some (.int (nI 0)), none, none], [], (m, cw (wT t rClr)))) (rfl) ?_
  exact l_read hE m N hN N 0 (wT t rClr) hch (by omega)
theorem d_X2_copy_0 : decode (mB M_X2_copy) 0 = .ok (.aload_n 0, 1) := by decide +kernel
theorem d_X2_copy_1 : decode (mB M_X2_copy) 1 = .ok (.aload_n 1, 1) := by decide +kernel
theorem d_X2_copy_2 : decode (mB M_X2_copy) 2 = .ok (.getfield 9, 3) := by decide +kernel
theorem d_X2_copy_5 : decode (mB M_X2_copy) 5 = .ok (.putfield 9, 3) := by decide +kernel
theorem d_X2_copy_8 : decode (mB M_X2_copy) 8 = .ok (.aload_n 0, 1) := by decide +kernel
theorem d_X2_copy_9 : decode (mB M_X2_copy) 9 = .ok (.aload_n 1, 1) := by decide +kernel
theorem d_X2_copy_10 : decode (mB M_X2_copy) 10 = .ok (.getfield 15, 3) := by decide +kernel
theorem d_X2_copy_13 : decode (mB M_X2_copy) 13 = .ok (.putfield 15, 3) := by decide +kernel
theorem d_X2_copy_16 : decode (mB M_X2_copy) 16 = .ok (.aload_n 0, 1) := by decide +kernel
theorem d_X2_copy_17 : decode (mB M_X2_copy) 17 = .ok (.aload_n 1, 1) := by decide +kernel
theorem d_X2_copy_18 : decode (mB M_X2_copy) 18 = .ok (.getfield 18, 3) := by decide +kernel
theorem d_X2_copy_21 : decode (mB M_X2_copy) 21 = .ok (.putfield 18, 3) := by decide +kernel
theorem d_X2_copy_24 : decode (mB M_X2_copy) 24 = .ok (.aload_n 0, 1) := by decide +kernel
theorem d_X2_copy_25 : decode (mB M_X2_copy) 25 = .ok (.aload_n 1, 1) := by decide +kernel
theorem d_X2_copy_26 : decode (mB M_X2_copy) 26 = .ok (.getfield 22, 3) := by decide +kernel
theorem d_X2_copy_29 : decode (mB M_X2_copy) 29 = .ok (.putfield 22, 3) := by decide +kernel
theorem d_X2_copy_32 : decode (mB M_X2_copy) 32 = .ok (.aload_n 0, 1) := by decide +kernel
theorem d_X2_copy_33 : decode (mB M_X2_copy) 33 = .ok (.aload_n 1, 1) := by decide +kernel
theorem d_X2_copy_34 : decode (mB M_X2_copy) 34 = .ok (.getfield 25, 3) := by decide +kernel
theorem d_X2_copy_37 : decode (mB M_X2_copy) 37 = .ok (.putfield 25, 3) := by decide +kernel
theorem d_X2_copy_40 : decode (mB M_X2_copy) 40 = .ok (.aload_n 0, 1) := by decide +kernel
theorem d_X2_copy_41 : decode (mB M_X2_copy) 41 = .ok (.aload_n 1, 1) := by decide +kernel
theorem d_X2_copy_42 : decode (mB M_X2_copy) 42 = .ok (.getfield 28, 3) := by decide +kernel
theorem d_X2_copy_45 : decode (mB M_X2_copy) 45 = .ok (.putfield 28, 3) := by decide +kernel
theorem d_X2_copy_48 : decode (mB M_X2_copy) 48 = .ok (.aload_n 0, 1) := by decide +kernel
theorem d_X2_copy_49 : decode (mB M_X2_copy) 49 = .ok (.aload_n 1, 1) := by decide +kernel
theorem d_X2_copy_50 : decode (mB M_X2_copy) 50 = .ok (.getfield 31, 3) := by decide +kernel
theorem d_X2_copy_53 : decode (mB M_X2_copy) 53 = .ok (.putfield 31, 3) := by decide +kernel
theorem d_X2_copy_56 : decode (mB M_X2_copy) 56 = .ok (.return_, 1) := by decide +kernel
theorem c_gcopy {E : mEnv} (hE : E.1.stackTraces = false) (r s : Nat) (g h : gT) (w : mW) (hg : mget w r = some (gcell g)) (hs : mget w s = some (gcell h)) (hrs : r ≠ s) : Rt E M_X2_copy 0 [.ref r, .ref s] w none ((mset w r (gcell h))) := by
  refine Rt.of hE rfl pn_X2 (Nat.le_of_ble_eq_true rfl) ?_
  refine g_eq (S' := (0, [some (.ref r), some (.ref s)], [], w)) rfl ?_
  refine g_aload_n d_X2_copy_0 rfl ?_
  refine g_aload_n d_X2_copy_1 rfl ?_
  refine g_getf d_X2_copy_2 f_X2_9 hs rfl ?_
  refine g_putI (w' := (mset w r (.inr (2, [.int (gR h), .int (gC g), .long (gO g), .long (gG g), .long (gD g), .long (gF g), .long (gL g)])))) d_X2_copy_5 p_X2_9 rfl rfl hg (Nat.le_of_ble_eq_true rfl) (rfl) ?_
  refine g_aload_n d_X2_copy_8 rfl ?_
  refine g_aload_n d_X2_copy_9 rfl ?_
  refine g_getf d_X2_copy_10 f_X2_15 ((mget_ne hrs).trans hs) rfl ?_
  refine g_putI (w' := (mset w r (.inr (2, [.int (gR h), .int (gC h), .long (gO g), .long (gG g), .long (gD g), .long (gF g), .long (gL g)])))) d_X2_copy_13 p_X2_15 rfl rfl (mget_eq hg) (Nat.le_of_ble_eq_true rfl) (mset_mset) ?_
  refine g_aload_n d_X2_copy_16 rfl ?_
  refine g_aload_n d_X2_copy_17 rfl ?_
  refine g_getf d_X2_copy_18 f_X2_18 ((mget_ne hrs).trans hs) rfl ?_
  refine g_putL (w' := (mset w r (.inr (2, [.int (gR h), .int (gC h), .long (gO h), .long (gG g), .long (gD g), .long (gF g), .long (gL g)])))) d_X2_copy_21 p_X2_18 rfl rfl (mget_eq hg) (Nat.le_of_ble_eq_true rfl) (mset_mset) ?_
  refine g_aload_n d_X2_copy_24 rfl ?_
  refine g_aload_n d_X2_copy_25 rfl ?_
  refine g_getf d_X2_copy_26 f_X2_22 ((mget_ne hrs).trans hs) rfl ?_
  refine g_putL (w' := (mset w r (.inr (2, [.int (gR h), .int (gC h), .long (gO h), .long (gG h), .long (gD g), .long (gF g), .long (gL g)])))) d_X2_copy_29 p_X2_22 rfl rfl (mget_eq hg) (Nat.le_of_ble_eq_true rfl) (mset_mset) ?_
  refine g_aload_n d_X2_copy_32 rfl ?_
  refine g_aload_n d_X2_copy_33 rfl ?_
  refine g_getf d_X2_copy_34 f_X2_25 ((mget_ne hrs).trans hs) rfl ?_
  refine g_putL (w' := (mset w r (.inr (2, [.int (gR h), .int (gC h), .long (gO h), .long (gG h), .long (gD h), .long (gF g), .long (gL g)])))) d_X2_copy_37 p_X2_25 rfl rfl (mget_eq hg) (Nat.le_of_ble_eq_true rfl) (mset_mset) ?_
  refine g_aload_n d_X2_copy_40 rfl ?_
  refine g_aload_n d_X2_copy_41 rfl ?_
  refine g_getf d_X2_copy_42 f_X2_28 ((mget_ne hrs).trans hs) rfl ?_
  refine g_putL (w' := (mset w r (.inr (2, [.int (gR h), .int (gC h), .long (gO h), .long (gG h), .long (gD h), .long (gF h), .long (gL g)])))) d_X2_copy_45 p_X2_28 rfl rfl (mget_eq hg) (Nat.le_of_ble_eq_true rfl) (mset_mset) ?_
  refine g_aload_n d_X2_copy_48 rfl ?_
  refine g_aload_n d_X2_copy_49 rfl ?_
  refine g_getf d_X2_copy_50 f_X2_31 ((mget_ne hrs).trans hs) rfl ?_
  refine g_putL (w' := (mset w r (.inr (2, [.int (gR h), .int (gC h), .long (gO h), .long (gG h), .long (gD h), .long (gF h), .long (gL h)])))) d_X2_copy_53 p_X2_31 rfl rfl (mget_eq hg) (Nat.le_of_ble_eq_true rfl) (mset_mset) ?_
  exact g_retV d_X2_copy_56 rfl (rfl)
def lyL (C : Int32) : Nat → Nat → Int64 → Int64
  | 0, _, f => f
  | n + 1, k, f => lyL C n (k + 1) (f ||| jshl 1 (nI k * C))
/-- the grid that is laid out of a text with N rows -/
def ly0 (x : RtT) (N : Nat) (d : Int64) : gT := (rR x, rC x, rO x, rG x, d, lyL (rC x) N 0 0, jshl (lyL (rC x) N 0 0) (rC x - 1))
def lyG (x : RtT) (N : Nat) (d : Int64) : gT := (rR x, rC x, rO x, rG x, rO x &&& (gPl (ly0 x N d) (rG x) ^^^ (-1)), lyL (rC x) N 0 0, jshl (lyL (rC x) N 0 0) (rC x - 1))
def lyQ (q : GmT) (x : RtT) (N : Nat) : GmT := (lyG x N (gD (qG q)), qN q, qS q, qA q, qL q, qR q, qC q)
def lyQ0 (q : GmT) (x : RtT) (N : Nat) : GmT := (ly0 x N (gD (qG q)), qN q, qS q, qA q, qL q, qR q, qC q)
theorem d_X2_lay_0 : decode (mB M_X2_lay) 0 = .ok (.aload_n 0, 1) := by decide +kernel
theorem d_X2_lay_1 : decode (mB M_X2_lay) 1 = .ok (.aload_n 1, 1) := by decide +kernel
theorem d_X2_lay_2 : decode (mB M_X2_lay) 2 = .ok (.getfield 34, 3) := by decide +kernel
theorem d_X2_lay_5 : decode (mB M_X2_lay) 5 = .ok (.putfield 9, 3) := by decide +kernel
theorem d_X2_lay_8 : decode (mB M_X2_lay) 8 = .ok (.aload_n 0, 1) := by decide +kernel
theorem d_X2_lay_9 : decode (mB M_X2_lay) 9 = .ok (.aload_n 1, 1) := by decide +kernel
theorem d_X2_lay_10 : decode (mB M_X2_lay) 10 = .ok (.getfield 37, 3) := by decide +kernel
theorem d_X2_lay_13 : decode (mB M_X2_lay) 13 = .ok (.putfield 15, 3) := by decide +kernel
theorem d_X2_lay_16 : decode (mB M_X2_lay) 16 = .ok (.aload_n 0, 1) := by decide +kernel
theorem d_X2_lay_17 : decode (mB M_X2_lay) 17 = .ok (.aload_n 1, 1) := by decide +kernel
theorem d_X2_lay_18 : decode (mB M_X2_lay) 18 = .ok (.getfield 38, 3) := by decide +kernel
theorem d_X2_lay_21 : decode (mB M_X2_lay) 21 = .ok (.putfield 18, 3) := by decide +kernel
theorem d_X2_lay_24 : decode (mB M_X2_lay) 24 = .ok (.aload_n 0, 1) := by decide +kernel
theorem d_X2_lay_25 : decode (mB M_X2_lay) 25 = .ok (.aload_n 1, 1) := by decide +kernel
theorem d_X2_lay_26 : decode (mB M_X2_lay) 26 = .ok (.getfield 39, 3) := by decide +kernel
theorem d_X2_lay_29 : decode (mB M_X2_lay) 29 = .ok (.putfield 22, 3) := by decide +kernel
theorem d_X2_lay_32 : decode (mB M_X2_lay) 32 = .ok (.aload_n 0, 1) := by decide +kernel
theorem d_X2_lay_33 : decode (mB M_X2_lay) 33 = .ok (.lconst 0, 1) := by decide +kernel
theorem d_X2_lay_34 : decode (mB M_X2_lay) 34 = .ok (.putfield 28, 3) := by decide +kernel
theorem d_X2_lay_37 : decode (mB M_X2_lay) 37 = .ok (.iconst 0, 1) := by decide +kernel
theorem d_X2_lay_38 : decode (mB M_X2_lay) 38 = .ok (.istore_n 2, 1) := by decide +kernel
theorem d_X2_lay_39 : decode (mB M_X2_lay) 39 = .ok (.iload_n 2, 1) := by decide +kernel
theorem d_X2_lay_40 : decode (mB M_X2_lay) 40 = .ok (.aload_n 0, 1) := by decide +kernel
theorem d_X2_lay_41 : decode (mB M_X2_lay) 41 = .ok (.getfield 9, 3) := by decide +kernel
theorem d_X2_lay_44 : decode (mB M_X2_lay) 44 = .ok (.if_icmp .ge 27, 3) := by decide +kernel
theorem d_X2_lay_47 : decode (mB M_X2_lay) 47 = .ok (.aload_n 0, 1) := by decide +kernel
theorem d_X2_lay_48 : decode (mB M_X2_lay) 48 = .ok (.dup, 1) := by decide +kernel
theorem d_X2_lay_49 : decode (mB M_X2_lay) 49 = .ok (.getfield 28, 3) := by decide +kernel
theorem d_X2_lay_52 : decode (mB M_X2_lay) 52 = .ok (.iload_n 2, 1) := by decide +kernel
theorem d_X2_lay_53 : decode (mB M_X2_lay) 53 = .ok (.aload_n 0, 1) := by decide +kernel
theorem d_X2_lay_54 : decode (mB M_X2_lay) 54 = .ok (.getfield 15, 3) := by decide +kernel
theorem d_X2_lay_57 : decode (mB M_X2_lay) 57 = .ok (.imul, 1) := by decide +kernel
theorem d_X2_lay_58 : decode (mB M_X2_lay) 58 = .ok (.invokestatic 40, 3) := by decide +kernel
theorem d_X2_lay_61 : decode (mB M_X2_lay) 61 = .ok (.lor, 1) := by decide +kernel
theorem d_X2_lay_62 : decode (mB M_X2_lay) 62 = .ok (.putfield 28, 3) := by decide +kernel
theorem d_X2_lay_65 : decode (mB M_X2_lay) 65 = .ok (.iinc 2 1, 3) := by decide +kernel
theorem d_X2_lay_68 : decode (mB M_X2_lay) 68 = .ok (.goto (-29), 3) := by decide +kernel
theorem d_X2_lay_71 : decode (mB M_X2_lay) 71 = .ok (.aload_n 0, 1) := by decide +kernel
theorem d_X2_lay_72 : decode (mB M_X2_lay) 72 = .ok (.aload_n 0, 1) := by decide +kernel
theorem d_X2_lay_73 : decode (mB M_X2_lay) 73 = .ok (.getfield 28, 3) := by decide +kernel
theorem d_X2_lay_76 : decode (mB M_X2_lay) 76 = .ok (.aload_n 0, 1) := by decide +kernel
theorem d_X2_lay_77 : decode (mB M_X2_lay) 77 = .ok (.getfield 15, 3) := by decide +kernel
theorem d_X2_lay_80 : decode (mB M_X2_lay) 80 = .ok (.iconst 1, 1) := by decide +kernel
theorem d_X2_lay_81 : decode (mB M_X2_lay) 81 = .ok (.isub, 1) := by decide +kernel
theorem d_X2_lay_82 : decode (mB M_X2_lay) 82 = .ok (.lshl, 1) := by decide +kernel
theorem d_X2_lay_83 : decode (mB M_X2_lay) 83 = .ok (.putfield 31, 3) := by decide +kernel
theorem d_X2_lay_86 : decode (mB M_X2_lay) 86 = .ok (.aload_n 0, 1) := by decide +kernel
theorem d_X2_lay_87 : decode (mB M_X2_lay) 87 = .ok (.aload_n 0, 1) := by decide +kernel
theorem d_X2_lay_88 : decode (mB M_X2_lay) 88 = .ok (.getfield 18, 3) := by decide +kernel
theorem d_X2_lay_91 : decode (mB M_X2_lay) 91 = .ok (.aload_n 0, 1) := by decide +kernel
theorem d_X2_lay_92 : decode (mB M_X2_lay) 92 = .ok (.aload_n 0, 1) := by decide +kernel
theorem d_X2_lay_93 : decode (mB M_X2_lay) 93 = .ok (.getfield 22, 3) := by decide +kernel
theorem d_X2_lay_96 : decode (mB M_X2_lay) 96 = .ok (.invokevirtual 44, 3) := by decide +kernel
theorem d_X2_lay_99 : decode (mB M_X2_lay) 99 = .ok (.ldc2_w 48, 3) := by decide +kernel
theorem d_X2_lay_102 : decode (mB M_X2_lay) 102 = .ok (.lxor, 1) := by decide +kernel
theorem d_X2_lay_103 : decode (mB M_X2_lay) 103 = .ok (.land, 1) := by decide +kernel
theorem d_X2_lay_104 : decode (mB M_X2_lay) 104 = .ok (.putfield 25, 3) := by decide +kernel
theorem d_X2_lay_107 : decode (mB M_X2_lay) 107 = .ok (.return_, 1) := by decide +kernel
theorem l_glay {E : mEnv} (hE : E.1.stackTraces = false) (m : List mE) (t : cT) (N : Nat) (hN : N < 2 ^ 31) (hr : rR (tT t) = nI N) : ∀ (n : Nat) (k : Nat) (F : Int64), k + n = N → Go E M_X2_lay 0 (39, [some (.ref 105), some (.ref 103), some (.int (nI k))], [], (mset (m, cw t) 105 (.inr (2, [.int (rR (tT t)), .int (rC (tT t)), .long (rO (tT t)), .long (rG (tT t)), .long (gD (qG (tG t))), .long F, .long (gL (qG (tG t)))])))) (.inl (71, [some (.ref 105), some (.ref 103), none], [], (mset (m, cw t) 105 (.inr (2, [.int (rR (tT t)), .int (rC (tT t)), .long (rO (tT t)), .long (rG (tT t)), .long (gD (qG (tG t))), .long (lyL (rC (tT t)) n k F), .long (gL (qG (tG t)))]))))) := by
  intro n
  induction n with
  | zero =>
    intro k F hk
    obtain rfl : k = N := by omega
    refine g_iload_n d_X2_lay_39 rfl ?_
    refine g_aload_n d_X2_lay_40 rfl ?_
    refine g_getf d_X2_lay_41 f_X2_9 (mget_eq rfl) rfl ?_
    refine g_icmp_ge (tgt := 71) d_X2_lay_44 (by decide) (fun c_44 => ?_) (fun c_44 => absurd c_44 (absurd (by rw [hr]; exact nI_le (Nat.le_refl k) hN) c_44))
    refine g_drop [2] rfl ?_
    exact g_end rfl
  | succ n ih =>
    intro k F hk
    refine g_iload_n d_X2_lay_39 rfl ?_
    refine g_aload_n d_X2_lay_40 rfl ?_
    refine g_getf d_X2_lay_41 f_X2_9 (mget_eq rfl) rfl ?_
    refine g_icmp_ge (tgt := 71) d_X2_lay_44 (by decide) (fun c_44 => absurd c_44 (by rw [hr]; exact nI_ge (a := k) (b := N) (by omega) hN)) (fun c_44 => ?_)
    refine g_aload_n d_X2_lay_47 rfl ?_
    refine g_dup d_X2_lay_48 rfl ?_
    refine g_getf d_X2_lay_49 f_X2_28 (mget_eq rfl) rfl ?_
    refine g_iload_n d_X2_lay_52 rfl ?_
    refine g_aload_n d_X2_lay_53 rfl ?_
    refine g_getf d_X2_lay_54 f_X2_15 (mget_eq rfl) rfl ?_
    refine g_imul d_X2_lay_57 ?_
    refine g_callN (As := [.int ((nI k) * (rC (tT t)))]) d_X2_lay_58 o_X11_bit n_X2_40 ⟨Nat.le_of_ble_eq_true rfl, Nat.le_of_ble_eq_true rfl⟩ (c_bit hE ((nI k) * (rC (tT t))) _) rfl rfl ?_ (Nat.zero_add _)
    refine g_lor d_X2_lay_61 ?_
    refine g_putL (w' := (mset (m, cw t) 105 (.inr (2, [.int (rR (tT t)), .int (rC (tT t)), .long (rO (tT t)), .long (rG (tT t)), .long (gD (qG (tG t))), .long (F ||| (jshl 1 ((nI k) * (rC (tT t))))), .long (gL (qG (tG t)))])))) d_X2_lay_62 p_X2_28 rfl rfl (mget_eq rfl) (Nat.le_of_ble_eq_true rfl) (mset_mset) ?_
    refine g_iinc (v := ((nI k) + 1)) (L' := [some (.ref 105), some (.ref 103), some (.int ((nI k) + 1))]) d_X2_lay_65 rfl rfl rfl ?_
    refine g_goto (tgt := 39) d_X2_lay_68 (by decide) ?_
    refine g_eq (S' := (39, [some (.ref 105), some (.ref 103), some (.int (nI (k + 1)))], [], (mset (m, cw t) 105 (.inr (2, [.int (rR (tT t)), .int (rC (tT t)), .long (rO (tT t)), .long (rG (tT t)), .long (gD (qG (tG t))), .long (F ||| (jshl 1 ((nI k) * (rC (tT t))))), .long (gL (qG (tG t)))]))))) (by first | rfl | (rw [nI_1]; rfl) | (simp only [nI_1]; rfl) | simp only [nI_1]) ?_
    exact ih (k + 1) _ (by omega)
theorem c_glay {E : mEnv} (hE : E.1.stackTraces = false) (m : List mE) (t : cT) (N : Nat) (hN : N < 2 ^ 31) (hr : rR (tT t) = nI N) : Rt E M_X2_lay 0 [.ref 105, .ref 103] ((m, cw t)) none ((m, cw (wG t (lyQ (tG t) (tT t) N)))) := by
  refine Rt.of hE rfl pn_X2 (Nat.le_of_ble_eq_true rfl) ?_
  refine g_eq (S' := (0, [some (.ref 105), some (.ref 103), none], [], (m, cw t))) rfl ?_
  refine g_aload_n d_X2_lay_0 rfl ?_
  refine g_aload_n d_X2_lay_1 rfl ?_
  refine g_getf d_X2_lay_2 f_X2_34 rfl rfl ?_
  refine g_putI (w' := (mset (m, cw t) 105 (.inr (2, [.int (rR (tT t)), .int (gC (qG (tG t))), .long (gO (qG (tG t))), .long (gG (qG (tG t))), .long (gD (qG (tG t))), .long (gF (qG (tG t))), .long (gL (qG (tG t)))])))) d_X2_lay_5 p_X2_9 rfl rfl rfl (Nat.le_of_ble_eq_true rfl) (rfl) ?_
  refine g_aload_n d_X2_lay_8 rfl ?_
  refine g_aload_n d_X2_lay_9 rfl ?_
  refine g_getf d_X2_lay_10 f_X2_37 ((mget_ne (by decide)).trans rfl) rfl ?_
  refine g_putI (w' := (mset (m, cw t) 105 (.inr (2, [.int (rR (tT t)), .int (rC (tT t)), .long (gO (qG (tG t))), .long (gG (qG (tG t))), .long (gD (qG (tG t))), .long (gF (qG (tG t))), .long (gL (qG (tG t)))])))) d_X2_lay_13 p_X2_15 rfl rfl (mget_eq rfl) (Nat.le_of_ble_eq_true rfl) (mset_mset) ?_
  refine g_aload_n d_X2_lay_16 rfl ?_
  refine g_aload_n d_X2_lay_17 rfl ?_
  refine g_getf d_X2_lay_18 f_X2_38 ((mget_ne (by decide)).trans rfl) rfl ?_
  refine g_putL (w' := (mset (m, cw t) 105 (.inr (2, [.int (rR (tT t)), .int (rC (tT t)), .long (rO (tT t)), .long (gG (qG (tG t))), .long (gD (qG (tG t))), .long (gF (qG (tG t))), .long (gL (qG (tG t)))])))) d_X2_lay_21 p_X2_18 rfl rfl (mget_eq rfl) (Nat.le_of_ble_eq_true rfl) (mset_mset) ?_
  refine g_aload_n d_X2_lay_24 rfl ?_
  refine g_aload_n d_X2_lay_25 rfl ?_
  refine g_getf d_X2_lay_26 f_X2_39 ((mget_ne (by decide)).trans rfl) rfl ?_
  refine g_putL (w' := (mset (m, cw t) 105 (.inr (2, [.int (rR (tT t)), .int (rC (tT t)), .long (rO (tT t)), .long (rG (tT t)), .long (gD (qG (tG t))), .long (gF (qG (tG t))), .long (gL (qG (tG t)))])))) d_X2_lay_29 p_X2_22 rfl rfl (mget_eq rfl) (Nat.le_of_ble_eq_true rfl) (mset_mset) ?_
  refine g_aload_n d_X2_lay_32 rfl ?_
  refine g_lconst (v := 0) d_X2_lay_33 (by decide) ?_
  refine g_putL (w' := (mset (m, cw t) 105 (.inr (2, [.int (rR (tT t)), .int (rC (tT t)), .long (rO (tT t)), .long (rG (tT t)), .long (gD (qG (tG t))), .long 0, .long (gL (qG (tG t)))])))) d_X2_lay_34 p_X2_28 rfl rfl (mget_eq rfl) (Nat.le_of_ble_eq_true rfl) (mset_mset) ?_
  refine g_iconst (v := 0) d_X2_lay_37 (by decide) ?_
  refine g_istore_n (L' := [some (.ref 105), some (.ref 103), some (.int 0)]) d_X2_lay_38 rfl rfl ?_
  refine g_eq (S' := (39, [some (.ref 105), some (.ref 103), some (.int (nI 0))], [], (mset (m, cw t) 105 (.inr (2, [.int (rR (tT t)), .int (rC (tT t)), .long (rO (tT t)), .long (rG (tT t)), .long (gD (qG (tG t))), .long 0, .long (gL (qG (tG t)))]))))) (by first | rfl | (rw [nI_1]; rfl) | (simp only [nI_1]; rfl) | simp only [nI_1]) ?_
  refine Go.trans0 (l_glay hE m t N hN hr N 0 0 (by omega)) ?_
  refine g_eq (S' := (71, [some (.ref 105), some (.ref 103), none], [], (mset (m, cw t) 105 (.inr (2, [.int (rR (tT t)), .int (rC (tT t)), .long (rO (tT t)), .long (rG (tT t)), .long (gD (qG (tG t))), .long (lyL (rC (tT t)) N 0 0), .long (gL (qG (tG t)))]))))) rfl ?_
  refine g_aload_n d_X2_lay_71 rfl ?_
  refine g_aload_n d_X2_lay_72 rfl ?_
  refine g_getf d_X2_lay_73 f_X2_28 (mget_eq rfl) rfl ?_
  refine g_aload_n d_X2_lay_76 rfl ?_
  refine g_getf d_X2_lay_77 f_X2_15 (mget_eq rfl) rfl ?_
  refine g_iconst (v := 1) d_X2_lay_80 (by decide) ?_
  refine g_isub d_X2_lay_81 ?_
  refine g_lshl (v := (jshl (lyL (rC (tT t)) N 0 0) ((rC (tT t)) - 1))) d_X2_lay_82 rfl ?_
  refine g_putL (w' := (mset (m, cw t) 105 (.inr (2, [.int (rR (tT t)), .int (rC (tT t)), .long (rO (tT t)), .long (rG (tT t)), .long (gD (qG (tG t))), .long (lyL (rC (tT t)) N 0 0), .long (jshl (lyL (rC (tT t)) N 0 0) ((rC (tT t)) - 1))])))) d_X2_lay_83 p_X2_31 rfl rfl (mget_eq rfl) (Nat.le_of_ble_eq_true rfl) (mset_mset) ?_
  refine g_eq (S' := (86, [some (.ref 105), some (.ref 103), none], [], (m, cw (wG t (lyQ0 (tG t) (tT t) N))))) rfl ?_
  refine g_aload_n d_X2_lay_86 rfl ?_
  refine g_aload_n d_X2_lay_87 rfl ?_
  refine g_getf d_X2_lay_88 f_X2_18 rfl rfl ?_
  refine g_aload_n d_X2_lay_91 rfl ?_
  refine g_aload_n d_X2_lay_92 rfl ?_
  refine g_getf d_X2_lay_93 f_X2_22 rfl rfl ?_
  refine g_callV (As := [.long (gG (qG (tG (wG t (lyQ0 (tG t) (tT t) N)))))]) d_X2_lay_96 o_X2_pulled l_X2_44 ⟨Nat.le_of_ble_eq_true rfl, Nat.le_of_ble_eq_true rfl⟩ (c_pulled hE 105 (ly0 (tT t) N (gD (qG (tG t)))) _ rfl (gG (qG (tG (wG t (lyQ0 (tG t) (tT t) N)))))) rfl rfl rfl rfl rfl rfl ?_ (Nat.zero_add _)
  refine g_ldc2 (v := (-1)) d_X2_lay_99 k_X2_48 ?_
  refine g_lxor d_X2_lay_102 ?_
  refine g_land d_X2_lay_103 ?_
  refine g_putL (w' := (mset (m, cw (wG t (lyQ0 (tG t) (tT t) N))) 105 (.inr (2, [.int (gR (qG (tG (wG t (lyQ0 (tG t) (tT t) N))))), .int (gC (qG (tG (wG t (lyQ0 (tG t) (tT t) N))))), .long (gO (qG (tG (wG t (lyQ0 (tG t) (tT t) N))))), .long (gG (qG (tG (wG t (lyQ0 (tG t) (tT t) N))))), .long ((gO (qG (tG (wG t (lyQ0 (tG t) (tT t) N))))) &&& ((gPl (ly0 (tT t) N (gD (qG (tG t)))) (gG (qG (tG (wG t (lyQ0 (tG t) (tT t) N)))))) ^^^ (-1))), .long (gF (qG (tG (wG t (lyQ0 (tG t) (tT t) N))))), .long (gL (qG (tG (wG t (lyQ0 (tG t) (tT t) N)))))])))) d_X2_lay_104 p_X2_25 rfl rfl rfl (Nat.le_of_ble_eq_true rfl) (rfl) ?_
  exact g_retV d_X2_lay_107 rfl (rfl)
def bgQ (q : GmT) (x : RtT) (N : Nat) : GmT := (lyG x N (gD (qG q)), (rB x, rP x), (rB x, rP x), qA q, qL q, qR q, 0)
theorem d_X0_begin_0 : decode (mB M_X0_begin) 0 = .ok (.aload_n 0, 1) := by decide +kernel
theorem d_X0_begin_1 : decode (mB M_X0_begin) 1 = .ok (.getfield 12, 3) := by decide +kernel
theorem d_X0_begin_4 : decode (mB M_X0_begin) 4 = .ok (.aload_n 1, 1) := by decide +kernel
theorem d_X0_begin_5 : decode (mB M_X0_begin) 5 = .ok (.invokevirtual 48, 3) := by decide +kernel
theorem d_X0_begin_8 : decode (mB M_X0_begin) 8 = .ok (.aload_n 0, 1) := by decide +kernel
theorem d_X0_begin_9 : decode (mB M_X0_begin) 9 = .ok (.getfield 27, 3) := by decide +kernel
theorem d_X0_begin_12 : decode (mB M_X0_begin) 12 = .ok (.aload_n 1, 1) := by decide +kernel
theorem d_X0_begin_13 : decode (mB M_X0_begin) 13 = .ok (.getfield 52, 3) := by decide +kernel
theorem d_X0_begin_16 : decode (mB M_X0_begin) 16 = .ok (.aload_n 1, 1) := by decide +kernel
theorem d_X0_begin_17 : decode (mB M_X0_begin) 17 = .ok (.getfield 58, 3) := by decide +kernel
theorem d_X0_begin_20 : decode (mB M_X0_begin) 20 = .ok (.invokevirtual 61, 3) := by decide +kernel
theorem d_X0_begin_23 : decode (mB M_X0_begin) 23 = .ok (.aload_n 0, 1) := by decide +kernel
theorem d_X0_begin_24 : decode (mB M_X0_begin) 24 = .ok (.aload_n 1, 1) := by decide +kernel
theorem d_X0_begin_25 : decode (mB M_X0_begin) 25 = .ok (.getfield 52, 3) := by decide +kernel
theorem d_X0_begin_28 : decode (mB M_X0_begin) 28 = .ok (.aload_n 1, 1) := by decide +kernel
theorem d_X0_begin_29 : decode (mB M_X0_begin) 29 = .ok (.getfield 58, 3) := by decide +kernel
theorem d_X0_begin_32 : decode (mB M_X0_begin) 32 = .ok (.iconst 0, 1) := by decide +kernel
theorem d_X0_begin_33 : decode (mB M_X0_begin) 33 = .ok (.invokevirtual 65, 3) := by decide +kernel
theorem d_X0_begin_36 : decode (mB M_X0_begin) 36 = .ok (.return_, 1) := by decide +kernel
theorem c_begin {E : mEnv} (hE : E.1.stackTraces = false) (m : List mE) (t : cT) (N : Nat) (hN : N < 2 ^ 31) (hr : rR (tT t) = nI N) : Rt E M_X0_begin 0 [.ref 104, .ref 103] ((m, cw t)) none ((m, cw (wG t (bgQ (tG t) (tT t) N)))) := by
  refine Rt.of hE rfl pn_X0 (Nat.le_of_ble_eq_true rfl) ?_
  refine g_eq (S' := (0, [some (.ref 104), some (.ref 103)], [], (m, cw t))) rfl ?_
  refine g_aload_n d_X0_begin_0 rfl ?_
  refine g_getf d_X0_begin_1 f_X0_12 rfl rfl ?_
  refine g_aload_n d_X0_begin_4 rfl ?_
  refine g_callV (As := [.ref 103]) d_X0_begin_5 o_X2_lay l_X0_48 ⟨Nat.le_of_ble_eq_true rfl, Nat.le_of_ble_eq_true rfl⟩ (c_glay hE m t N hN hr) rfl rfl rfl rfl rfl rfl ?_ (Nat.zero_add _)
  refine g_aload_n d_X0_begin_8 rfl ?_
  refine g_getf d_X0_begin_9 f_X0_27 rfl rfl ?_
  refine g_aload_n d_X0_begin_12 rfl ?_
  refine g_getf d_X0_begin_13 f_X0_52 rfl rfl ?_
  refine g_aload_n d_X0_begin_16 rfl ?_
  refine g_getf d_X0_begin_17 f_X0_58 rfl rfl ?_
  refine g_callV (As := [.long (rB (tT (wG t (lyQ (tG t) (tT t) N)))), .int (rP (tT (wG t (lyQ (tG t) (tT t) N))))]) d_X0_begin_20 o_X6_put l_X0_61 ⟨Nat.le_of_ble_eq_true rfl, Nat.le_of_ble_eq_true rfl⟩ (c_put hE 107 105 (qS (tG (wG t (lyQ (tG t) (tT t) N)))).1 (rB (tT (wG t (lyQ (tG t) (tT t) N)))) (qS (tG (wG t (lyQ (tG t) (tT t) N)))).2 (rP (tT (wG t (lyQ (tG t) (tT t) N)))) _ rfl) rfl rfl rfl rfl rfl rfl ?_ (Nat.zero_add _)
  refine g_eq (S' := (23, [some (.ref 104), some (.ref 103)], [], (m, cw (wG t (qG (lyQ (tG t) (tT t) N), qN (lyQ (tG t) (tT t) N), (rB (tT t), rP (tT t)), qA (lyQ (tG t) (tT t) N), qL (lyQ (tG t) (tT t) N), qR (lyQ (tG t) (tT t) N), qC (lyQ (tG t) (tT t) N)))))) rfl ?_
  refine g_aload_n d_X0_begin_23 rfl ?_
  refine g_aload_n d_X0_begin_24 rfl ?_
  refine g_getf d_X0_begin_25 f_X0_52 rfl rfl ?_
  refine g_aload_n d_X0_begin_28 rfl ?_
  refine g_getf d_X0_begin_29 f_X0_58 rfl rfl ?_
  refine g_iconst (v := 0) d_X0_begin_32 (by decide) ?_
  refine g_callV (As := [.long (rB (tT (wG t (qG (lyQ (tG t) (tT t) N), qN (lyQ (tG t) (tT t) N), (rB (tT t), rP (tT t)), qA (lyQ (tG t) (tT t) N), qL (lyQ (tG t) (tT t) N), qR (lyQ (tG t) (tT t) N), qC (lyQ (tG t) (tT t) N))))), .int (rP (tT (wG t (qG (lyQ (tG t) (tT t) N), qN (lyQ (tG t) (tT t) N), (rB (tT t), rP (tT t)), qA (lyQ (tG t) (tT t) N), qL (lyQ (tG t) (tT t) N), qR (lyQ (tG t) (tT t) N), qC (lyQ (tG t) (tT t) N))))), .int 0]) d_X0_begin_33 o_X0_returnTo l_X0_65 ⟨Nat.le_of_ble_eq_true rfl, Nat.le_of_ble_eq_true rfl⟩ (c_returnTo hE m (wG t (qG (lyQ (tG t) (tT t) N), qN (lyQ (tG t) (tT t) N), (rB (tT t), rP (tT t)), qA (lyQ (tG t) (tT t) N), qL (lyQ (tG t) (tT t) N), qR (lyQ (tG t) (tT t) N), qC (lyQ (tG t) (tT t) N))) (rB (tT (wG t (qG (lyQ (tG t) (tT t) N), qN (lyQ (tG t) (tT t) N), (rB (tT t), rP (tT t)), qA (lyQ (tG t) (tT t) N), qL (lyQ (tG t) (tT t) N), qR (lyQ (tG t) (tT t) N), qC (lyQ (tG t) (tT t) N))))) (rP (tT (wG t (qG (lyQ (tG t) (tT t) N), qN (lyQ (tG t) (tT t) N), (rB (tT t), rP (tT t)), qA (lyQ (tG t) (tT t) N), qL (lyQ (tG t) (tT t) N), qR (lyQ (tG t) (tT t) N), qC (lyQ (tG t) (tT t) N))))) 0) rfl rfl rfl rfl rfl rfl ?_ (Nat.zero_add _)
  exact g_retV d_X0_begin_36 rfl (rfl)
def cpL (f : Nat → Int32) : Nat → Nat → (Nat → Int32) → (Nat → Int32)
  | 0, _, h => h
  | n + 1, k, h => cpL f n (k + 1) (setIntF 400 h (nI k) (intAtF 400 f (nI k)))
def cpQ (q p : GmT) (N : Nat) : GmT := (qG p, qN p, qS p, qA q, qL q, cpL (qR p) N 0 (qR q), qC p)
def cpQ0 (q p : GmT) (h : Nat → Int32) : GmT := (qG p, qN p, qS p, qA q, qL q, h, qC p)
theorem c_returnToS {E : mEnv} (hE : E.1.stackTraces = false) (m : List mE) (t : cT) (b : Int64) (a c : Int32) : Rt E M_X0_returnTo 0 [.ref 112, .long b, .int a, .int c] ((m, cw t)) none ((m, cw (wS t (retQ (tS t) b a c)))) := by
  refine Rt.of hE rfl pn_X0 (Nat.le_of_ble_eq_true rfl) ?_
  refine g_eq (S' := (0, [some (.ref 112), some (.long b), none, some (.int a), some (.int c)], [], (m, cw t))) rfl ?_
  refine g_aload_n d_X0_returnTo_0 rfl ?_
  refine g_getf d_X0_returnTo_1 f_X0_23 rfl rfl ?_
  refine g_lload_n d_X0_returnTo_4 rfl ?_
  refine g_iload_n d_X0_returnTo_5 rfl ?_
  refine g_callV (As := [.long b, .int a]) d_X0_returnTo_6 o_X6_put l_X0_61 ⟨Nat.le_of_ble_eq_true rfl, Nat.le_of_ble_eq_true rfl⟩ (c_put hE 114 113 (qN (tS t)).1 b (qN (tS t)).2 a _ rfl) rfl rfl rfl rfl rfl rfl ?_ (Nat.zero_add _)
  refine g_aload_n d_X0_returnTo_9 rfl ?_
  refine g_iload d_X0_returnTo_10 rfl ?_
  refine g_putI (w' := (mset (mset (m, cw t) 114 (.inr (6, [.ref 113, .long b, .int a]))) 112 (.inr (0, [.ref 113, .ref 114, .ref 115, .ref 116, .ref 117, .ref 119, .int c])))) d_X0_returnTo_12 p_X0_44 rfl rfl ((mget_ne (by decide)).trans rfl) (Nat.le_of_ble_eq_true rfl) (rfl) ?_
  exact g_retV d_X0_returnTo_15 rfl (rfl)
theorem d_X0_copy_0 : decode (mB M_X0_copy) 0 = .ok (.aload_n 0, 1) := by decide +kernel
theorem d_X0_copy_1 : decode (mB M_X0_copy) 1 = .ok (.getfield 12, 3) := by decide +kernel
theorem d_X0_copy_4 : decode (mB M_X0_copy) 4 = .ok (.aload_n 1, 1) := by decide +kernel
theorem d_X0_copy_5 : decode (mB M_X0_copy) 5 = .ok (.getfield 12, 3) := by decide +kernel
theorem d_X0_copy_8 : decode (mB M_X0_copy) 8 = .ok (.invokevirtual 69, 3) := by decide +kernel
theorem d_X0_copy_11 : decode (mB M_X0_copy) 11 = .ok (.aload_n 0, 1) := by decide +kernel
theorem d_X0_copy_12 : decode (mB M_X0_copy) 12 = .ok (.getfield 27, 3) := by decide +kernel
theorem d_X0_copy_15 : decode (mB M_X0_copy) 15 = .ok (.aload_n 1, 1) := by decide +kernel
theorem d_X0_copy_16 : decode (mB M_X0_copy) 16 = .ok (.getfield 27, 3) := by decide +kernel
theorem d_X0_copy_19 : decode (mB M_X0_copy) 19 = .ok (.getfield 72, 3) := by decide +kernel
theorem d_X0_copy_22 : decode (mB M_X0_copy) 22 = .ok (.aload_n 1, 1) := by decide +kernel
theorem d_X0_copy_23 : decode (mB M_X0_copy) 23 = .ok (.getfield 27, 3) := by decide +kernel
theorem d_X0_copy_26 : decode (mB M_X0_copy) 26 = .ok (.getfield 73, 3) := by decide +kernel
theorem d_X0_copy_29 : decode (mB M_X0_copy) 29 = .ok (.invokevirtual 61, 3) := by decide +kernel
theorem d_X0_copy_32 : decode (mB M_X0_copy) 32 = .ok (.aload_n 0, 1) := by decide +kernel
theorem d_X0_copy_33 : decode (mB M_X0_copy) 33 = .ok (.aload_n 1, 1) := by decide +kernel
theorem d_X0_copy_34 : decode (mB M_X0_copy) 34 = .ok (.getfield 23, 3) := by decide +kernel
theorem d_X0_copy_37 : decode (mB M_X0_copy) 37 = .ok (.getfield 72, 3) := by decide +kernel
theorem d_X0_copy_40 : decode (mB M_X0_copy) 40 = .ok (.aload_n 1, 1) := by decide +kernel
theorem d_X0_copy_41 : decode (mB M_X0_copy) 41 = .ok (.getfield 23, 3) := by decide +kernel
theorem d_X0_copy_44 : decode (mB M_X0_copy) 44 = .ok (.getfield 73, 3) := by decide +kernel
theorem d_X0_copy_47 : decode (mB M_X0_copy) 47 = .ok (.aload_n 1, 1) := by decide +kernel
theorem d_X0_copy_48 : decode (mB M_X0_copy) 48 = .ok (.getfield 44, 3) := by decide +kernel
theorem d_X0_copy_51 : decode (mB M_X0_copy) 51 = .ok (.invokevirtual 65, 3) := by decide +kernel
theorem d_X0_copy_54 : decode (mB M_X0_copy) 54 = .ok (.iconst 0, 1) := by decide +kernel
theorem d_X0_copy_55 : decode (mB M_X0_copy) 55 = .ok (.istore_n 2, 1) := by decide +kernel
theorem d_X0_copy_56 : decode (mB M_X0_copy) 56 = .ok (.iload_n 2, 1) := by decide +kernel
theorem d_X0_copy_57 : decode (mB M_X0_copy) 57 = .ok (.aload_n 0, 1) := by decide +kernel
theorem d_X0_copy_58 : decode (mB M_X0_copy) 58 = .ok (.getfield 44, 3) := by decide +kernel
theorem d_X0_copy_61 : decode (mB M_X0_copy) 61 = .ok (.if_icmp .ge 25, 3) := by decide +kernel
theorem d_X0_copy_64 : decode (mB M_X0_copy) 64 = .ok (.aload_n 0, 1) := by decide +kernel
theorem d_X0_copy_65 : decode (mB M_X0_copy) 65 = .ok (.getfield 40, 3) := by decide +kernel
theorem d_X0_copy_68 : decode (mB M_X0_copy) 68 = .ok (.iload_n 2, 1) := by decide +kernel
theorem d_X0_copy_69 : decode (mB M_X0_copy) 69 = .ok (.aload_n 1, 1) := by decide +kernel
theorem d_X0_copy_70 : decode (mB M_X0_copy) 70 = .ok (.getfield 40, 3) := by decide +kernel
theorem d_X0_copy_73 : decode (mB M_X0_copy) 73 = .ok (.iload_n 2, 1) := by decide +kernel
theorem d_X0_copy_74 : decode (mB M_X0_copy) 74 = .ok (.invokestatic 74, 3) := by decide +kernel
theorem d_X0_copy_77 : decode (mB M_X0_copy) 77 = .ok (.invokestatic 78, 3) := by decide +kernel
theorem d_X0_copy_80 : decode (mB M_X0_copy) 80 = .ok (.iinc 2 1, 3) := by decide +kernel
theorem d_X0_copy_83 : decode (mB M_X0_copy) 83 = .ok (.goto (-27), 3) := by decide +kernel
theorem d_X0_copy_86 : decode (mB M_X0_copy) 86 = .ok (.return_, 1) := by decide +kernel
theorem l_copySave {E : mEnv} (hE : E.1.stackTraces = false) (m : List mE) (t : cT) (N : Nat) (hN : N < 2 ^ 31) (hr : qC (tG t) = nI N) : ∀ (n : Nat) (k : Nat) (h : Nat → Int32), k + n = N → Go E M_X0_copy 0 (56, [some (.ref 112), some (.ref 104), some (.int (nI k))], [], (m, cw (wS t (cpQ0 (tS t) (tG t) h)))) (.inr (.inl (none, (m, cw (wS t (cpQ0 (tS t) (tG t) (cpL (qR (tG t)) n k h))))))) := by
  intro n
  induction n with
  | zero =>
    intro k h hk
    obtain rfl : k = N := by omega
    refine g_iload_n d_X0_copy_56 rfl ?_
    refine g_aload_n d_X0_copy_57 rfl ?_
    refine g_getf d_X0_copy_58 f_X0_44 rfl rfl ?_
    refine g_icmp_ge (tgt := 86) d_X0_copy_61 (by decide) (fun c_61 => ?_) (fun c_61 => absurd c_61 (absurd (show qC (tG t) ≤ nI k by rw [hr]; exact nI_le (Nat.le_refl k) hN) c_61))
    exact g_retV d_X0_copy_86 rfl (rfl)
  | succ n ih =>
    intro k h hk
    refine g_iload_n d_X0_copy_56 rfl ?_
    refine g_aload_n d_X0_copy_57 rfl ?_
    refine g_getf d_X0_copy_58 f_X0_44 rfl rfl ?_
    refine g_icmp_ge (tgt := 86) d_X0_copy_61 (by decide) (fun c_61 => absurd c_61 (show ¬ qC (tG t) ≤ nI k by rw [hr]; exact nI_ge (a := k) (b := N) (by omega) hN)) (fun c_61 => ?_)
    refine g_aload_n d_X0_copy_64 rfl ?_
    refine g_getf d_X0_copy_65 f_X0_40 rfl rfl ?_
    refine g_iload_n d_X0_copy_68 rfl ?_
    refine g_aload_n d_X0_copy_69 rfl ?_
    refine g_getf d_X0_copy_70 f_X0_40 rfl rfl ?_
    refine g_iload_n d_X0_copy_73 rfl ?_
    refine g_callN (As := [.ref 111, .int (nI k)]) d_X0_copy_74 o_X11_intAt n_X0_74 ⟨Nat.le_of_ble_eq_true rfl, Nat.le_of_ble_eq_true rfl⟩ (c_intAt hE 111 400 (qR (tG (wS t (cpQ0 (tS t) (tG t) h)))) (nI k) _ (by decide) rfl) rfl rfl ?_ (Nat.zero_add _)
    refine g_callN (As := [.ref 119, .int (nI k), .int (intAtF 400 (qR (tG (wS t (cpQ0 (tS t) (tG t) h)))) (nI k))]) d_X0_copy_77 o_X11_setInt n_X0_78 ⟨Nat.le_of_ble_eq_true rfl, Nat.le_of_ble_eq_true rfl⟩ (c_setInt hE 119 400 (qR (tS (wS t (cpQ0 (tS t) (tG t) h)))) (nI k) (intAtF 400 (qR (tG (wS t (cpQ0 (tS t) (tG t) h)))) (nI k)) _ (by decide) rfl) rfl rfl ?_ (Nat.zero_add _)
    refine g_iinc (v := ((nI k) + 1)) (L' := [some (.ref 112), some (.ref 104), some (.int ((nI k) + 1))]) d_X0_copy_80 rfl rfl rfl ?_
    refine g_goto (tgt := 56) d_X0_copy_83 (by decide) ?_
    refine g_eq (S' := (56, [some (.ref 112), some (.ref 104), some (.int (nI (k + 1)))], [], (m, cw (wS t (cpQ0 (tS t) (tG t) (setIntF 400 h (nI k) (intAtF 400 (qR (tG t)) (nI k)))))))) (by rw [← nI_1]; rfl) ?_
    exact ih (k + 1) _ (by omega)
theorem c_copySave {E : mEnv} (hE : E.1.stackTraces = false) (m : List mE) (t : cT) (N : Nat) (hN : N < 2 ^ 31) (hr : qC (tG t) = nI N) : Rt E M_X0_copy 0 [.ref 112, .ref 104] ((m, cw t)) none ((m, cw (wS t (cpQ (tS t) (tG t) N)))) := by
  refine Rt.of hE rfl pn_X0 (Nat.le_of_ble_eq_true rfl) ?_
  refine g_eq (S' := (0, [some (.ref 112), some (.ref 104), none], [], (m, cw t))) rfl ?_
  refine g_aload_n d_X0_copy_0 rfl ?_
  refine g_getf d_X0_copy_1 f_X0_12 rfl rfl ?_
  refine g_aload_n d_X0_copy_4 rfl ?_
  refine g_getf d_X0_copy_5 f_X0_12 rfl rfl ?_
  refine g_callV (As := [.ref 105]) d_X0_copy_8 o_X2_copy l_X0_69 ⟨Nat.le_of_ble_eq_true rfl, Nat.le_of_ble_eq_true rfl⟩ (c_gcopy hE 113 105 (qG (tS t)) (qG (tG t)) _ rfl rfl (by decide)) rfl rfl rfl rfl rfl rfl ?_ (Nat.zero_add _)
  refine g_aload_n d_X0_copy_11 rfl ?_
  refine g_getf d_X0_copy_12 f_X0_27 ((mget_ne (by decide)).trans rfl) rfl ?_
  refine g_aload_n d_X0_copy_15 rfl ?_
  refine g_getf d_X0_copy_16 f_X0_27 ((mget_ne (by decide)).trans rfl) rfl ?_
  refine g_getf d_X0_copy_19 f_X0_72 ((mget_ne (by decide)).trans rfl) rfl ?_
  refine g_aload_n d_X0_copy_22 rfl ?_
  refine g_getf d_X0_copy_23 f_X0_27 ((mget_ne (by decide)).trans rfl) rfl ?_
  refine g_getf d_X0_copy_26 f_X0_73 ((mget_ne (by decide)).trans rfl) rfl ?_
  refine g_callV (As := [.long ((qS (tG t)).1), .int ((qS (tG t)).2)]) d_X0_copy_29 o_X6_put l_X0_61 ⟨Nat.le_of_ble_eq_true rfl, Nat.le_of_ble_eq_true rfl⟩ (c_put hE 115 113 (qS (tS t)).1 ((qS (tG t)).1) (qS (tS t)).2 ((qS (tG t)).2) _ ((mget_ne (by decide)).trans rfl)) ((mget_ne (by decide)).trans rfl) rfl rfl rfl rfl rfl ?_ (Nat.zero_add _)
  refine g_eq (S' := (32, [some (.ref 112), some (.ref 104), none], [], (m, cw (wS t (qG (tG t), qN (tS t), qS (tG t), qA (tS t), qL (tS t), qR (tS t), qC (tS t)))))) rfl ?_
  refine g_aload_n d_X0_copy_32 rfl ?_
  refine g_aload_n d_X0_copy_33 rfl ?_
  refine g_getf d_X0_copy_34 f_X0_23 rfl rfl ?_
  refine g_getf d_X0_copy_37 f_X0_72 rfl rfl ?_
  refine g_aload_n d_X0_copy_40 rfl ?_
  refine g_getf d_X0_copy_41 f_X0_23 rfl rfl ?_
  refine g_getf d_X0_copy_44 f_X0_73 rfl rfl ?_
  refine g_aload_n d_X0_copy_47 rfl ?_
  refine g_getf d_X0_copy_48 f_X0_44 rfl rfl ?_
  refine g_callV (As := [.long ((qN (tG (wS t (qG (tG t), qN (tS t), qS (tG t), qA (tS t), qL (tS t), qR (tS t), qC (tS t))))).1), .int ((qN (tG (wS t (qG (tG t), qN (tS t), qS (tG t), qA (tS t), qL (tS t), qR (tS t), qC (tS t))))).2), .int (qC (tG (wS t (qG (tG t), qN (tS t), qS (tG t), qA (tS t), qL (tS t), qR (tS t), qC (tS t)))))]) d_X0_copy_51 o_X0_returnTo l_X0_65 ⟨Nat.le_of_ble_eq_true rfl, Nat.le_of_ble_eq_true rfl⟩ (c_returnToS hE m (wS t (qG (tG t), qN (tS t), qS (tG t), qA (tS t), qL (tS t), qR (tS t), qC (tS t))) ((qN (tG (wS t (qG (tG t), qN (tS t), qS (tG t), qA (tS t), qL (tS t), qR (tS t), qC (tS t))))).1) ((qN (tG (wS t (qG (tG t), qN (tS t), qS (tG t), qA (tS t), qL (tS t), qR (tS t), qC (tS t))))).2) (qC (tG (wS t (qG (tG t), qN (tS t), qS (tG t), qA (tS t), qL (tS t), qR (tS t), qC (tS t)))))) rfl rfl rfl rfl rfl rfl ?_ (Nat.zero_add _)
  refine g_iconst (v := 0) d_X0_copy_54 (by decide) ?_
  refine g_istore_n (L' := [some (.ref 112), some (.ref 104), some (.int 0)]) d_X0_copy_55 rfl rfl ?_
  refine g_eq (S' := (56, [some (.ref 112), some (.ref 104), some (.int (nI 0))], [], (m, cw (wS t (cpQ0 (tS t) (tG t) (qR (tS t))))))) (rfl) ?_
  exact l_copySave hE m t N hN hr N 0 (qR (tS t)) (by omega)
theorem l_copyBack {E : mEnv} (hE : E.1.stackTraces = false) (m : List mE) (t : cT) (N : Nat) (hN : N < 2 ^ 31) (hr : qC (tS t) = nI N) : ∀ (n : Nat) (k : Nat) (h : Nat → Int32), k + n = N → Go E M_X0_copy 0 (56, [some (.ref 104), some (.ref 112), some (.int (nI k))], [], (m, cw (wG t (cpQ0 (tG t) (tS t) h)))) (.inr (.inl (none, (m, cw (wG t (cpQ0 (tG t) (tS t) (cpL (qR (tS t)) n k h))))))) := by
  intro n
  induction n with
  | zero =>
    intro k h hk
    obtain rfl : k = N := by omega
    refine g_iload_n d_X0_copy_56 rfl ?_
    refine g_aload_n d_X0_copy_57 rfl ?_
    refine g_getf d_X0_copy_58 f_X0_44 rfl rfl ?_
    refine g_icmp_ge (tgt := 86) d_X0_copy_61 (by decide) (fun c_61 => ?_) (fun c_61 => absurd c_61 (absurd (show qC (tS t) ≤ nI k by rw [hr]; exact nI_le (Nat.le_refl k) hN) c_61))
    exact g_retV d_X0_copy_86 rfl (rfl)
  | succ n ih =>
    intro k h hk
    refine g_iload_n d_X0_copy_56 rfl ?_
    refine g_aload_n d_X0_copy_57 rfl ?_
    refine g_getf d_X0_copy_58 f_X0_44 rfl rfl ?_
    refine g_icmp_ge (tgt := 86) d_X0_copy_61 (by decide) (fun c_61 => absurd c_61 (show ¬ qC (tS t) ≤ nI k by rw [hr]; exact nI_ge (a := k) (b := N) (by omega) hN)) (fun c_61 => ?_)
    refine g_aload_n d_X0_copy_64 rfl ?_
    refine g_getf d_X0_copy_65 f_X0_40 rfl rfl ?_
    refine g_iload_n d_X0_copy_68 rfl ?_
    refine g_aload_n d_X0_copy_69 rfl ?_
    refine g_getf d_X0_copy_70 f_X0_40 rfl rfl ?_
    refine g_iload_n d_X0_copy_73 rfl ?_
    refine g_callN (As := [.ref 119, .int (nI k)]) d_X0_copy_74 o_X11_intAt n_X0_74 ⟨Nat.le_of_ble_eq_true rfl, Nat.le_of_ble_eq_true rfl⟩ (c_intAt hE 119 400 (qR (tS (wG t (cpQ0 (tG t) (tS t) h)))) (nI k) _ (by decide) rfl) rfl rfl ?_ (Nat.zero_add _)
    refine g_callN (As := [.ref 111, .int (nI k), .int (intAtF 400 (qR (tS (wG t (cpQ0 (tG t) (tS t) h)))) (nI k))]) d_X0_copy_77 o_X11_setInt n_X0_78 ⟨Nat.le_of_ble_eq_true rfl, Nat.le_of_ble_eq_true rfl⟩ (c_setInt hE 111 400 (qR (tG (wG t (cpQ0 (tG t) (tS t) h)))) (nI k) (intAtF 400 (qR (tS (wG t (cpQ0 (tG t) (tS t) h)))) (nI k)) _ (by decide) rfl) rfl rfl ?_ (Nat.zero_add _)
    refine g_iinc (v := ((nI k) + 1)) (L' := [some (.ref 104), some (.ref 112), some (.int ((nI k) + 1))]) d_X0_copy_80 rfl rfl rfl ?_
    refine g_goto (tgt := 56) d_X0_copy_83 (by decide) ?_
    refine g_eq (S' := (56, [some (.ref 104), some (.ref 112), some (.int (nI (k + 1)))], [], (m, cw (wG t (cpQ0 (tG t) (tS t) (setIntF 400 h (nI k) (intAtF 400 (qR (tS t)) (nI k)))))))) (by rw [← nI_1]; rfl) ?_
    exact ih (k + 1) _ (by omega)
theorem c_copyBack {E : mEnv} (hE : E.1.stackTraces = false) (m : List mE) (t : cT) (N : Nat) (hN : N < 2 ^ 31) (hr : qC (tS t) = nI N) : Rt E M_X0_copy 0 [.ref 104, .ref 112] ((m, cw t)) none ((m, cw (wG t (cpQ (tG t) (tS t) N)))) := by
  refine Rt.of hE rfl pn_X0 (Nat.le_of_ble_eq_true rfl) ?_
  refine g_eq (S' := (0, [some (.ref 104), some (.ref 112), none], [], (m, cw t))) rfl ?_
  refine g_aload_n d_X0_copy_0 rfl ?_
  refine g_getf d_X0_copy_1 f_X0_12 rfl rfl ?_
  refine g_aload_n d_X0_copy_4 rfl ?_
  refine g_getf d_X0_copy_5 f_X0_12 rfl rfl ?_
  refine g_callV (As := [.ref 113]) d_X0_copy_8 o_X2_copy l_X0_69 ⟨Nat.le_of_ble_eq_true rfl, Nat.le_of_ble_eq_true rfl⟩ (c_gcopy hE 105 113 (qG (tG t)) (qG (tS t)) _ rfl rfl (by decide)) rfl rfl rfl rfl rfl rfl ?_ (Nat.zero_add _)
  refine g_aload_n d_X0_copy_11 rfl ?_
  refine g_getf d_X0_copy_12 f_X0_27 ((mget_ne (by decide)).trans rfl) rfl ?_
  refine g_aload_n d_X0_copy_15 rfl ?_
  refine g_getf d_X0_copy_16 f_X0_27 ((mget_ne (by decide)).trans rfl) rfl ?_
  refine g_getf d_X0_copy_19 f_X0_72 ((mget_ne (by decide)).trans rfl) rfl ?_
  refine g_aload_n d_X0_copy_22 rfl ?_
  refine g_getf d_X0_copy_23 f_X0_27 ((mget_ne (by decide)).trans rfl) rfl ?_
  refine g_getf d_X0_copy_26 f_X0_73 ((mget_ne (by decide)).trans rfl) rfl ?_
  refine g_callV (As := [.long ((qS (tS t)).1), .int ((qS (tS t)).2)]) d_X0_copy_29 o_X6_put l_X0_61 ⟨Nat.le_of_ble_eq_true rfl, Nat.le_of_ble_eq_true rfl⟩ (c_put hE 107 105 (qS (tG t)).1 ((qS (tS t)).1) (qS (tG t)).2 ((qS (tS t)).2) _ ((mget_ne (by decide)).trans rfl)) ((mget_ne (by decide)).trans rfl) rfl rfl rfl rfl rfl ?_ (Nat.zero_add _)
  refine g_eq (S' := (32, [some (.ref 104), some (.ref 112), none], [], (m, cw (wG t (qG (tS t), qN (tG t), qS (tS t), qA (tG t), qL (tG t), qR (tG t), qC (tG t)))))) rfl ?_
  refine g_aload_n d_X0_copy_32 rfl ?_
  refine g_aload_n d_X0_copy_33 rfl ?_
  refine g_getf d_X0_copy_34 f_X0_23 rfl rfl ?_
  refine g_getf d_X0_copy_37 f_X0_72 rfl rfl ?_
  refine g_aload_n d_X0_copy_40 rfl ?_
  refine g_getf d_X0_copy_41 f_X0_23 rfl rfl ?_
  refine g_getf d_X0_copy_44 f_X0_73 rfl rfl ?_
  refine g_aload_n d_X0_copy_47 rfl ?_
  refine g_getf d_X0_copy_48 f_X0_44 rfl rfl ?_
  refine g_callV (As := [.long ((qN (tS (wG t (qG (tS t), qN (tG t), qS (tS t), qA (tG t), qL (tG t), qR (tG t), qC (tG t))))).1), .int ((qN (tS (wG t (qG (tS t), qN (tG t), qS (tS t), qA (tG t), qL (tG t), qR (tG t), qC (tG t))))).2), .int (qC (tS (wG t (qG (tS t), qN (tG t), qS (tS t), qA (tG t), qL (tG t), qR (tG t), qC (tG t)))))]) d_X0_copy_51 o_X0_returnTo l_X0_65 ⟨Nat.le_of_ble_eq_true rfl, Nat.le_of_ble_eq_true rfl⟩ (c_returnTo hE m (wG t (qG (tS t), qN (tG t), qS (tS t), qA (tG t), qL (tG t), qR (tG t), qC (tG t))) ((qN (tS (wG t (qG (tS t), qN (tG t), qS (tS t), qA (tG t), qL (tG t), qR (tG t), qC (tG t))))).1) ((qN (tS (wG t (qG (tS t), qN (tG t), qS (tS t), qA (tG t), qL (tG t), qR (tG t), qC (tG t))))).2) (qC (tS (wG t (qG (tS t), qN (tG t), qS (tS t), qA (tG t), qL (tG t), qR (tG t), qC (tG t)))))) rfl rfl rfl rfl rfl rfl ?_ (Nat.zero_add _)
  refine g_iconst (v := 0) d_X0_copy_54 (by decide) ?_
  refine g_istore_n (L' := [some (.ref 104), some (.ref 112), some (.int 0)]) d_X0_copy_55 rfl rfl ?_
  refine g_eq (S' := (56, [some (.ref 104), some (.ref 112), some (.int (nI 0))], [], (m, cw (wG t (cpQ0 (tG t) (tS t) (qR (tG t))))))) (rfl) ?_
  exact l_copyBack hE m t N hN hr N 0 (qR (tG t)) (by omega)
def psL (f : Nat → Int32) : Nat → Nat → Int32 → Int32
  | 0, _, a => a
  | n + 1, k, a => psL f n (k + 1) (if 4 ≤ intAtF 400 f (nI k) then a + 1 else a)
theorem d_X0_pushes_0 : decode (mB M_X0_pushes) 0 = .ok (.iconst 0, 1) := by decide +kernel
theorem d_X0_pushes_1 : decode (mB M_X0_pushes) 1 = .ok (.istore_n 1, 1) := by decide +kernel
theorem d_X0_pushes_2 : decode (mB M_X0_pushes) 2 = .ok (.iconst 0, 1) := by decide +kernel
theorem d_X0_pushes_3 : decode (mB M_X0_pushes) 3 = .ok (.istore_n 2, 1) := by decide +kernel
theorem d_X0_pushes_4 : decode (mB M_X0_pushes) 4 = .ok (.iload_n 2, 1) := by decide +kernel
theorem d_X0_pushes_5 : decode (mB M_X0_pushes) 5 = .ok (.aload_n 0, 1) := by decide +kernel
theorem d_X0_pushes_6 : decode (mB M_X0_pushes) 6 = .ok (.getfield 44, 3) := by decide +kernel
theorem d_X0_pushes_9 : decode (mB M_X0_pushes) 9 = .ok (.if_icmp .ge 26, 3) := by decide +kernel
theorem d_X0_pushes_12 : decode (mB M_X0_pushes) 12 = .ok (.aload_n 0, 1) := by decide +kernel
theorem d_X0_pushes_13 : decode (mB M_X0_pushes) 13 = .ok (.getfield 40, 3) := by decide +kernel
theorem d_X0_pushes_16 : decode (mB M_X0_pushes) 16 = .ok (.iload_n 2, 1) := by decide +kernel
theorem d_X0_pushes_17 : decode (mB M_X0_pushes) 17 = .ok (.invokestatic 74, 3) := by decide +kernel
theorem d_X0_pushes_20 : decode (mB M_X0_pushes) 20 = .ok (.invokestatic 147, 3) := by decide +kernel
theorem d_X0_pushes_23 : decode (mB M_X0_pushes) 23 = .ok (.ifCond .eq 6, 3) := by decide +kernel
theorem d_X0_pushes_26 : decode (mB M_X0_pushes) 26 = .ok (.iinc 1 1, 3) := by decide +kernel
theorem d_X0_pushes_29 : decode (mB M_X0_pushes) 29 = .ok (.iinc 2 1, 3) := by decide +kernel
theorem d_X0_pushes_32 : decode (mB M_X0_pushes) 32 = .ok (.goto (-28), 3) := by decide +kernel
theorem d_X0_pushes_35 : decode (mB M_X0_pushes) 35 = .ok (.iload_n 1, 1) := by decide +kernel
theorem d_X0_pushes_36 : decode (mB M_X0_pushes) 36 = .ok (.ireturn, 1) := by decide +kernel
theorem l_pushes {E : mEnv} (hE : E.1.stackTraces = false) (m : List mE) (t : cT) (N : Nat) (hN : N < 2 ^ 31) (hr : qC (tG t) = nI N) : ∀ (n : Nat) (k : Nat) (a : Int32), k + n = N → Go E M_X0_pushes 0 (4, [some (.ref 104), some (.int a), some (.int (nI k))], [], (m, cw t)) (.inr (.inl (some (.int (psL (qR (tG t)) n k a)), (m, cw t)))) := by
  intro n
  induction n with
  | zero =>
    intro k a hk
    obtain rfl : k = N := by omega
    refine g_iload_n d_X0_pushes_4 rfl ?_
    refine g_aload_n d_X0_pushes_5 rfl ?_
    refine g_getf d_X0_pushes_6 f_X0_44 rfl rfl ?_
    refine g_icmp_ge (tgt := 35) d_X0_pushes_9 (by decide) (fun c_9 => ?_) (fun c_9 => absurd c_9 (absurd (by rw [hr]; exact nI_le (Nat.le_refl k) hN) c_9))
    refine g_iload_n d_X0_pushes_35 rfl ?_
    exact g_retI d_X0_pushes_36 rfl (rfl) (rfl)
  | succ n ih =>
    intro k a hk
    refine g_iload_n d_X0_pushes_4 rfl ?_
    refine g_aload_n d_X0_pushes_5 rfl ?_
    refine g_getf d_X0_pushes_6 f_X0_44 rfl rfl ?_
    refine g_icmp_ge (tgt := 35) d_X0_pushes_9 (by decide) (fun c_9 => absurd c_9 (by rw [hr]; exact nI_ge (a := k) (b := N) (by omega) hN)) (fun c_9 => ?_)
    refine g_aload_n d_X0_pushes_12 rfl ?_
    refine g_getf d_X0_pushes_13 f_X0_40 rfl rfl ?_
    refine g_iload_n d_X0_pushes_16 rfl ?_
    refine g_callN (As := [.ref 111, .int (nI k)]) d_X0_pushes_17 o_X11_intAt n_X0_74 ⟨Nat.le_of_ble_eq_true rfl, Nat.le_of_ble_eq_true rfl⟩ (c_intAt hE 111 400 (qR (tG t)) (nI k) _ (by decide) rfl) rfl rfl ?_ (Nat.zero_add _)
    refine g_callN (As := [.int (intAtF 400 (qR (tG t)) (nI k))]) d_X0_pushes_20 o_X11_isPushCode n_X0_147 ⟨Nat.le_of_ble_eq_true rfl, Nat.le_of_ble_eq_true rfl⟩ (c_isPushCode hE (intAtF 400 (qR (tG t)) (nI k)) _) rfl rfl ?_ (Nat.zero_add _)
    refine g_ifb_eq (tgt := 29) d_X0_pushes_23 (by decide) (fun c_23 => ?_) (fun c_23 => ?_)
    · refine g_iinc (v := ((nI k) + 1)) (L' := [some (.ref 104), some (.int a), some (.int ((nI k) + 1))]) d_X0_pushes_29 rfl rfl rfl ?_
      refine g_goto (tgt := 4) d_X0_pushes_32 (by decide) ?_
      refine g_eq (S' := (4, [some (.ref 104), some (.int a), some (.int (nI (k + 1)))], [], (m, cw t))) (by first | rfl | (rw [nI_1]; rfl) | (simp only [nI_1]; rfl) | simp only [nI_1]) ?_
      rw [show psL (qR (tG t)) (n + 1) k a = psL (qR (tG t)) n (k + 1) a by simp only [psL, eq_false (of_decide_eq_false c_23), ↓reduceIte]]
      exact ih (k + 1) _ (by omega)
    · refine g_iinc (v := (a + 1)) (L' := [some (.ref 104), some (.int (a + 1)), some (.int (nI k))]) d_X0_pushes_26 rfl rfl rfl ?_
      refine g_iinc (v := ((nI k) + 1)) (L' := [some (.ref 104), some (.int (a + 1)), some (.int ((nI k) + 1))]) d_X0_pushes_29 rfl rfl rfl ?_
      refine g_goto (tgt := 4) d_X0_pushes_32 (by decide) ?_
      refine g_eq (S' := (4, [some (.ref 104), some (.int (a + 1)), some (.int (nI (k + 1)))], [], (m, cw t))) (by first | rfl | (rw [nI_1]; rfl) | (simp only [nI_1]; rfl) | simp only [nI_1]) ?_
      rw [show psL (qR (tG t)) (n + 1) k a = psL (qR (tG t)) n (k + 1) (a + 1) by simp only [psL, eq_true (of_decide_eq_true c_23), ↓reduceIte]]
      exact ih (k + 1) _ (by omega)
theorem c_pushes {E : mEnv} (hE : E.1.stackTraces = false) (m : List mE) (t : cT) (N : Nat) (hN : N < 2 ^ 31) (hr : qC (tG t) = nI N) : Rt E M_X0_pushes 0 [.ref 104] ((m, cw t)) (some (.int (psL (qR (tG t)) N 0 0))) ((m, cw t)) := by
  refine Rt.of hE rfl pn_X0 (Nat.le_of_ble_eq_true rfl) ?_
  refine g_eq (S' := (0, [some (.ref 104), none, none], [], (m, cw t))) rfl ?_
  refine g_iconst (v := 0) d_X0_pushes_0 (by decide) ?_
  refine g_istore_n (L' := [some (.ref 104), some (.int 0), none]) d_X0_pushes_1 rfl rfl ?_
  refine g_iconst (v := 0) d_X0_pushes_2 (by decide) ?_
  refine g_istore_n (L' := [some (.ref 104), some (.int 0), some (.int 0)]) d_X0_pushes_3 rfl rfl ?_
  refine g_eq (S' := (4, [some (.ref 104), some (.int 0), some (.int (nI 0))], [], (m, cw t))) (rfl) ?_
  exact l_pushes hE m t N hN hr N 0 0 (by omega)
def coL : Nat → Nat → GmT → Bool × GmT
  | 0, _, q => (decide ((qA q).1 = (qN q).1) && decide ((qA q).2 = (qN q).2), q)
  | n + 1, k, q => if pLr (qG q) (qA q).1 (qA q).2 (intAtF 400 (qR q) (nI k) &&& 3) (decide (4 ≤ intAtF 400 (qR q) (nI k))) = 0 then coL n (k + 1) (qG q, qN q, qS q, (pMb (qG q) (qA q).1 (qA q).2 (intAtF 400 (qR q) (nI k) &&& 3), lowF (pAh (qG q) (qA q).2 (intAtF 400 (qR q) (nI k) &&& 3))), qL q, qR q, qC q) else (false, q)
theorem d_X0_comesOutAgain_0 : decode (mB M_X0_comesOutAgain) 0 = .ok (.aload_n 0, 1) := by decide +kernel
theorem d_X0_comesOutAgain_1 : decode (mB M_X0_comesOutAgain) 1 = .ok (.getfield 30, 3) := by decide +kernel
theorem d_X0_comesOutAgain_4 : decode (mB M_X0_comesOutAgain) 4 = .ok (.aload_n 0, 1) := by decide +kernel
theorem d_X0_comesOutAgain_5 : decode (mB M_X0_comesOutAgain) 5 = .ok (.getfield 27, 3) := by decide +kernel
theorem d_X0_comesOutAgain_8 : decode (mB M_X0_comesOutAgain) 8 = .ok (.getfield 72, 3) := by decide +kernel
theorem d_X0_comesOutAgain_11 : decode (mB M_X0_comesOutAgain) 11 = .ok (.aload_n 0, 1) := by decide +kernel
theorem d_X0_comesOutAgain_12 : decode (mB M_X0_comesOutAgain) 12 = .ok (.getfield 27, 3) := by decide +kernel
theorem d_X0_comesOutAgain_15 : decode (mB M_X0_comesOutAgain) 15 = .ok (.getfield 73, 3) := by decide +kernel
theorem d_X0_comesOutAgain_18 : decode (mB M_X0_comesOutAgain) 18 = .ok (.invokevirtual 61, 3) := by decide +kernel
theorem d_X0_comesOutAgain_21 : decode (mB M_X0_comesOutAgain) 21 = .ok (.iconst 0, 1) := by decide +kernel
theorem d_X0_comesOutAgain_22 : decode (mB M_X0_comesOutAgain) 22 = .ok (.istore_n 1, 1) := by decide +kernel
theorem d_X0_comesOutAgain_23 : decode (mB M_X0_comesOutAgain) 23 = .ok (.iload_n 1, 1) := by decide +kernel
theorem d_X0_comesOutAgain_24 : decode (mB M_X0_comesOutAgain) 24 = .ok (.aload_n 0, 1) := by decide +kernel
theorem d_X0_comesOutAgain_25 : decode (mB M_X0_comesOutAgain) 25 = .ok (.getfield 44, 3) := by decide +kernel
theorem d_X0_comesOutAgain_28 : decode (mB M_X0_comesOutAgain) 28 = .ok (.if_icmp .ge 50, 3) := by decide +kernel
theorem d_X0_comesOutAgain_31 : decode (mB M_X0_comesOutAgain) 31 = .ok (.aload_n 0, 1) := by decide +kernel
theorem d_X0_comesOutAgain_32 : decode (mB M_X0_comesOutAgain) 32 = .ok (.getfield 40, 3) := by decide +kernel
theorem d_X0_comesOutAgain_35 : decode (mB M_X0_comesOutAgain) 35 = .ok (.iload_n 1, 1) := by decide +kernel
theorem d_X0_comesOutAgain_36 : decode (mB M_X0_comesOutAgain) 36 = .ok (.invokestatic 74, 3) := by decide +kernel
theorem d_X0_comesOutAgain_39 : decode (mB M_X0_comesOutAgain) 39 = .ok (.istore_n 2, 1) := by decide +kernel
theorem d_X0_comesOutAgain_40 : decode (mB M_X0_comesOutAgain) 40 = .ok (.aload_n 0, 1) := by decide +kernel
theorem d_X0_comesOutAgain_41 : decode (mB M_X0_comesOutAgain) 41 = .ok (.getfield 30, 3) := by decide +kernel
theorem d_X0_comesOutAgain_44 : decode (mB M_X0_comesOutAgain) 44 = .ok (.iload_n 2, 1) := by decide +kernel
theorem d_X0_comesOutAgain_45 : decode (mB M_X0_comesOutAgain) 45 = .ok (.invokestatic 150, 3) := by decide +kernel
theorem d_X0_comesOutAgain_48 : decode (mB M_X0_comesOutAgain) 48 = .ok (.iload_n 2, 1) := by decide +kernel
theorem d_X0_comesOutAgain_49 : decode (mB M_X0_comesOutAgain) 49 = .ok (.invokestatic 147, 3) := by decide +kernel
theorem d_X0_comesOutAgain_52 : decode (mB M_X0_comesOutAgain) 52 = .ok (.invokevirtual 153, 3) := by decide +kernel
theorem d_X0_comesOutAgain_55 : decode (mB M_X0_comesOutAgain) 55 = .ok (.ifCond .eq 5, 3) := by decide +kernel
theorem d_X0_comesOutAgain_58 : decode (mB M_X0_comesOutAgain) 58 = .ok (.iconst 0, 1) := by decide +kernel
theorem d_X0_comesOutAgain_59 : decode (mB M_X0_comesOutAgain) 59 = .ok (.ireturn, 1) := by decide +kernel
theorem d_X0_comesOutAgain_60 : decode (mB M_X0_comesOutAgain) 60 = .ok (.aload_n 0, 1) := by decide +kernel
theorem d_X0_comesOutAgain_61 : decode (mB M_X0_comesOutAgain) 61 = .ok (.getfield 30, 3) := by decide +kernel
theorem d_X0_comesOutAgain_64 : decode (mB M_X0_comesOutAgain) 64 = .ok (.iload_n 2, 1) := by decide +kernel
theorem d_X0_comesOutAgain_65 : decode (mB M_X0_comesOutAgain) 65 = .ok (.invokestatic 150, 3) := by decide +kernel
theorem d_X0_comesOutAgain_68 : decode (mB M_X0_comesOutAgain) 68 = .ok (.invokevirtual 92, 3) := by decide +kernel
theorem d_X0_comesOutAgain_71 : decode (mB M_X0_comesOutAgain) 71 = .ok (.pop, 1) := by decide +kernel
theorem d_X0_comesOutAgain_72 : decode (mB M_X0_comesOutAgain) 72 = .ok (.iinc 1 1, 3) := by decide +kernel
theorem d_X0_comesOutAgain_75 : decode (mB M_X0_comesOutAgain) 75 = .ok (.goto (-52), 3) := by decide +kernel
theorem d_X0_comesOutAgain_78 : decode (mB M_X0_comesOutAgain) 78 = .ok (.aload_n 0, 1) := by decide +kernel
theorem d_X0_comesOutAgain_79 : decode (mB M_X0_comesOutAgain) 79 = .ok (.getfield 30, 3) := by decide +kernel
theorem d_X0_comesOutAgain_82 : decode (mB M_X0_comesOutAgain) 82 = .ok (.aload_n 0, 1) := by decide +kernel
theorem d_X0_comesOutAgain_83 : decode (mB M_X0_comesOutAgain) 83 = .ok (.getfield 23, 3) := by decide +kernel
theorem d_X0_comesOutAgain_86 : decode (mB M_X0_comesOutAgain) 86 = .ok (.invokevirtual 156, 3) := by decide +kernel
theorem d_X0_comesOutAgain_89 : decode (mB M_X0_comesOutAgain) 89 = .ok (.ireturn, 1) := by decide +kernel
theorem l_again {E : mEnv} (hE : E.1.stackTraces = false) (m : List mE) (N : Nat) (hN : N < 2 ^ 31) : ∀ (n : Nat) (k : Nat) (t : cT), qC (tG t) = nI N → k + n = N → Go E M_X0_comesOutAgain 0 (23, [some (.ref 104), some (.int (nI k)), none], [], (m, cw t)) (.inr (.inl (some (.int (bI (coL n k (tG t)).1)), (m, cw (wG t (coL n k (tG t)).2))))) := by
  intro n
  induction n with
  | zero =>
    intro k t hr hk
    obtain rfl : k = N := by omega
    refine g_iload_n d_X0_comesOutAgain_23 rfl ?_
    refine g_aload_n d_X0_comesOutAgain_24 rfl ?_
    refine g_getf d_X0_comesOutAgain_25 f_X0_44 rfl rfl ?_
    refine g_icmp_ge (tgt := 78) d_X0_comesOutAgain_28 (by decide) (fun c_28 => ?_) (fun c_28 => absurd c_28 (absurd (by rw [hr]; exact nI_le (Nat.le_refl k) hN) c_28))
    refine g_aload_n d_X0_comesOutAgain_78 rfl ?_
    refine g_getf d_X0_comesOutAgain_79 f_X0_30 rfl rfl ?_
    refine g_aload_n d_X0_comesOutAgain_82 rfl ?_
    refine g_getf d_X0_comesOutAgain_83 f_X0_23 rfl rfl ?_
    refine g_callV (As := [.ref 106]) d_X0_comesOutAgain_86 o_X6_isLike l_X0_156 ⟨Nat.le_of_ble_eq_true rfl, Nat.le_of_ble_eq_true rfl⟩ (c_isLike hE 108 106 105 105 (qA (tG t)).1 (qN (tG t)).1 (qA (tG t)).2 (qN (tG t)).2 _ rfl rfl) rfl rfl rfl rfl rfl rfl ?_ (Nat.zero_add _)
    exact g_retZ d_X0_comesOutAgain_89 rfl (bI_and _) (rfl) (rfl)
  | succ n ih =>
    intro k t hr hk
    refine g_iload_n d_X0_comesOutAgain_23 rfl ?_
    refine g_aload_n d_X0_comesOutAgain_24 rfl ?_
    refine g_getf d_X0_comesOutAgain_25 f_X0_44 rfl rfl ?_
    refine g_icmp_ge (tgt := 78) d_X0_comesOutAgain_28 (by decide) (fun c_28 => absurd c_28 (by rw [hr]; exact nI_ge (a := k) (b := N) (by omega) hN)) (fun c_28 => ?_)
    refine g_aload_n d_X0_comesOutAgain_31 rfl ?_
    refine g_getf d_X0_comesOutAgain_32 f_X0_40 rfl rfl ?_
    refine g_iload_n d_X0_comesOutAgain_35 rfl ?_
    refine g_callN (As := [.ref 111, .int (nI k)]) d_X0_comesOutAgain_36 o_X11_intAt n_X0_74 ⟨Nat.le_of_ble_eq_true rfl, Nat.le_of_ble_eq_true rfl⟩ (c_intAt hE 111 400 (qR (tG t)) (nI k) _ (by decide) rfl) rfl rfl ?_ (Nat.zero_add _)
    refine g_istore_n (L' := [some (.ref 104), some (.int (nI k)), some (.int (intAtF 400 (qR (tG t)) (nI k)))]) d_X0_comesOutAgain_39 rfl rfl ?_
    refine g_aload_n d_X0_comesOutAgain_40 rfl ?_
    refine g_getf d_X0_comesOutAgain_41 f_X0_30 rfl rfl ?_
    refine g_iload_n d_X0_comesOutAgain_44 rfl ?_
    refine g_callN (As := [.int (intAtF 400 (qR (tG t)) (nI k))]) d_X0_comesOutAgain_45 o_X11_directionOf n_X0_150 ⟨Nat.le_of_ble_eq_true rfl, Nat.le_of_ble_eq_true rfl⟩ (c_directionOf hE (intAtF 400 (qR (tG t)) (nI k)) _) rfl rfl ?_ (Nat.zero_add _)
    refine g_iload_n d_X0_comesOutAgain_48 rfl ?_
    refine g_callN (As := [.int (intAtF 400 (qR (tG t)) (nI k))]) d_X0_comesOutAgain_49 o_X11_isPushCode n_X0_147 ⟨Nat.le_of_ble_eq_true rfl, Nat.le_of_ble_eq_true rfl⟩ (c_isPushCode hE (intAtF 400 (qR (tG t)) (nI k)) _) rfl rfl ?_ (Nat.zero_add _)
    refine g_callV (As := [.int ((intAtF 400 (qR (tG t)) (nI k)) &&& 3), .int (bI (decide (4 ≤ (intAtF 400 (qR (tG t)) (nI k)))))]) d_X0_comesOutAgain_52 o_X6_letterReason l_X0_153 ⟨Nat.le_of_ble_eq_true rfl, Nat.le_of_ble_eq_true rfl⟩ (c_letterReason hE 108 105 (qG (tG t)) (qA (tG t)).1 (qA (tG t)).2 _ rfl rfl ((intAtF 400 (qR (tG t)) (nI k)) &&& 3) (decide (4 ≤ (intAtF 400 (qR (tG t)) (nI k))))) rfl rfl rfl rfl rfl rfl ?_ (Nat.zero_add _)
    refine g_if_eq (tgt := 60) d_X0_comesOutAgain_55 (by decide) (fun c_55 => ?_) (fun c_55 => ?_)
    · refine g_aload_n d_X0_comesOutAgain_60 rfl ?_
      refine g_getf d_X0_comesOutAgain_61 f_X0_30 rfl rfl ?_
      refine g_iload_n d_X0_comesOutAgain_64 rfl ?_
      refine g_callN (As := [.int (intAtF 400 (qR (tG t)) (nI k))]) d_X0_comesOutAgain_65 o_X11_directionOf n_X0_150 ⟨Nat.le_of_ble_eq_true rfl, Nat.le_of_ble_eq_true rfl⟩ (c_directionOf hE (intAtF 400 (qR (tG t)) (nI k)) _) rfl rfl ?_ (Nat.zero_add _)
      refine g_callV (As := [.int ((intAtF 400 (qR (tG t)) (nI k)) &&& 3)]) d_X0_comesOutAgain_68 o_X6_move l_X0_92 ⟨Nat.le_of_ble_eq_true rfl, Nat.le_of_ble_eq_true rfl⟩ (c_move hE 108 105 (qG (tG t)) (qA (tG t)).1 (qA (tG t)).2 _ rfl rfl ((intAtF 400 (qR (tG t)) (nI k)) &&& 3) (by decide)) rfl rfl rfl rfl rfl rfl ?_ (Nat.zero_add _)
      refine g_pop d_X0_comesOutAgain_71 rfl ?_
      refine g_iinc (v := ((nI k) + 1)) (L' := [some (.ref 104), some (.int ((nI k) + 1)), some (.int (intAtF 400 (qR (tG t)) (nI k)))]) d_X0_comesOutAgain_72 rfl rfl rfl ?_
      refine g_goto (tgt := 23) d_X0_comesOutAgain_75 (by decide) ?_
      refine g_drop [2] (L1 := [some (.ref 104), some (.int ((nI k) + 1)), none]) rfl ?_
      refine g_eq (S' := (23, [some (.ref 104), some (.int (nI (k + 1))), none], [], (m, cw (wG t (qG (tG t), qN (tG t), qS (tG t), (pMb (qG (tG t)) (qA (tG t)).1 (qA (tG t)).2 ((intAtF 400 (qR (tG t)) (nI k)) &&& 3), lowF (pAh (qG (tG t)) (qA (tG t)).2 ((intAtF 400 (qR (tG t)) (nI k)) &&& 3))), qL (tG t), qR (tG t), qC (tG t)))))) (by rw [← nI_1]; rfl) ?_
      rw [show coL (n + 1) k (tG t) = coL n (k + 1) (qG (tG t), qN (tG t), qS (tG t), (pMb (qG (tG t)) (qA (tG t)).1 (qA (tG t)).2 ((intAtF 400 (qR (tG t)) (nI k)) &&& 3), lowF (pAh (qG (tG t)) (qA (tG t)).2 ((intAtF 400 (qR (tG t)) (nI k)) &&& 3))), qL (tG t), qR (tG t), qC (tG t)) by simp only [coL, eq_true c_55, ↓reduceIte]]
      exact ih (k + 1) (wG t (qG (tG t), qN (tG t), qS (tG t), (pMb (qG (tG t)) (qA (tG t)).1 (qA (tG t)).2 ((intAtF 400 (qR (tG t)) (nI k)) &&& 3), lowF (pAh (qG (tG t)) (qA (tG t)).2 ((intAtF 400 (qR (tG t)) (nI k)) &&& 3))), qL (tG t), qR (tG t), qC (tG t))) hr (by omega)
    · refine g_iconst (v := 0) d_X0_comesOutAgain_58 (by decide) ?_
      exact g_retZ d_X0_comesOutAgain_59 rfl (by decide) (by simp only [coL, eq_false c_55, ↓reduceIte]; rfl) (by simp only [coL, eq_false c_55, ↓reduceIte]; rfl)
def coQ (q : GmT) (N : Nat) : Bool × GmT := coL N 0 (qG q, qN q, qS q, qS q, qL q, qR q, qC q)
theorem c_again {E : mEnv} (hE : E.1.stackTraces = false) (m : List mE) (t : cT) (N : Nat) (hN : N < 2 ^ 31) (hr : qC (tG t) = nI N) : Rt E M_X0_comesOutAgain 0 [.ref 104] ((m, cw t)) (some (.int (bI (coQ (tG t) N).1))) ((m, cw (wG t (coQ (tG t) N).2))) := by
  refine Rt.of hE rfl pn_X0 (Nat.le_of_ble_eq_true rfl) ?_
  refine g_eq (S' := (0, [some (.ref 104), none, none], [], (m, cw t))) rfl ?_
  refine g_aload_n d_X0_comesOutAgain_0 rfl ?_
  refine g_getf d_X0_comesOutAgain_1 f_X0_30 rfl rfl ?_
  refine g_aload_n d_X0_comesOutAgain_4 rfl ?_
  refine g_getf d_X0_comesOutAgain_5 f_X0_27 rfl rfl ?_
  refine g_getf d_X0_comesOutAgain_8 f_X0_72 rfl rfl ?_
  refine g_aload_n d_X0_comesOutAgain_11 rfl ?_
  refine g_getf d_X0_comesOutAgain_12 f_X0_27 rfl rfl ?_
  refine g_getf d_X0_comesOutAgain_15 f_X0_73 rfl rfl ?_
  refine g_callV (As := [.long ((qS (tG t)).1), .int ((qS (tG t)).2)]) d_X0_comesOutAgain_18 o_X6_put l_X0_61 ⟨Nat.le_of_ble_eq_true rfl, Nat.le_of_ble_eq_true rfl⟩ (c_put hE 108 105 (qA (tG t)).1 ((qS (tG t)).1) (qA (tG t)).2 ((qS (tG t)).2) _ rfl) rfl rfl rfl rfl rfl rfl ?_ (Nat.zero_add _)
  refine g_iconst (v := 0) d_X0_comesOutAgain_21 (by decide) ?_
  refine g_istore_n (L' := [some (.ref 104), some (.int 0), none]) d_X0_comesOutAgain_22 rfl rfl ?_
  refine g_eq (S' := (23, [some (.ref 104), some (.int (nI 0)), none], [], (m, cw (wG t (qG (tG t), qN (tG t), qS (tG t), qS (tG t), qL (tG t), qR (tG t), qC (tG t)))))) (rfl) ?_
  exact l_again hE m N hN N 0 (wG t (qG (tG t), qN (tG t), qS (tG t), qS (tG t), qL (tG t), qR (tG t), qC (tG t))) hr (by omega)
