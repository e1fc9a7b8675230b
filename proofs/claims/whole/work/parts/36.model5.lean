/-! the model, further -/
def f_refusal (t : xT) (a0 : Int32) : Option (Int32 × xT) :=
  Option.bind (if (rs t 6) = 0 then (some (1 : Int32))
    else (some (0 : Int32))) fun (r_5 : Int32) =>
  Option.bind (some (ws t 9 r_5)) fun t_13 =>
  Option.bind (if (rs t_13 9) ≤ 0 then (if a0 = 0 then (some (rs t_13 6))
      else (some (rs t_13 7)))
    else (some (0 : Int32))) fun (r_20 : Int32) =>
  some (r_20, t_13)
theorem d_X12_refusal_0 : decode (mB M_X12_refusal) 0 = .ok (.aload_n 0, 1) := by decide +kernel
theorem d_X12_refusal_1 : decode (mB M_X12_refusal) 1 = .ok (.aload_n 0, 1) := by decide +kernel
theorem d_X12_refusal_2 : decode (mB M_X12_refusal) 2 = .ok (.getfield 209, 3) := by decide +kernel
theorem d_X12_refusal_5 : decode (mB M_X12_refusal) 5 = .ok (.ifCond .ne 7, 3) := by decide +kernel
theorem d_X12_refusal_8 : decode (mB M_X12_refusal) 8 = .ok (.iconst 1, 1) := by decide +kernel
theorem d_X12_refusal_9 : decode (mB M_X12_refusal) 9 = .ok (.goto 4, 3) := by decide +kernel
theorem d_X12_refusal_12 : decode (mB M_X12_refusal) 12 = .ok (.iconst 0, 1) := by decide +kernel
theorem d_X12_refusal_13 : decode (mB M_X12_refusal) 13 = .ok (.putfield 73, 3) := by decide +kernel
theorem d_X12_refusal_16 : decode (mB M_X12_refusal) 16 = .ok (.aload_n 0, 1) := by decide +kernel
theorem d_X12_refusal_17 : decode (mB M_X12_refusal) 17 = .ok (.getfield 73, 3) := by decide +kernel
theorem d_X12_refusal_20 : decode (mB M_X12_refusal) 20 = .ok (.ifCond .le 7, 3) := by decide +kernel
theorem d_X12_refusal_23 : decode (mB M_X12_refusal) 23 = .ok (.iconst 0, 1) := by decide +kernel
theorem d_X12_refusal_24 : decode (mB M_X12_refusal) 24 = .ok (.goto 18, 3) := by decide +kernel
theorem d_X12_refusal_27 : decode (mB M_X12_refusal) 27 = .ok (.iload_n 1, 1) := by decide +kernel
theorem d_X12_refusal_28 : decode (mB M_X12_refusal) 28 = .ok (.ifCond .eq 10, 3) := by decide +kernel
theorem d_X12_refusal_31 : decode (mB M_X12_refusal) 31 = .ok (.aload_n 0, 1) := by decide +kernel
theorem d_X12_refusal_32 : decode (mB M_X12_refusal) 32 = .ok (.getfield 212, 3) := by decide +kernel
theorem d_X12_refusal_35 : decode (mB M_X12_refusal) 35 = .ok (.goto 7, 3) := by decide +kernel
theorem d_X12_refusal_38 : decode (mB M_X12_refusal) 38 = .ok (.aload_n 0, 1) := by decide +kernel
theorem d_X12_refusal_39 : decode (mB M_X12_refusal) 39 = .ok (.getfield 209, 3) := by decide +kernel
theorem d_X12_refusal_42 : decode (mB M_X12_refusal) 42 = .ok (.ireturn, 1) := by decide +kernel
theorem c_m_refusal {E : mEnv} (hE : E.1.stackTraces = false) (C : List mE) (t : xT) (a0 : Int32) (r : Int32 × xT) (h : f_refusal t a0 = some r) : Rt E M_X12_refusal 0 [.ref 0, .int a0] (mw t, C) (some (.int r.1)) (mw r.2, C) := by
  unfold f_refusal at h
  refine Rt.of hE rfl pn_X12 (Nat.le_of_ble_eq_true rfl) ?_
  refine g_eq (S' := (0, [some (.ref 0), some (.int a0)], [], (mw t, C))) rfl ?_
  refine g_aload_n d_X12_refusal_0 rfl ?_
  refine g_aload_n d_X12_refusal_1 rfl ?_
  refine g_getf d_X12_refusal_2 f_X12_209 (gm0 t C) rfl ?_
  obtain ⟨r_5, h_5, hh_5⟩ := obind h
  refine Go.trans0 (S1 := (13, [some (.ref 0), some (.int a0)], [.int r_5, .ref 0], (mw t, C))) ?_ ?_
  · replace h := h_5
    clear hh_5
    refine g_if_ne (tgt := 12) d_X12_refusal_5 (by decide) (fun c_5 => ?_) (fun c_5 => ?_)
    · replace h := oneg c_5 h
      refine g_iconst (v := 0) d_X12_refusal_12 (by decide) ?_
      obtain rfl := osome h
      exact g_end rfl
    · replace h := opos c_5 h
      refine g_iconst (v := 1) d_X12_refusal_8 (by decide) ?_
      refine g_goto (tgt := 13) d_X12_refusal_9 (by decide) ?_
      obtain rfl := osome h
      exact g_end rfl
  replace h := hh_5
  obtain ⟨t_13, e_13, h⟩ := olet h
  refine g_putI (w' := (mw t_13, C)) d_X12_refusal_13 p_X12_73 rfl rfl (gm0 t C) (Nat.le_of_ble_eq_true rfl) (by rw [e_13]; exact sc_9 t C _) ?_
  refine g_aload_n d_X12_refusal_16 rfl ?_
  refine g_getf d_X12_refusal_17 f_X12_73 (gm0 t_13 C) rfl ?_
  obtain ⟨r_20, h_20, hh_20⟩ := obind h
  refine Go.trans0 (S1 := (42, [none, none], [.int r_20], (mw t_13, C))) ?_ ?_
  · replace h := h_20
    clear hh_20
    refine g_if_le (tgt := 27) d_X12_refusal_20 (by decide) (fun c_20 => ?_) (fun c_20 => ?_)
    · replace h := opos c_20 h
      refine g_iload_n d_X12_refusal_27 rfl ?_
      refine g_if_eq (tgt := 38) d_X12_refusal_28 (by decide) (fun c_28 => ?_) (fun c_28 => ?_)
      · replace h := opos c_28 h
        refine g_aload_n d_X12_refusal_38 rfl ?_
        refine g_getf d_X12_refusal_39 f_X12_209 (gm0 t_13 C) rfl ?_
        obtain rfl := osome h
        exact g_drop [0, 1] rfl (g_end rfl)
      · replace h := oneg c_28 h
        refine g_aload_n d_X12_refusal_31 rfl ?_
        refine g_getf d_X12_refusal_32 f_X12_212 (gm0 t_13 C) rfl ?_
        refine g_goto (tgt := 42) d_X12_refusal_35 (by decide) ?_
        obtain rfl := osome h
        exact g_drop [0, 1] rfl (g_end rfl)
    · replace h := oneg c_20 h
      refine g_iconst (v := 0) d_X12_refusal_23 (by decide) ?_
      refine g_goto (tgt := 42) d_X12_refusal_24 (by decide) ?_
      obtain rfl := osome h
      exact g_drop [0, 1] rfl (g_end rfl)
  replace h := hh_20
  obtain rfl := osome h
  exact g_retI d_X12_refusal_42 rfl rfl rfl
def f_boxSet_L (N : Nat) : Nat → Int64 → Int32 → xT → Option (Int64)
  | 0, _, _, _ => none
  | n + 1, v1, v3, t =>
    if (f_size t) ≤ v3 then (some v1)
    else (Option.bind (f_isBox t v3) fun r_15 =>
      Option.bind (if r_15 = 0 then (some (0 : Int64))
        else (some (jshl 1 v3))) fun (r_18 : Int64) =>
      f_boxSet_L N n (v1 ||| r_18) (v3 + 1) t)
theorem u_boxSet_4 (N n : Nat) (v1 : Int64) (v3 : Int32) (t : xT) : f_boxSet_L N (n + 1) v1 v3 t = (if (f_size t) ≤ v3 then (some v1)
    else (Option.bind (f_isBox t v3) fun r_15 =>
      Option.bind (if r_15 = 0 then (some (0 : Int64))
        else (some (jshl 1 v3))) fun (r_18 : Int64) =>
      f_boxSet_L N n (v1 ||| r_18) (v3 + 1) t)) := rfl
def f_boxSet (N : Nat) (t : xT)  : Option (Int64) :=
  f_boxSet_L N N 0 0 t
theorem d_X12_boxSet_0 : decode (mB M_X12_boxSet) 0 = .ok (.lconst 0, 1) := by decide +kernel
theorem d_X12_boxSet_1 : decode (mB M_X12_boxSet) 1 = .ok (.lstore_n 1, 1) := by decide +kernel
theorem d_X12_boxSet_2 : decode (mB M_X12_boxSet) 2 = .ok (.iconst 0, 1) := by decide +kernel
theorem d_X12_boxSet_3 : decode (mB M_X12_boxSet) 3 = .ok (.istore_n 3, 1) := by decide +kernel
theorem d_X12_boxSet_4 : decode (mB M_X12_boxSet) 4 = .ok (.iload_n 3, 1) := by decide +kernel
theorem d_X12_boxSet_5 : decode (mB M_X12_boxSet) 5 = .ok (.aload_n 0, 1) := by decide +kernel
theorem d_X12_boxSet_6 : decode (mB M_X12_boxSet) 6 = .ok (.invokevirtual 130, 3) := by decide +kernel
theorem d_X12_boxSet_9 : decode (mB M_X12_boxSet) 9 = .ok (.if_icmp .ge 27, 3) := by decide +kernel
theorem d_X12_boxSet_12 : decode (mB M_X12_boxSet) 12 = .ok (.lload_n 1, 1) := by decide +kernel
theorem d_X12_boxSet_13 : decode (mB M_X12_boxSet) 13 = .ok (.aload_n 0, 1) := by decide +kernel
theorem d_X12_boxSet_14 : decode (mB M_X12_boxSet) 14 = .ok (.iload_n 3, 1) := by decide +kernel
theorem d_X12_boxSet_15 : decode (mB M_X12_boxSet) 15 = .ok (.invokevirtual 124, 3) := by decide +kernel
theorem d_X12_boxSet_18 : decode (mB M_X12_boxSet) 18 = .ok (.ifCond .eq 9, 3) := by decide +kernel
theorem d_X12_boxSet_21 : decode (mB M_X12_boxSet) 21 = .ok (.lconst 1, 1) := by decide +kernel
theorem d_X12_boxSet_22 : decode (mB M_X12_boxSet) 22 = .ok (.iload_n 3, 1) := by decide +kernel
theorem d_X12_boxSet_23 : decode (mB M_X12_boxSet) 23 = .ok (.lshl, 1) := by decide +kernel
theorem d_X12_boxSet_24 : decode (mB M_X12_boxSet) 24 = .ok (.goto 4, 3) := by decide +kernel
theorem d_X12_boxSet_27 : decode (mB M_X12_boxSet) 27 = .ok (.lconst 0, 1) := by decide +kernel
theorem d_X12_boxSet_28 : decode (mB M_X12_boxSet) 28 = .ok (.lor, 1) := by decide +kernel
theorem d_X12_boxSet_29 : decode (mB M_X12_boxSet) 29 = .ok (.lstore_n 1, 1) := by decide +kernel
theorem d_X12_boxSet_30 : decode (mB M_X12_boxSet) 30 = .ok (.iinc 3 1, 3) := by decide +kernel
theorem d_X12_boxSet_33 : decode (mB M_X12_boxSet) 33 = .ok (.goto (-29), 3) := by decide +kernel
theorem d_X12_boxSet_36 : decode (mB M_X12_boxSet) 36 = .ok (.lload_n 1, 1) := by decide +kernel
theorem d_X12_boxSet_37 : decode (mB M_X12_boxSet) 37 = .ok (.lreturn, 1) := by decide +kernel
theorem l_m_boxSet {E : mEnv} (hE : E.1.stackTraces = false) (C : List mE) (N : Nat) : ∀ n : Nat, (∀ (v1 : Int64) (v3 : Int32) (t : xT) (r : Int64), f_boxSet_L N n v1 v3 t = some r → Go E M_X12_boxSet 0 (4, [some (.ref 0), some (.long v1), none, some (.int v3)], [], (mw t, C)) (.inr (.inl (some (.long r), (mw t, C))))) := by
  intro n
  induction n with
  | zero => exact fun v1 v3 t r h => by cases h
  | succ n ih =>
    intro v1 v3 t r h
    rw [u_boxSet_4] at h
    refine g_iload_n d_X12_boxSet_4 rfl ?_
    refine g_aload_n d_X12_boxSet_5 rfl ?_
    refine g_callV (As := []) d_X12_boxSet_6 o_X12_size l_X12_130 ⟨Nat.le_of_ble_eq_true rfl, Nat.le_of_ble_eq_true rfl⟩ (c_m_size hE C t) (gm0 t C) rfl rfl rfl rfl rfl ?_ (Nat.zero_add _)
    refine g_icmp_ge (tgt := 36) d_X12_boxSet_9 (by decide) (fun c_9 => ?_) (fun c_9 => ?_)
    · replace h := opos c_9 h
      refine g_lload_n d_X12_boxSet_36 rfl ?_
      obtain rfl := osome h
      exact g_retL d_X12_boxSet_37 rfl rfl rfl
    · replace h := oneg c_9 h
      refine g_lload_n d_X12_boxSet_12 rfl ?_
      refine g_aload_n d_X12_boxSet_13 rfl ?_
      refine g_iload_n d_X12_boxSet_14 rfl ?_
      obtain ⟨r_15, h_15, h⟩ := obind h
      refine g_callV (As := [.int v3]) d_X12_boxSet_15 o_X12_isBox l_X12_124 ⟨Nat.le_of_ble_eq_true rfl, Nat.le_of_ble_eq_true rfl⟩ (c_m_isBox hE C t v3 _ h_15) (gm0 t C) rfl rfl rfl rfl rfl ?_ (Nat.zero_add _)
      obtain ⟨r_18, h_18, hh_18⟩ := obind h
      refine Go.trans0 (S1 := (28, [some (.ref 0), none, none, some (.int v3)], [.long r_18, .long v1], (mw t, C))) ?_ ?_
      · replace h := h_18
        clear hh_18
        refine g_if_eq (tgt := 27) d_X12_boxSet_18 (by decide) (fun c_18 => ?_) (fun c_18 => ?_)
        · replace h := opos c_18 h
          refine g_lconst (v := 0) d_X12_boxSet_27 (by decide) ?_
          obtain rfl := osome h
          exact g_drop [1] rfl (g_end rfl)
        · replace h := oneg c_18 h
          refine g_lconst (v := 1) d_X12_boxSet_21 (by decide) ?_
          refine g_iload_n d_X12_boxSet_22 rfl ?_
          refine g_lshl (v := (jshl 1 v3)) d_X12_boxSet_23 rfl ?_
          refine g_goto (tgt := 28) d_X12_boxSet_24 (by decide) ?_
          obtain rfl := osome h
          exact g_drop [1] rfl (g_end rfl)
      replace h := hh_18
      refine g_lor d_X12_boxSet_28 ?_
      refine g_lstore_n (L' := [some (.ref 0), some (.long (v1 ||| r_18)), none, some (.int v3)]) d_X12_boxSet_29 rfl rfl ?_
      refine g_iinc (v := (v3 + 1)) (L' := [some (.ref 0), some (.long (v1 ||| r_18)), none, some (.int (v3 + 1))]) d_X12_boxSet_30 rfl rfl rfl ?_
      refine g_goto (tgt := 4) d_X12_boxSet_33 (by decide) ?_
      exact (ih) (v1 ||| r_18) (v3 + 1) t _ h
theorem c_m_boxSet {E : mEnv} (hE : E.1.stackTraces = false) (C : List mE) (N : Nat) (t : xT)  (r : Int64) (h : f_boxSet N t = some r) : Rt E M_X12_boxSet 0 [.ref 0] (mw t, C) (some (.long r)) (mw t, C) := by
  unfold f_boxSet at h
  refine Rt.of hE rfl pn_X12 (Nat.le_of_ble_eq_true rfl) ?_
  refine g_eq (S' := (0, [some (.ref 0), none, none, none], [], (mw t, C))) rfl ?_
  refine g_lconst (v := 0) d_X12_boxSet_0 (by decide) ?_
  refine g_lstore_n (L' := [some (.ref 0), some (.long 0), none, none]) d_X12_boxSet_1 rfl rfl ?_
  refine g_iconst (v := 0) d_X12_boxSet_2 (by decide) ?_
  refine g_istore_n (L' := [some (.ref 0), some (.long 0), none, some (.int 0)]) d_X12_boxSet_3 rfl rfl ?_
  exact (l_m_boxSet hE C N N) 0 0 t _ h
def f_lowestHere_L (N : Nat) : Nat → Int32 → xT → Option (Int32 × xT)
  | 0, _, _ => none
  | n + 1, v1, t =>
    if inB v1 64 = true then (if 0 ≤ ((ra t 7) (Int32.toNatClampNeg v1)) then (some (v1, t))
    else (f_lowestHere_L N n (v1 + 1) t)) else none
theorem u_lowestHere_12 (N n : Nat) (v1 : Int32) (t : xT) : f_lowestHere_L N (n + 1) v1 t = (if inB v1 64 = true then (if 0 ≤ ((ra t 7) (Int32.toNatClampNeg v1)) then (some (v1, t))
    else (f_lowestHere_L N n (v1 + 1) t)) else none) := rfl
def f_lowestHere (N : Nat) (t : xT)  : Option (Int32 × xT) :=
  Option.bind (f_walksFrom N t ((ra t 1) (Int32.toNatClampNeg 3))) fun r_7 =>
  f_lowestHere_L N N 0 r_7
theorem d_X12_lowestHere_0 : decode (mB M_X12_lowestHere) 0 = .ok (.aload_n 0, 1) := by decide +kernel
theorem d_X12_lowestHere_1 : decode (mB M_X12_lowestHere) 1 = .ok (.aload_n 0, 1) := by decide +kernel
theorem d_X12_lowestHere_2 : decode (mB M_X12_lowestHere) 2 = .ok (.getfield 7, 3) := by decide +kernel
theorem d_X12_lowestHere_5 : decode (mB M_X12_lowestHere) 5 = .ok (.iconst 3, 1) := by decide +kernel
theorem d_X12_lowestHere_6 : decode (mB M_X12_lowestHere) 6 = .ok (.iaload, 1) := by decide +kernel
theorem d_X12_lowestHere_7 : decode (mB M_X12_lowestHere) 7 = .ok (.invokevirtual 163, 3) := by decide +kernel
theorem d_X12_lowestHere_10 : decode (mB M_X12_lowestHere) 10 = .ok (.iconst 0, 1) := by decide +kernel
theorem d_X12_lowestHere_11 : decode (mB M_X12_lowestHere) 11 = .ok (.istore_n 1, 1) := by decide +kernel
theorem d_X12_lowestHere_12 : decode (mB M_X12_lowestHere) 12 = .ok (.aload_n 0, 1) := by decide +kernel
theorem d_X12_lowestHere_13 : decode (mB M_X12_lowestHere) 13 = .ok (.getfield 32, 3) := by decide +kernel
theorem d_X12_lowestHere_16 : decode (mB M_X12_lowestHere) 16 = .ok (.iload_n 1, 1) := by decide +kernel
theorem d_X12_lowestHere_17 : decode (mB M_X12_lowestHere) 17 = .ok (.iaload, 1) := by decide +kernel
theorem d_X12_lowestHere_18 : decode (mB M_X12_lowestHere) 18 = .ok (.ifCond .ge 9, 3) := by decide +kernel
theorem d_X12_lowestHere_21 : decode (mB M_X12_lowestHere) 21 = .ok (.iinc 1 1, 3) := by decide +kernel
theorem d_X12_lowestHere_24 : decode (mB M_X12_lowestHere) 24 = .ok (.goto (-12), 3) := by decide +kernel
theorem d_X12_lowestHere_27 : decode (mB M_X12_lowestHere) 27 = .ok (.iload_n 1, 1) := by decide +kernel
theorem d_X12_lowestHere_28 : decode (mB M_X12_lowestHere) 28 = .ok (.ireturn, 1) := by decide +kernel
theorem l_m_lowestHere {E : mEnv} (hE : E.1.stackTraces = false) (C : List mE) (N : Nat) : ∀ n : Nat, (∀ (v1 : Int32) (t : xT) (r : Int32 × xT), f_lowestHere_L N n v1 t = some r → Go E M_X12_lowestHere 0 (12, [some (.ref 0), some (.int v1)], [], (mw t, C)) (.inr (.inl (some (.int r.1), (mw r.2, C))))) := by
  intro n
  induction n with
  | zero => exact fun v1 t r h => by cases h
  | succ n ih =>
    intro v1 t r h
    rw [u_lowestHere_12] at h
    refine g_aload_n d_X12_lowestHere_12 rfl ?_
    refine g_getf d_X12_lowestHere_13 f_X12_32 (gm0 t C) rfl ?_
    refine g_iload_n d_X12_lowestHere_16 rfl ?_
    obtain ⟨i_17, h⟩ := ochk h
    refine g_iald d_X12_lowestHere_17 (gm_7 t C) (inB_in i_17) ?_
    refine g_if_ge (tgt := 27) d_X12_lowestHere_18 (by decide) (fun c_18 => ?_) (fun c_18 => ?_)
    · replace h := opos c_18 h
      refine g_iload_n d_X12_lowestHere_27 rfl ?_
      obtain rfl := osome h
      exact g_retI d_X12_lowestHere_28 rfl rfl rfl
    · replace h := oneg c_18 h
      refine g_iinc (v := (v1 + 1)) (L' := [some (.ref 0), some (.int (v1 + 1))]) d_X12_lowestHere_21 rfl rfl rfl ?_
      refine g_goto (tgt := 12) d_X12_lowestHere_24 (by decide) ?_
      exact (ih) (v1 + 1) t _ h
theorem c_m_lowestHere {E : mEnv} (hE : E.1.stackTraces = false) (C : List mE) (N : Nat) (t : xT)  (r : Int32 × xT) (h : f_lowestHere N t = some r) : Rt E M_X12_lowestHere 0 [.ref 0] (mw t, C) (some (.int r.1)) (mw r.2, C) := by
  unfold f_lowestHere at h
  refine Rt.of hE rfl pn_X12 (Nat.le_of_ble_eq_true rfl) ?_
  refine g_eq (S' := (0, [some (.ref 0), none], [], (mw t, C))) rfl ?_
  refine g_aload_n d_X12_lowestHere_0 rfl ?_
  refine g_aload_n d_X12_lowestHere_1 rfl ?_
  refine g_getf d_X12_lowestHere_2 f_X12_7 (gm0 t C) rfl ?_
  refine g_iconst (v := 3) d_X12_lowestHere_5 (by decide) ?_
  refine g_iald d_X12_lowestHere_6 (gm_1 t C) (inB_in (by decide)) ?_
  obtain ⟨r_7, h_7, h⟩ := obind h
  refine g_callV (As := [.int ((ra t 1) (Int32.toNatClampNeg 3))]) d_X12_lowestHere_7 o_X12_walksFrom l_X12_163 ⟨Nat.le_of_ble_eq_true rfl, Nat.le_of_ble_eq_true rfl⟩ (c_m_walksFrom hE C N t ((ra t 1) (Int32.toNatClampNeg 3)) _ h_7) (gm0 t C) rfl rfl rfl rfl rfl ?_ (Nat.zero_add _)
  refine g_iconst (v := 0) d_X12_lowestHere_10 (by decide) ?_
  refine g_istore_n (L' := [some (.ref 0), some (.int 0)]) d_X12_lowestHere_11 rfl rfl ?_
  exact (l_m_lowestHere hE C N N) 0 r_7 _ h
def f_finds_L (N : Nat) : Nat → Int32 → Int32 → Int32 → Int64 → Int32 → Int32 → xT → Option (xT)
  | 0, _, _, _, _, _, _, _ => none
  | n + 1, v1, v2, v3, v4, v6, v7, t =>
    if (rs t 31) ≤ v7 then (if (rs t 31) = v3 then (Option.bind (some (ws t 35 1)) fun t_66 =>
        some t_66)
      else (if inB (rs t 31) 1000 = true then (Option.bind (some (wb t (vp_updL (rb t) (Int32.toNatClampNeg (rs t 31)) v4))) fun t_80 =>
        if inB (rs t_80 31) 1000 = true then (Option.bind (some (wa t_80 15 (upd (ra t_80 15) (Int32.toNatClampNeg (rs t_80 31)) v6))) fun t_91 =>
        if inB (rs t_91 31) 1000 = true then (Option.bind (some (wa t_91 16 (upd (ra t_91 16) (Int32.toNatClampNeg (rs t_91 31)) v1))) fun t_101 =>
        if inB (rs t_101 31) 1000 = true then (Option.bind (some (wa t_101 17 (upd (ra t_101 17) (Int32.toNatClampNeg (rs t_101 31)) v2))) fun t_111 =>
        Option.bind (some (ws t_111 31 ((rs t_111 31) + 1))) fun t_119 =>
        some t_119) else none) else none) else none) else none))
    else (if inB v7 1000 = true then (if ((rb t) (Int32.toNatClampNeg v7)) = v4 then (if inB v7 1000 = true then (if ((ra t 15) (Int32.toNatClampNeg v7)) = v6 then (some t)
        else (f_finds_L N n v1 v2 v3 v4 v6 (v7 + 1) t)) else none)
      else (f_finds_L N n v1 v2 v3 v4 v6 (v7 + 1) t)) else none)
theorem u_finds_15 (N n : Nat) (v1 : Int32) (v2 : Int32) (v3 : Int32) (v4 : Int64) (v6 : Int32) (v7 : Int32) (t : xT) : f_finds_L N (n + 1) v1 v2 v3 v4 v6 v7 t = (if (rs t 31) ≤ v7 then (if (rs t 31) = v3 then (Option.bind (some (ws t 35 1)) fun t_66 =>
        some t_66)
      else (if inB (rs t 31) 1000 = true then (Option.bind (some (wb t (vp_updL (rb t) (Int32.toNatClampNeg (rs t 31)) v4))) fun t_80 =>
        if inB (rs t_80 31) 1000 = true then (Option.bind (some (wa t_80 15 (upd (ra t_80 15) (Int32.toNatClampNeg (rs t_80 31)) v6))) fun t_91 =>
        if inB (rs t_91 31) 1000 = true then (Option.bind (some (wa t_91 16 (upd (ra t_91 16) (Int32.toNatClampNeg (rs t_91 31)) v1))) fun t_101 =>
        if inB (rs t_101 31) 1000 = true then (Option.bind (some (wa t_101 17 (upd (ra t_101 17) (Int32.toNatClampNeg (rs t_101 31)) v2))) fun t_111 =>
        Option.bind (some (ws t_111 31 ((rs t_111 31) + 1))) fun t_119 =>
        some t_119) else none) else none) else none) else none))
    else (if inB v7 1000 = true then (if ((rb t) (Int32.toNatClampNeg v7)) = v4 then (if inB v7 1000 = true then (if ((ra t 15) (Int32.toNatClampNeg v7)) = v6 then (some t)
        else (f_finds_L N n v1 v2 v3 v4 v6 (v7 + 1) t)) else none)
      else (f_finds_L N n v1 v2 v3 v4 v6 (v7 + 1) t)) else none)) := rfl
def f_finds (N : Nat) (t : xT) (a0 : Int32) (a1 : Int32) (a2 : Int32) : Option (xT) :=
  Option.bind (f_boxSet N t) fun r_1 =>
  Option.bind (f_lowestHere N t) fun r_7 =>
  f_finds_L N N a0 a1 a2 r_1 r_7.1 0 r_7.2
theorem d_X12_finds_0 : decode (mB M_X12_finds) 0 = .ok (.aload_n 0, 1) := by decide +kernel
theorem d_X12_finds_1 : decode (mB M_X12_finds) 1 = .ok (.invokevirtual 259, 3) := by decide +kernel
theorem d_X12_finds_4 : decode (mB M_X12_finds) 4 = .ok (.lstore 4, 2) := by decide +kernel
theorem d_X12_finds_6 : decode (mB M_X12_finds) 6 = .ok (.aload_n 0, 1) := by decide +kernel
theorem d_X12_finds_7 : decode (mB M_X12_finds) 7 = .ok (.invokevirtual 263, 3) := by decide +kernel
theorem d_X12_finds_10 : decode (mB M_X12_finds) 10 = .ok (.istore 6, 2) := by decide +kernel
theorem d_X12_finds_12 : decode (mB M_X12_finds) 12 = .ok (.iconst 0, 1) := by decide +kernel
theorem d_X12_finds_13 : decode (mB M_X12_finds) 13 = .ok (.istore 7, 2) := by decide +kernel
theorem d_X12_finds_15 : decode (mB M_X12_finds) 15 = .ok (.iload 7, 2) := by decide +kernel
theorem d_X12_finds_17 : decode (mB M_X12_finds) 17 = .ok (.aload_n 0, 1) := by decide +kernel
theorem d_X12_finds_18 : decode (mB M_X12_finds) 18 = .ok (.getfield 266, 3) := by decide +kernel
theorem d_X12_finds_21 : decode (mB M_X12_finds) 21 = .ok (.if_icmp .ge 35, 3) := by decide +kernel
theorem d_X12_finds_24 : decode (mB M_X12_finds) 24 = .ok (.aload_n 0, 1) := by decide +kernel
theorem d_X12_finds_25 : decode (mB M_X12_finds) 25 = .ok (.getfield 54, 3) := by decide +kernel
theorem d_X12_finds_28 : decode (mB M_X12_finds) 28 = .ok (.iload 7, 2) := by decide +kernel
theorem d_X12_finds_30 : decode (mB M_X12_finds) 30 = .ok (.laload, 1) := by decide +kernel
theorem d_X12_finds_31 : decode (mB M_X12_finds) 31 = .ok (.lload 4, 2) := by decide +kernel
theorem d_X12_finds_33 : decode (mB M_X12_finds) 33 = .ok (.lcmp, 1) := by decide +kernel
theorem d_X12_finds_34 : decode (mB M_X12_finds) 34 = .ok (.ifCond .ne 16, 3) := by decide +kernel
theorem d_X12_finds_37 : decode (mB M_X12_finds) 37 = .ok (.aload_n 0, 1) := by decide +kernel
theorem d_X12_finds_38 : decode (mB M_X12_finds) 38 = .ok (.getfield 58, 3) := by decide +kernel
theorem d_X12_finds_41 : decode (mB M_X12_finds) 41 = .ok (.iload 7, 2) := by decide +kernel
theorem d_X12_finds_43 : decode (mB M_X12_finds) 43 = .ok (.iaload, 1) := by decide +kernel
theorem d_X12_finds_44 : decode (mB M_X12_finds) 44 = .ok (.iload 6, 2) := by decide +kernel
theorem d_X12_finds_46 : decode (mB M_X12_finds) 46 = .ok (.if_icmp .ne 4, 3) := by decide +kernel
theorem d_X12_finds_49 : decode (mB M_X12_finds) 49 = .ok (.return_, 1) := by decide +kernel
theorem d_X12_finds_50 : decode (mB M_X12_finds) 50 = .ok (.iinc 7 1, 3) := by decide +kernel
theorem d_X12_finds_53 : decode (mB M_X12_finds) 53 = .ok (.goto (-38), 3) := by decide +kernel
theorem d_X12_finds_56 : decode (mB M_X12_finds) 56 = .ok (.aload_n 0, 1) := by decide +kernel
theorem d_X12_finds_57 : decode (mB M_X12_finds) 57 = .ok (.getfield 266, 3) := by decide +kernel
theorem d_X12_finds_60 : decode (mB M_X12_finds) 60 = .ok (.iload_n 3, 1) := by decide +kernel
theorem d_X12_finds_61 : decode (mB M_X12_finds) 61 = .ok (.if_icmp .ne 9, 3) := by decide +kernel
theorem d_X12_finds_64 : decode (mB M_X12_finds) 64 = .ok (.aload_n 0, 1) := by decide +kernel
theorem d_X12_finds_65 : decode (mB M_X12_finds) 65 = .ok (.iconst 1, 1) := by decide +kernel
theorem d_X12_finds_66 : decode (mB M_X12_finds) 66 = .ok (.putfield 269, 3) := by decide +kernel
theorem d_X12_finds_69 : decode (mB M_X12_finds) 69 = .ok (.return_, 1) := by decide +kernel
theorem d_X12_finds_70 : decode (mB M_X12_finds) 70 = .ok (.aload_n 0, 1) := by decide +kernel
theorem d_X12_finds_71 : decode (mB M_X12_finds) 71 = .ok (.getfield 54, 3) := by decide +kernel
theorem d_X12_finds_74 : decode (mB M_X12_finds) 74 = .ok (.aload_n 0, 1) := by decide +kernel
theorem d_X12_finds_75 : decode (mB M_X12_finds) 75 = .ok (.getfield 266, 3) := by decide +kernel
theorem d_X12_finds_78 : decode (mB M_X12_finds) 78 = .ok (.lload 4, 2) := by decide +kernel
theorem d_X12_finds_80 : decode (mB M_X12_finds) 80 = .ok (.lastore, 1) := by decide +kernel
theorem d_X12_finds_81 : decode (mB M_X12_finds) 81 = .ok (.aload_n 0, 1) := by decide +kernel
theorem d_X12_finds_82 : decode (mB M_X12_finds) 82 = .ok (.getfield 58, 3) := by decide +kernel
theorem d_X12_finds_85 : decode (mB M_X12_finds) 85 = .ok (.aload_n 0, 1) := by decide +kernel
theorem d_X12_finds_86 : decode (mB M_X12_finds) 86 = .ok (.getfield 266, 3) := by decide +kernel
theorem d_X12_finds_89 : decode (mB M_X12_finds) 89 = .ok (.iload 6, 2) := by decide +kernel
theorem d_X12_finds_91 : decode (mB M_X12_finds) 91 = .ok (.iastore, 1) := by decide +kernel
theorem d_X12_finds_92 : decode (mB M_X12_finds) 92 = .ok (.aload_n 0, 1) := by decide +kernel
theorem d_X12_finds_93 : decode (mB M_X12_finds) 93 = .ok (.getfield 61, 3) := by decide +kernel
theorem d_X12_finds_96 : decode (mB M_X12_finds) 96 = .ok (.aload_n 0, 1) := by decide +kernel
theorem d_X12_finds_97 : decode (mB M_X12_finds) 97 = .ok (.getfield 266, 3) := by decide +kernel
theorem d_X12_finds_100 : decode (mB M_X12_finds) 100 = .ok (.iload_n 1, 1) := by decide +kernel
theorem d_X12_finds_101 : decode (mB M_X12_finds) 101 = .ok (.iastore, 1) := by decide +kernel
theorem d_X12_finds_102 : decode (mB M_X12_finds) 102 = .ok (.aload_n 0, 1) := by decide +kernel
theorem d_X12_finds_103 : decode (mB M_X12_finds) 103 = .ok (.getfield 64, 3) := by decide +kernel
theorem d_X12_finds_106 : decode (mB M_X12_finds) 106 = .ok (.aload_n 0, 1) := by decide +kernel
theorem d_X12_finds_107 : decode (mB M_X12_finds) 107 = .ok (.getfield 266, 3) := by decide +kernel
theorem d_X12_finds_110 : decode (mB M_X12_finds) 110 = .ok (.iload_n 2, 1) := by decide +kernel
theorem d_X12_finds_111 : decode (mB M_X12_finds) 111 = .ok (.iastore, 1) := by decide +kernel
theorem d_X12_finds_112 : decode (mB M_X12_finds) 112 = .ok (.aload_n 0, 1) := by decide +kernel
theorem d_X12_finds_113 : decode (mB M_X12_finds) 113 = .ok (.dup, 1) := by decide +kernel
theorem d_X12_finds_114 : decode (mB M_X12_finds) 114 = .ok (.getfield 266, 3) := by decide +kernel
theorem d_X12_finds_117 : decode (mB M_X12_finds) 117 = .ok (.iconst 1, 1) := by decide +kernel
theorem d_X12_finds_118 : decode (mB M_X12_finds) 118 = .ok (.iadd, 1) := by decide +kernel
theorem d_X12_finds_119 : decode (mB M_X12_finds) 119 = .ok (.putfield 266, 3) := by decide +kernel
theorem d_X12_finds_122 : decode (mB M_X12_finds) 122 = .ok (.return_, 1) := by decide +kernel
theorem l_m_finds {E : mEnv} (hE : E.1.stackTraces = false) (C : List mE) (N : Nat) : ∀ n : Nat, (∀ (v1 : Int32) (v2 : Int32) (v3 : Int32) (v4 : Int64) (v6 : Int32) (v7 : Int32) (t : xT) (r : xT), f_finds_L N n v1 v2 v3 v4 v6 v7 t = some r → Go E M_X12_finds 0 (15, [some (.ref 0), some (.int v1), some (.int v2), some (.int v3), some (.long v4), none, some (.int v6), some (.int v7)], [], (mw t, C)) (.inr (.inl (none, (mw r, C))))) := by
  intro n
  induction n with
  | zero => exact fun v1 v2 v3 v4 v6 v7 t r h => by cases h
  | succ n ih =>
    intro v1 v2 v3 v4 v6 v7 t r h
    rw [u_finds_15] at h
    refine g_iload d_X12_finds_15 rfl ?_
    refine g_aload_n d_X12_finds_17 rfl ?_
    refine g_getf d_X12_finds_18 f_X12_266 (gm0 t C) rfl ?_
    refine g_icmp_ge (tgt := 56) d_X12_finds_21 (by decide) (fun c_21 => ?_) (fun c_21 => ?_)
    · replace h := opos c_21 h
      refine g_aload_n d_X12_finds_56 rfl ?_
      refine g_getf d_X12_finds_57 f_X12_266 (gm0 t C) rfl ?_
      refine g_iload_n d_X12_finds_60 rfl ?_
      refine g_icmp_ne (tgt := 70) d_X12_finds_61 (by decide) (fun c_61 => ?_) (fun c_61 => ?_)
      · replace h := oneg c_61 h
        refine g_aload_n d_X12_finds_70 rfl ?_
        refine g_getf d_X12_finds_71 f_X12_54 (gm0 t C) rfl ?_
        refine g_aload_n d_X12_finds_74 rfl ?_
        refine g_getf d_X12_finds_75 f_X12_266 (gm0 t C) rfl ?_
        refine g_lload d_X12_finds_78 rfl ?_
        obtain ⟨i_80, h⟩ := ochk h
        obtain ⟨t_80, e_80, h⟩ := olet h
        refine g_last (w' := (mw t_80, C)) d_X12_finds_80 (gm_14 t C) (inB_in i_80) (by rw [e_80]; exact st_14 t C _) ?_
        refine g_aload_n d_X12_finds_81 rfl ?_
        refine g_getf d_X12_finds_82 f_X12_58 (gm0 t_80 C) rfl ?_
        refine g_aload_n d_X12_finds_85 rfl ?_
        refine g_getf d_X12_finds_86 f_X12_266 (gm0 t_80 C) rfl ?_
        refine g_iload d_X12_finds_89 rfl ?_
        obtain ⟨i_91, h⟩ := ochk h
        obtain ⟨t_91, e_91, h⟩ := olet h
        refine g_iast (w' := (mw t_91, C)) d_X12_finds_91 (gm_15 t_80 C) (inB_in i_91) (by rw [e_91]; exact st_15 t_80 C _) ?_
        refine g_aload_n d_X12_finds_92 rfl ?_
        refine g_getf d_X12_finds_93 f_X12_61 (gm0 t_91 C) rfl ?_
        refine g_aload_n d_X12_finds_96 rfl ?_
        refine g_getf d_X12_finds_97 f_X12_266 (gm0 t_91 C) rfl ?_
        refine g_iload_n d_X12_finds_100 rfl ?_
        obtain ⟨i_101, h⟩ := ochk h
        obtain ⟨t_101, e_101, h⟩ := olet h
        refine g_iast (w' := (mw t_101, C)) d_X12_finds_101 (gm_16 t_91 C) (inB_in i_101) (by rw [e_101]; exact st_16 t_91 C _) ?_
        refine g_aload_n d_X12_finds_102 rfl ?_
        refine g_getf d_X12_finds_103 f_X12_64 (gm0 t_101 C) rfl ?_
        refine g_aload_n d_X12_finds_106 rfl ?_
        refine g_getf d_X12_finds_107 f_X12_266 (gm0 t_101 C) rfl ?_
        refine g_iload_n d_X12_finds_110 rfl ?_
        obtain ⟨i_111, h⟩ := ochk h
        obtain ⟨t_111, e_111, h⟩ := olet h
        refine g_iast (w' := (mw t_111, C)) d_X12_finds_111 (gm_17 t_101 C) (inB_in i_111) (by rw [e_111]; exact st_17 t_101 C _) ?_
        refine g_aload_n d_X12_finds_112 rfl ?_
        refine g_dup d_X12_finds_113 rfl ?_
        refine g_getf d_X12_finds_114 f_X12_266 (gm0 t_111 C) rfl ?_
        refine g_iconst (v := 1) d_X12_finds_117 (by decide) ?_
        refine g_iadd d_X12_finds_118 ?_
        obtain ⟨t_119, e_119, h⟩ := olet h
        refine g_putI (w' := (mw t_119, C)) d_X12_finds_119 p_X12_266 rfl rfl (gm0 t_111 C) (Nat.le_of_ble_eq_true rfl) (by rw [e_119]; exact sc_31 t_111 C _) ?_
        obtain rfl := osome h
        exact g_retV d_X12_finds_122 rfl rfl
      · replace h := opos c_61 h
        refine g_aload_n d_X12_finds_64 rfl ?_
        refine g_iconst (v := 1) d_X12_finds_65 (by decide) ?_
        obtain ⟨t_66, e_66, h⟩ := olet h
        refine g_putI (w' := (mw t_66, C)) d_X12_finds_66 p_X12_269 rfl rfl (gm0 t C) (Nat.le_of_ble_eq_true rfl) (by rw [e_66]; exact sc_35 t C _) ?_
        obtain rfl := osome h
        exact g_retV d_X12_finds_69 rfl rfl
    · replace h := oneg c_21 h
      refine g_aload_n d_X12_finds_24 rfl ?_
      refine g_getf d_X12_finds_25 f_X12_54 (gm0 t C) rfl ?_
      refine g_iload d_X12_finds_28 rfl ?_
      obtain ⟨i_30, h⟩ := ochk h
      refine g_lald d_X12_finds_30 (gm_14 t C) (inB_in i_30) ?_
      refine g_lload d_X12_finds_31 rfl ?_
      refine g_lcmp_ne (tgt := 50) d_X12_finds_33 d_X12_finds_34 (by decide) (fun c_33 => ?_) (fun c_33 => ?_)
      · replace h := oneg c_33 h
        refine g_iinc (v := (v7 + 1)) (L' := [some (.ref 0), some (.int v1), some (.int v2), some (.int v3), some (.long v4), none, some (.int v6), some (.int (v7 + 1))]) d_X12_finds_50 rfl rfl rfl ?_
        refine g_goto (tgt := 15) d_X12_finds_53 (by decide) ?_
        exact (ih) v1 v2 v3 v4 v6 (v7 + 1) t _ h
      · replace h := opos c_33 h
        refine g_aload_n d_X12_finds_37 rfl ?_
        refine g_getf d_X12_finds_38 f_X12_58 (gm0 t C) rfl ?_
        refine g_iload d_X12_finds_41 rfl ?_
        obtain ⟨i_43, h⟩ := ochk h
        refine g_iald d_X12_finds_43 (gm_15 t C) (inB_in i_43) ?_
        refine g_iload d_X12_finds_44 rfl ?_
        refine g_icmp_ne (tgt := 50) d_X12_finds_46 (by decide) (fun c_46 => ?_) (fun c_46 => ?_)
        · replace h := oneg c_46 h
          refine g_iinc (v := (v7 + 1)) (L' := [some (.ref 0), some (.int v1), some (.int v2), some (.int v3), some (.long v4), none, some (.int v6), some (.int (v7 + 1))]) d_X12_finds_50 rfl rfl rfl ?_
          refine g_goto (tgt := 15) d_X12_finds_53 (by decide) ?_
          exact (ih) v1 v2 v3 v4 v6 (v7 + 1) t _ h
        · replace h := opos c_46 h
          obtain rfl := osome h
          exact g_retV d_X12_finds_49 rfl rfl
theorem c_m_finds {E : mEnv} (hE : E.1.stackTraces = false) (C : List mE) (N : Nat) (t : xT) (a0 : Int32) (a1 : Int32) (a2 : Int32) (r : xT) (h : f_finds N t a0 a1 a2 = some r) : Rt E M_X12_finds 0 [.ref 0, .int a0, .int a1, .int a2] (mw t, C) none (mw r, C) := by
  unfold f_finds at h
  refine Rt.of hE rfl pn_X12 (Nat.le_of_ble_eq_true rfl) ?_
  refine g_eq (S' := (0, [some (.ref 0), some (.int a0), some (.int a1), some (.int a2), none, none, none, none], [], (mw t, C))) rfl ?_
  refine g_aload_n d_X12_finds_0 rfl ?_
  obtain ⟨r_1, h_1, h⟩ := obind h
  refine g_callV (As := []) d_X12_finds_1 o_X12_boxSet l_X12_259 ⟨Nat.le_of_ble_eq_true rfl, Nat.le_of_ble_eq_true rfl⟩ (c_m_boxSet hE C N t _ h_1) (gm0 t C) rfl rfl rfl rfl rfl ?_ (Nat.zero_add _)
  refine g_lstore (L' := [some (.ref 0), some (.int a0), some (.int a1), some (.int a2), some (.long r_1), none, none, none]) d_X12_finds_4 rfl rfl ?_
  refine g_aload_n d_X12_finds_6 rfl ?_
  obtain ⟨r_7, h_7, h⟩ := obind h
  refine g_callV (As := []) d_X12_finds_7 o_X12_lowestHere l_X12_263 ⟨Nat.le_of_ble_eq_true rfl, Nat.le_of_ble_eq_true rfl⟩ (c_m_lowestHere hE C N t _ h_7) (gm0 t C) rfl rfl rfl rfl rfl ?_ (Nat.zero_add _)
  refine g_istore (L' := [some (.ref 0), some (.int a0), some (.int a1), some (.int a2), some (.long r_1), none, some (.int r_7.1), none]) d_X12_finds_10 rfl rfl ?_
  refine g_iconst (v := 0) d_X12_finds_12 (by decide) ?_
  refine g_istore (L' := [some (.ref 0), some (.int a0), some (.int a1), some (.int a2), some (.long r_1), none, some (.int r_7.1), some (.int 0)]) d_X12_finds_13 rfl rfl ?_
  exact (l_m_finds hE C N N) a0 a1 a2 r_1 r_7.1 0 r_7.2 _ h
def f_takes_L (N : Nat) : Nat → Int32 → Int32 → xT → Option (xT)
  | 0, _, _, _ => none
  | n + 1, v1, v2, t =>
    if (f_size t) ≤ v2 then (if inB v1 1000 = true then (Option.bind (some (wa t 1 (upd (ra t 1) (Int32.toNatClampNeg 3) ((ra t 15) (Int32.toNatClampNeg v1))))) fun t_47 =>
      some t_47) else none)
    else (if inB v1 1000 = true then (if inB (74 + v2) 602 = true then (Option.bind (some (wa t 1 (upd (ra t 1) (Int32.toNatClampNeg (74 + v2)) (((jshr ((rb t) (Int32.toNatClampNeg v1)) v2) &&& 1).toInt32)))) fun t_29 =>
      f_takes_L N n v1 (v2 + 1) t_29) else none) else none)
theorem u_takes_2 (N n : Nat) (v1 : Int32) (v2 : Int32) (t : xT) : f_takes_L N (n + 1) v1 v2 t = (if (f_size t) ≤ v2 then (if inB v1 1000 = true then (Option.bind (some (wa t 1 (upd (ra t 1) (Int32.toNatClampNeg 3) ((ra t 15) (Int32.toNatClampNeg v1))))) fun t_47 =>
      some t_47) else none)
    else (if inB v1 1000 = true then (if inB (74 + v2) 602 = true then (Option.bind (some (wa t 1 (upd (ra t 1) (Int32.toNatClampNeg (74 + v2)) (((jshr ((rb t) (Int32.toNatClampNeg v1)) v2) &&& 1).toInt32)))) fun t_29 =>
      f_takes_L N n v1 (v2 + 1) t_29) else none) else none)) := rfl
def f_takes (N : Nat) (t : xT) (a0 : Int32) : Option (xT) :=
  f_takes_L N N a0 0 t
theorem d_X12_takes_0 : decode (mB M_X12_takes) 0 = .ok (.iconst 0, 1) := by decide +kernel
theorem d_X12_takes_1 : decode (mB M_X12_takes) 1 = .ok (.istore_n 2, 1) := by decide +kernel
theorem d_X12_takes_2 : decode (mB M_X12_takes) 2 = .ok (.iload_n 2, 1) := by decide +kernel
theorem d_X12_takes_3 : decode (mB M_X12_takes) 3 = .ok (.aload_n 0, 1) := by decide +kernel
theorem d_X12_takes_4 : decode (mB M_X12_takes) 4 = .ok (.invokevirtual 130, 3) := by decide +kernel
theorem d_X12_takes_7 : decode (mB M_X12_takes) 7 = .ok (.if_icmp .ge 29, 3) := by decide +kernel
theorem d_X12_takes_10 : decode (mB M_X12_takes) 10 = .ok (.aload_n 0, 1) := by decide +kernel
theorem d_X12_takes_11 : decode (mB M_X12_takes) 11 = .ok (.getfield 7, 3) := by decide +kernel
theorem d_X12_takes_14 : decode (mB M_X12_takes) 14 = .ok (.bipush 74, 2) := by decide +kernel
theorem d_X12_takes_16 : decode (mB M_X12_takes) 16 = .ok (.iload_n 2, 1) := by decide +kernel
theorem d_X12_takes_17 : decode (mB M_X12_takes) 17 = .ok (.iadd, 1) := by decide +kernel
theorem d_X12_takes_18 : decode (mB M_X12_takes) 18 = .ok (.aload_n 0, 1) := by decide +kernel
theorem d_X12_takes_19 : decode (mB M_X12_takes) 19 = .ok (.getfield 54, 3) := by decide +kernel
theorem d_X12_takes_22 : decode (mB M_X12_takes) 22 = .ok (.iload_n 1, 1) := by decide +kernel
theorem d_X12_takes_23 : decode (mB M_X12_takes) 23 = .ok (.laload, 1) := by decide +kernel
theorem d_X12_takes_24 : decode (mB M_X12_takes) 24 = .ok (.iload_n 2, 1) := by decide +kernel
theorem d_X12_takes_25 : decode (mB M_X12_takes) 25 = .ok (.lshr, 1) := by decide +kernel
theorem d_X12_takes_26 : decode (mB M_X12_takes) 26 = .ok (.lconst 1, 1) := by decide +kernel
theorem d_X12_takes_27 : decode (mB M_X12_takes) 27 = .ok (.land, 1) := by decide +kernel
theorem d_X12_takes_28 : decode (mB M_X12_takes) 28 = .ok (.l2i, 1) := by decide +kernel
theorem d_X12_takes_29 : decode (mB M_X12_takes) 29 = .ok (.iastore, 1) := by decide +kernel
theorem d_X12_takes_30 : decode (mB M_X12_takes) 30 = .ok (.iinc 2 1, 3) := by decide +kernel
theorem d_X12_takes_33 : decode (mB M_X12_takes) 33 = .ok (.goto (-31), 3) := by decide +kernel
theorem d_X12_takes_36 : decode (mB M_X12_takes) 36 = .ok (.aload_n 0, 1) := by decide +kernel
theorem d_X12_takes_37 : decode (mB M_X12_takes) 37 = .ok (.getfield 7, 3) := by decide +kernel
theorem d_X12_takes_40 : decode (mB M_X12_takes) 40 = .ok (.iconst 3, 1) := by decide +kernel
theorem d_X12_takes_41 : decode (mB M_X12_takes) 41 = .ok (.aload_n 0, 1) := by decide +kernel
theorem d_X12_takes_42 : decode (mB M_X12_takes) 42 = .ok (.getfield 58, 3) := by decide +kernel
theorem d_X12_takes_45 : decode (mB M_X12_takes) 45 = .ok (.iload_n 1, 1) := by decide +kernel
theorem d_X12_takes_46 : decode (mB M_X12_takes) 46 = .ok (.iaload, 1) := by decide +kernel
theorem d_X12_takes_47 : decode (mB M_X12_takes) 47 = .ok (.iastore, 1) := by decide +kernel
theorem d_X12_takes_48 : decode (mB M_X12_takes) 48 = .ok (.return_, 1) := by decide +kernel
theorem l_m_takes {E : mEnv} (hE : E.1.stackTraces = false) (C : List mE) (N : Nat) : ∀ n : Nat, (∀ (v1 : Int32) (v2 : Int32) (t : xT) (r : xT), f_takes_L N n v1 v2 t = some r → Go E M_X12_takes 0 (2, [some (.ref 0), some (.int v1), some (.int v2)], [], (mw t, C)) (.inr (.inl (none, (mw r, C))))) := by
  intro n
  induction n with
  | zero => exact fun v1 v2 t r h => by cases h
  | succ n ih =>
    intro v1 v2 t r h
    rw [u_takes_2] at h
    refine g_iload_n d_X12_takes_2 rfl ?_
    refine g_aload_n d_X12_takes_3 rfl ?_
    refine g_callV (As := []) d_X12_takes_4 o_X12_size l_X12_130 ⟨Nat.le_of_ble_eq_true rfl, Nat.le_of_ble_eq_true rfl⟩ (c_m_size hE C t) (gm0 t C) rfl rfl rfl rfl rfl ?_ (Nat.zero_add _)
    refine g_icmp_ge (tgt := 36) d_X12_takes_7 (by decide) (fun c_7 => ?_) (fun c_7 => ?_)
    · replace h := opos c_7 h
      refine g_aload_n d_X12_takes_36 rfl ?_
      refine g_getf d_X12_takes_37 f_X12_7 (gm0 t C) rfl ?_
      refine g_iconst (v := 3) d_X12_takes_40 (by decide) ?_
      refine g_aload_n d_X12_takes_41 rfl ?_
      refine g_getf d_X12_takes_42 f_X12_58 (gm0 t C) rfl ?_
      refine g_iload_n d_X12_takes_45 rfl ?_
      obtain ⟨i_46, h⟩ := ochk h
      refine g_iald d_X12_takes_46 (gm_15 t C) (inB_in i_46) ?_
      obtain ⟨t_47, e_47, h⟩ := olet h
      refine g_iast (w' := (mw t_47, C)) d_X12_takes_47 (gm_1 t C) (inB_in (by decide)) (by rw [e_47]; exact st_1 t C _) ?_
      obtain rfl := osome h
      exact g_retV d_X12_takes_48 rfl rfl
    · replace h := oneg c_7 h
      refine g_aload_n d_X12_takes_10 rfl ?_
      refine g_getf d_X12_takes_11 f_X12_7 (gm0 t C) rfl ?_
      refine g_bipush (v := 74) d_X12_takes_14 (by decide) ?_
      refine g_iload_n d_X12_takes_16 rfl ?_
      refine g_iadd d_X12_takes_17 ?_
      refine g_aload_n d_X12_takes_18 rfl ?_
      refine g_getf d_X12_takes_19 f_X12_54 (gm0 t C) rfl ?_
      refine g_iload_n d_X12_takes_22 rfl ?_
      obtain ⟨i_23, h⟩ := ochk h
      refine g_lald d_X12_takes_23 (gm_14 t C) (inB_in i_23) ?_
      refine g_iload_n d_X12_takes_24 rfl ?_
      refine g_lshr (v := (jshr ((rb t) (Int32.toNatClampNeg v1)) v2)) d_X12_takes_25 rfl ?_
      refine g_lconst (v := 1) d_X12_takes_26 (by decide) ?_
      refine g_land d_X12_takes_27 ?_
      refine g_l2i d_X12_takes_28 ?_
      obtain ⟨i_29, h⟩ := ochk h
      obtain ⟨t_29, e_29, h⟩ := olet h
      refine g_iast (w' := (mw t_29, C)) d_X12_takes_29 (gm_1 t C) (inB_in i_29) (by rw [e_29]; exact st_1 t C _) ?_
      refine g_iinc (v := (v2 + 1)) (L' := [some (.ref 0), some (.int v1), some (.int (v2 + 1))]) d_X12_takes_30 rfl rfl rfl ?_
      refine g_goto (tgt := 2) d_X12_takes_33 (by decide) ?_
      exact (ih) v1 (v2 + 1) t_29 _ h
theorem c_m_takes {E : mEnv} (hE : E.1.stackTraces = false) (C : List mE) (N : Nat) (t : xT) (a0 : Int32) (r : xT) (h : f_takes N t a0 = some r) : Rt E M_X12_takes 0 [.ref 0, .int a0] (mw t, C) none (mw r, C) := by
  unfold f_takes at h
  refine Rt.of hE rfl pn_X12 (Nat.le_of_ble_eq_true rfl) ?_
  refine g_eq (S' := (0, [some (.ref 0), some (.int a0), none], [], (mw t, C))) rfl ?_
  refine g_iconst (v := 0) d_X12_takes_0 (by decide) ?_
  refine g_istore_n (L' := [some (.ref 0), some (.int a0), some (.int 0)]) d_X12_takes_1 rfl rfl ?_
  exact (l_m_takes hE C N N) a0 0 t _ h
def f_visits_L (N : Nat) : Nat → Nat → Int32 → Int32 → Int32 → Int32 → Int32 → xT → Option (xT)
  | 0, _, _, _, _, _, _, _ => none
  | n + 1, p, v1, v2, v3, v4, v5, t =>
    if p = 3 then (if (f_size t) ≤ v4 then (some t)
      else (if (rs t 35) = 0 then (f_visits_L N n 22 v1 v2 v3 v4 0 t)
        else (some t)))
    else if p = 22 then (if 4 ≤ v5 then (f_visits_L N n 3 v1 v2 v3 (v4 + 1) 0 t)
      else (if (rs t 35) = 0 then (Option.bind (f_takes N t v1) fun r_37 =>
          Option.bind (f_isBox r_37 v4) fun r_43 =>
          Option.bind (if r_43 = 0 then (some r_37)
            else (Option.bind (f_reasonForPush N r_37 v4 v5) fun r_54 =>
              if r_54.1 ≤ 0 then (if inB (74 + v4) 602 = true then (Option.bind (some (wa r_54.2 1 (upd (ra r_54.2 1) (Int32.toNatClampNeg (74 + v4)) 0))) fun t_73 =>
                Option.bind (f_beside t_73 v4 v5) fun r_85 =>
                if inB (74 + r_85) 602 = true then (Option.bind (some (wa t_73 1 (upd (ra t_73 1) (Int32.toNatClampNeg (74 + r_85)) 1))) fun t_90 =>
                Option.bind (some (wa t_90 1 (upd (ra t_90 1) (Int32.toNatClampNeg 3) v4))) fun t_98 =>
                if v3 = 0 then (Option.bind (f_finds N t_98 v1 ((4 * v4) + v5) v2) fun r_120 =>
                  some r_120)
                else (Option.bind (f_stuckFor N t_98) fun r_104 =>
                  if r_104.1 = 0 then (Option.bind (f_finds N r_104.2 v1 ((4 * v4) + v5) v2) fun r_120 =>
                    some r_120)
                  else (some r_104.2))) else none) else none)
              else (some r_54.2))) fun (r_46 : xT) =>
          f_visits_L N n 22 v1 v2 v3 v4 (v5 + 1) r_46)
        else (f_visits_L N n 3 v1 v2 v3 (v4 + 1) 0 t)))
    else none
theorem u_visits_3 (N n : Nat) (v1 : Int32) (v2 : Int32) (v3 : Int32) (v4 : Int32) (t : xT) : f_visits_L N (n + 1) 3 v1 v2 v3 v4 0 t = (if (f_size t) ≤ v4 then (some t)
    else (if (rs t 35) = 0 then (f_visits_L N n 22 v1 v2 v3 v4 0 t)
      else (some t))) := rfl
theorem u_visits_22 (N n : Nat) (v1 : Int32) (v2 : Int32) (v3 : Int32) (v4 : Int32) (v5 : Int32) (t : xT) : f_visits_L N (n + 1) 22 v1 v2 v3 v4 v5 t = (if 4 ≤ v5 then (f_visits_L N n 3 v1 v2 v3 (v4 + 1) 0 t)
    else (if (rs t 35) = 0 then (Option.bind (f_takes N t v1) fun r_37 =>
        Option.bind (f_isBox r_37 v4) fun r_43 =>
        Option.bind (if r_43 = 0 then (some r_37)
          else (Option.bind (f_reasonForPush N r_37 v4 v5) fun r_54 =>
            if r_54.1 ≤ 0 then (if inB (74 + v4) 602 = true then (Option.bind (some (wa r_54.2 1 (upd (ra r_54.2 1) (Int32.toNatClampNeg (74 + v4)) 0))) fun t_73 =>
              Option.bind (f_beside t_73 v4 v5) fun r_85 =>
              if inB (74 + r_85) 602 = true then (Option.bind (some (wa t_73 1 (upd (ra t_73 1) (Int32.toNatClampNeg (74 + r_85)) 1))) fun t_90 =>
              Option.bind (some (wa t_90 1 (upd (ra t_90 1) (Int32.toNatClampNeg 3) v4))) fun t_98 =>
              if v3 = 0 then (Option.bind (f_finds N t_98 v1 ((4 * v4) + v5) v2) fun r_120 =>
                some r_120)
              else (Option.bind (f_stuckFor N t_98) fun r_104 =>
                if r_104.1 = 0 then (Option.bind (f_finds N r_104.2 v1 ((4 * v4) + v5) v2) fun r_120 =>
                  some r_120)
                else (some r_104.2))) else none) else none)
            else (some r_54.2))) fun (r_46 : xT) =>
        f_visits_L N n 22 v1 v2 v3 v4 (v5 + 1) r_46)
      else (f_visits_L N n 3 v1 v2 v3 (v4 + 1) 0 t))) := rfl
def f_visits (N : Nat) (t : xT) (a0 : Int32) (a1 : Int32) (a2 : Int32) : Option (xT) :=
  f_visits_L N N 3 a0 a1 a2 0 0 t
theorem d_X12_visits_0 : decode (mB M_X12_visits) 0 = .ok (.iconst 0, 1) := by decide +kernel
theorem d_X12_visits_1 : decode (mB M_X12_visits) 1 = .ok (.istore 4, 2) := by decide +kernel
theorem d_X12_visits_3 : decode (mB M_X12_visits) 3 = .ok (.iload 4, 2) := by decide +kernel
theorem d_X12_visits_5 : decode (mB M_X12_visits) 5 = .ok (.aload_n 0, 1) := by decide +kernel
theorem d_X12_visits_6 : decode (mB M_X12_visits) 6 = .ok (.invokevirtual 130, 3) := by decide +kernel
theorem d_X12_visits_9 : decode (mB M_X12_visits) 9 = .ok (.if_icmp .ge 126, 3) := by decide +kernel
theorem d_X12_visits_12 : decode (mB M_X12_visits) 12 = .ok (.aload_n 0, 1) := by decide +kernel
theorem d_X12_visits_13 : decode (mB M_X12_visits) 13 = .ok (.getfield 269, 3) := by decide +kernel
theorem d_X12_visits_16 : decode (mB M_X12_visits) 16 = .ok (.ifCond .ne 119, 3) := by decide +kernel
theorem d_X12_visits_19 : decode (mB M_X12_visits) 19 = .ok (.iconst 0, 1) := by decide +kernel
theorem d_X12_visits_20 : decode (mB M_X12_visits) 20 = .ok (.istore 5, 2) := by decide +kernel
theorem d_X12_visits_22 : decode (mB M_X12_visits) 22 = .ok (.iload 5, 2) := by decide +kernel
theorem d_X12_visits_24 : decode (mB M_X12_visits) 24 = .ok (.iconst 4, 1) := by decide +kernel
theorem d_X12_visits_25 : decode (mB M_X12_visits) 25 = .ok (.if_icmp .ge 104, 3) := by decide +kernel
theorem d_X12_visits_28 : decode (mB M_X12_visits) 28 = .ok (.aload_n 0, 1) := by decide +kernel
theorem d_X12_visits_29 : decode (mB M_X12_visits) 29 = .ok (.getfield 269, 3) := by decide +kernel
theorem d_X12_visits_32 : decode (mB M_X12_visits) 32 = .ok (.ifCond .ne 97, 3) := by decide +kernel
theorem d_X12_visits_35 : decode (mB M_X12_visits) 35 = .ok (.aload_n 0, 1) := by decide +kernel
theorem d_X12_visits_36 : decode (mB M_X12_visits) 36 = .ok (.iload_n 1, 1) := by decide +kernel
theorem d_X12_visits_37 : decode (mB M_X12_visits) 37 = .ok (.invokevirtual 272, 3) := by decide +kernel
theorem d_X12_visits_40 : decode (mB M_X12_visits) 40 = .ok (.aload_n 0, 1) := by decide +kernel
theorem d_X12_visits_41 : decode (mB M_X12_visits) 41 = .ok (.iload 4, 2) := by decide +kernel
theorem d_X12_visits_43 : decode (mB M_X12_visits) 43 = .ok (.invokevirtual 124, 3) := by decide +kernel
theorem d_X12_visits_46 : decode (mB M_X12_visits) 46 = .ok (.ifCond .eq 77, 3) := by decide +kernel
theorem d_X12_visits_49 : decode (mB M_X12_visits) 49 = .ok (.aload_n 0, 1) := by decide +kernel
theorem d_X12_visits_50 : decode (mB M_X12_visits) 50 = .ok (.iload 4, 2) := by decide +kernel
theorem d_X12_visits_52 : decode (mB M_X12_visits) 52 = .ok (.iload 5, 2) := by decide +kernel
theorem d_X12_visits_54 : decode (mB M_X12_visits) 54 = .ok (.invokevirtual 236, 3) := by decide +kernel
theorem d_X12_visits_57 : decode (mB M_X12_visits) 57 = .ok (.ifCond .le 6, 3) := by decide +kernel
theorem d_X12_visits_60 : decode (mB M_X12_visits) 60 = .ok (.goto 63, 3) := by decide +kernel
theorem d_X12_visits_63 : decode (mB M_X12_visits) 63 = .ok (.aload_n 0, 1) := by decide +kernel
theorem d_X12_visits_64 : decode (mB M_X12_visits) 64 = .ok (.getfield 7, 3) := by decide +kernel
theorem d_X12_visits_67 : decode (mB M_X12_visits) 67 = .ok (.bipush 74, 2) := by decide +kernel
theorem d_X12_visits_69 : decode (mB M_X12_visits) 69 = .ok (.iload 4, 2) := by decide +kernel
theorem d_X12_visits_71 : decode (mB M_X12_visits) 71 = .ok (.iadd, 1) := by decide +kernel
theorem d_X12_visits_72 : decode (mB M_X12_visits) 72 = .ok (.iconst 0, 1) := by decide +kernel
theorem d_X12_visits_73 : decode (mB M_X12_visits) 73 = .ok (.iastore, 1) := by decide +kernel
theorem d_X12_visits_74 : decode (mB M_X12_visits) 74 = .ok (.aload_n 0, 1) := by decide +kernel
theorem d_X12_visits_75 : decode (mB M_X12_visits) 75 = .ok (.getfield 7, 3) := by decide +kernel
theorem d_X12_visits_78 : decode (mB M_X12_visits) 78 = .ok (.bipush 74, 2) := by decide +kernel
theorem d_X12_visits_80 : decode (mB M_X12_visits) 80 = .ok (.aload_n 0, 1) := by decide +kernel
theorem d_X12_visits_81 : decode (mB M_X12_visits) 81 = .ok (.iload 4, 2) := by decide +kernel
theorem d_X12_visits_83 : decode (mB M_X12_visits) 83 = .ok (.iload 5, 2) := by decide +kernel
theorem d_X12_visits_85 : decode (mB M_X12_visits) 85 = .ok (.invokevirtual 136, 3) := by decide +kernel
theorem d_X12_visits_88 : decode (mB M_X12_visits) 88 = .ok (.iadd, 1) := by decide +kernel
theorem d_X12_visits_89 : decode (mB M_X12_visits) 89 = .ok (.iconst 1, 1) := by decide +kernel
theorem d_X12_visits_90 : decode (mB M_X12_visits) 90 = .ok (.iastore, 1) := by decide +kernel
theorem d_X12_visits_91 : decode (mB M_X12_visits) 91 = .ok (.aload_n 0, 1) := by decide +kernel
theorem d_X12_visits_92 : decode (mB M_X12_visits) 92 = .ok (.getfield 7, 3) := by decide +kernel
theorem d_X12_visits_95 : decode (mB M_X12_visits) 95 = .ok (.iconst 3, 1) := by decide +kernel
theorem d_X12_visits_96 : decode (mB M_X12_visits) 96 = .ok (.iload 4, 2) := by decide +kernel
theorem d_X12_visits_98 : decode (mB M_X12_visits) 98 = .ok (.iastore, 1) := by decide +kernel
theorem d_X12_visits_99 : decode (mB M_X12_visits) 99 = .ok (.iload_n 3, 1) := by decide +kernel
theorem d_X12_visits_100 : decode (mB M_X12_visits) 100 = .ok (.ifCond .eq 10, 3) := by decide +kernel
theorem d_X12_visits_103 : decode (mB M_X12_visits) 103 = .ok (.aload_n 0, 1) := by decide +kernel
theorem d_X12_visits_104 : decode (mB M_X12_visits) 104 = .ok (.invokevirtual 188, 3) := by decide +kernel
theorem d_X12_visits_107 : decode (mB M_X12_visits) 107 = .ok (.ifCond .ne 16, 3) := by decide +kernel
theorem d_X12_visits_110 : decode (mB M_X12_visits) 110 = .ok (.aload_n 0, 1) := by decide +kernel
theorem d_X12_visits_111 : decode (mB M_X12_visits) 111 = .ok (.iload_n 1, 1) := by decide +kernel
theorem d_X12_visits_112 : decode (mB M_X12_visits) 112 = .ok (.iconst 4, 1) := by decide +kernel
theorem d_X12_visits_113 : decode (mB M_X12_visits) 113 = .ok (.iload 4, 2) := by decide +kernel
theorem d_X12_visits_115 : decode (mB M_X12_visits) 115 = .ok (.imul, 1) := by decide +kernel
theorem d_X12_visits_116 : decode (mB M_X12_visits) 116 = .ok (.iload 5, 2) := by decide +kernel
theorem d_X12_visits_118 : decode (mB M_X12_visits) 118 = .ok (.iadd, 1) := by decide +kernel
theorem d_X12_visits_119 : decode (mB M_X12_visits) 119 = .ok (.iload_n 2, 1) := by decide +kernel
theorem d_X12_visits_120 : decode (mB M_X12_visits) 120 = .ok (.invokevirtual 275, 3) := by decide +kernel
theorem d_X12_visits_123 : decode (mB M_X12_visits) 123 = .ok (.iinc 5 1, 3) := by decide +kernel
theorem d_X12_visits_126 : decode (mB M_X12_visits) 126 = .ok (.goto (-104), 3) := by decide +kernel
theorem d_X12_visits_129 : decode (mB M_X12_visits) 129 = .ok (.iinc 4 1, 3) := by decide +kernel
theorem d_X12_visits_132 : decode (mB M_X12_visits) 132 = .ok (.goto (-129), 3) := by decide +kernel
theorem d_X12_visits_135 : decode (mB M_X12_visits) 135 = .ok (.return_, 1) := by decide +kernel
theorem l_m_visits {E : mEnv} (hE : E.1.stackTraces = false) (C : List mE) (N : Nat) : ∀ n : Nat, (∀ (v1 : Int32) (v2 : Int32) (v3 : Int32) (v4 : Int32) (t : xT) (r : xT), f_visits_L N n 3 v1 v2 v3 v4 0 t = some r → Go E M_X12_visits 0 (3, [some (.ref 0), some (.int v1), some (.int v2), some (.int v3), some (.int v4), none], [], (mw t, C)) (.inr (.inl (none, (mw r, C))))) ∧ (∀ (v1 : Int32) (v2 : Int32) (v3 : Int32) (v4 : Int32) (v5 : Int32) (t : xT) (r : xT), f_visits_L N n 22 v1 v2 v3 v4 v5 t = some r → Go E M_X12_visits 0 (22, [some (.ref 0), some (.int v1), some (.int v2), some (.int v3), some (.int v4), some (.int v5)], [], (mw t, C)) (.inr (.inl (none, (mw r, C))))) := by
  intro n
  induction n with
  | zero => exact ⟨(fun v1 v2 v3 v4 t r h => by cases h), (fun v1 v2 v3 v4 v5 t r h => by cases h)⟩
  | succ n ih =>
    refine ⟨?_, ?_⟩
    · intro v1 v2 v3 v4 t r h
      rw [u_visits_3] at h
      refine g_iload d_X12_visits_3 rfl ?_
      refine g_aload_n d_X12_visits_5 rfl ?_
      refine g_callV (As := []) d_X12_visits_6 o_X12_size l_X12_130 ⟨Nat.le_of_ble_eq_true rfl, Nat.le_of_ble_eq_true rfl⟩ (c_m_size hE C t) (gm0 t C) rfl rfl rfl rfl rfl ?_ (Nat.zero_add _)
      refine g_icmp_ge (tgt := 135) d_X12_visits_9 (by decide) (fun c_9 => ?_) (fun c_9 => ?_)
      · replace h := opos c_9 h
        obtain rfl := osome h
        exact g_retV d_X12_visits_135 rfl rfl
      · replace h := oneg c_9 h
        refine g_aload_n d_X12_visits_12 rfl ?_
        refine g_getf d_X12_visits_13 f_X12_269 (gm0 t C) rfl ?_
        refine g_if_ne (tgt := 135) d_X12_visits_16 (by decide) (fun c_16 => ?_) (fun c_16 => ?_)
        · replace h := oneg c_16 h
          obtain rfl := osome h
          exact g_retV d_X12_visits_135 rfl rfl
        · replace h := opos c_16 h
          refine g_iconst (v := 0) d_X12_visits_19 (by decide) ?_
          refine g_istore (L' := [some (.ref 0), some (.int v1), some (.int v2), some (.int v3), some (.int v4), some (.int 0)]) d_X12_visits_20 rfl rfl ?_
          exact (ih).2 v1 v2 v3 v4 0 t _ h
    · intro v1 v2 v3 v4 v5 t r h
      rw [u_visits_22] at h
      refine g_iload d_X12_visits_22 rfl ?_
      refine g_iconst (v := 4) d_X12_visits_24 (by decide) ?_
      refine g_icmp_ge (tgt := 129) d_X12_visits_25 (by decide) (fun c_25 => ?_) (fun c_25 => ?_)
      · replace h := opos c_25 h
        refine g_iinc (v := (v4 + 1)) (L' := [some (.ref 0), some (.int v1), some (.int v2), some (.int v3), some (.int (v4 + 1)), some (.int v5)]) d_X12_visits_129 rfl rfl rfl ?_
        refine g_goto (tgt := 3) d_X12_visits_132 (by decide) ?_
        refine g_drop [5] (L1 := [some (.ref 0), some (.int v1), some (.int v2), some (.int v3), some (.int (v4 + 1)), none]) rfl ?_
        exact (ih).1 v1 v2 v3 (v4 + 1) t _ h
      · replace h := oneg c_25 h
        refine g_aload_n d_X12_visits_28 rfl ?_
        refine g_getf d_X12_visits_29 f_X12_269 (gm0 t C) rfl ?_
        refine g_if_ne (tgt := 129) d_X12_visits_32 (by decide) (fun c_32 => ?_) (fun c_32 => ?_)
        · replace h := oneg c_32 h
          refine g_iinc (v := (v4 + 1)) (L' := [some (.ref 0), some (.int v1), some (.int v2), some (.int v3), some (.int (v4 + 1)), some (.int v5)]) d_X12_visits_129 rfl rfl rfl ?_
          refine g_goto (tgt := 3) d_X12_visits_132 (by decide) ?_
          refine g_drop [5] (L1 := [some (.ref 0), some (.int v1), some (.int v2), some (.int v3), some (.int (v4 + 1)), none]) rfl ?_
          exact (ih).1 v1 v2 v3 (v4 + 1) t _ h
        · replace h := opos c_32 h
          refine g_aload_n d_X12_visits_35 rfl ?_
          refine g_iload_n d_X12_visits_36 rfl ?_
          obtain ⟨r_37, h_37, h⟩ := obind h
          refine g_callV (As := [.int v1]) d_X12_visits_37 o_X12_takes l_X12_272 ⟨Nat.le_of_ble_eq_true rfl, Nat.le_of_ble_eq_true rfl⟩ (c_m_takes hE C N t v1 _ h_37) (gm0 t C) rfl rfl rfl rfl rfl ?_ (Nat.zero_add _)
          refine g_aload_n d_X12_visits_40 rfl ?_
          refine g_iload d_X12_visits_41 rfl ?_
          obtain ⟨r_43, h_43, h⟩ := obind h
          refine g_callV (As := [.int v4]) d_X12_visits_43 o_X12_isBox l_X12_124 ⟨Nat.le_of_ble_eq_true rfl, Nat.le_of_ble_eq_true rfl⟩ (c_m_isBox hE C r_37 v4 _ h_43) (gm0 r_37 C) rfl rfl rfl rfl rfl ?_ (Nat.zero_add _)
          obtain ⟨r_46, h_46, hh_46⟩ := obind h
          refine Go.trans0 (S1 := (123, [some (.ref 0), some (.int v1), some (.int v2), some (.int v3), some (.int v4), some (.int v5)], [], (mw r_46, C))) ?_ ?_
          · replace h := h_46
            clear hh_46
            refine g_if_eq (tgt := 123) d_X12_visits_46 (by decide) (fun c_46 => ?_) (fun c_46 => ?_)
            · replace h := opos c_46 h
              obtain rfl := osome h
              exact g_end rfl
            · replace h := oneg c_46 h
              refine g_aload_n d_X12_visits_49 rfl ?_
              refine g_iload d_X12_visits_50 rfl ?_
              refine g_iload d_X12_visits_52 rfl ?_
              obtain ⟨r_54, h_54, h⟩ := obind h
              refine g_callV (As := [.int v4, .int v5]) d_X12_visits_54 o_X12_reasonForPush l_X12_236 ⟨Nat.le_of_ble_eq_true rfl, Nat.le_of_ble_eq_true rfl⟩ (c_m_reasonForPush hE C N r_37 v4 v5 _ h_54) (gm0 r_37 C) rfl rfl rfl rfl rfl ?_ (Nat.zero_add _)
              refine g_if_le (tgt := 63) d_X12_visits_57 (by decide) (fun c_57 => ?_) (fun c_57 => ?_)
              · replace h := opos c_57 h
                refine g_aload_n d_X12_visits_63 rfl ?_
                refine g_getf d_X12_visits_64 f_X12_7 (gm0 r_54.2 C) rfl ?_
                refine g_bipush (v := 74) d_X12_visits_67 (by decide) ?_
                refine g_iload d_X12_visits_69 rfl ?_
                refine g_iadd d_X12_visits_71 ?_
                refine g_iconst (v := 0) d_X12_visits_72 (by decide) ?_
                obtain ⟨i_73, h⟩ := ochk h
                obtain ⟨t_73, e_73, h⟩ := olet h
                refine g_iast (w' := (mw t_73, C)) d_X12_visits_73 (gm_1 r_54.2 C) (inB_in i_73) (by rw [e_73]; exact st_1 r_54.2 C _) ?_
                refine g_aload_n d_X12_visits_74 rfl ?_
                refine g_getf d_X12_visits_75 f_X12_7 (gm0 t_73 C) rfl ?_
                refine g_bipush (v := 74) d_X12_visits_78 (by decide) ?_
                refine g_aload_n d_X12_visits_80 rfl ?_
                refine g_iload d_X12_visits_81 rfl ?_
                refine g_iload d_X12_visits_83 rfl ?_
                obtain ⟨r_85, h_85, h⟩ := obind h
                refine g_callV (As := [.int v4, .int v5]) d_X12_visits_85 o_X12_beside l_X12_136 ⟨Nat.le_of_ble_eq_true rfl, Nat.le_of_ble_eq_true rfl⟩ (c_m_beside hE C t_73 v4 v5 _ h_85) (gm0 t_73 C) rfl rfl rfl rfl rfl ?_ (Nat.zero_add _)
                refine g_iadd d_X12_visits_88 ?_
                refine g_iconst (v := 1) d_X12_visits_89 (by decide) ?_
                obtain ⟨i_90, h⟩ := ochk h
                obtain ⟨t_90, e_90, h⟩ := olet h
                refine g_iast (w' := (mw t_90, C)) d_X12_visits_90 (gm_1 t_73 C) (inB_in i_90) (by rw [e_90]; exact st_1 t_73 C _) ?_
                refine g_aload_n d_X12_visits_91 rfl ?_
                refine g_getf d_X12_visits_92 f_X12_7 (gm0 t_90 C) rfl ?_
                refine g_iconst (v := 3) d_X12_visits_95 (by decide) ?_
                refine g_iload d_X12_visits_96 rfl ?_
                obtain ⟨t_98, e_98, h⟩ := olet h
                refine g_iast (w' := (mw t_98, C)) d_X12_visits_98 (gm_1 t_90 C) (inB_in (by decide)) (by rw [e_98]; exact st_1 t_90 C _) ?_
                refine g_iload_n d_X12_visits_99 rfl ?_
                refine g_if_eq (tgt := 110) d_X12_visits_100 (by decide) (fun c_100 => ?_) (fun c_100 => ?_)
                · replace h := opos c_100 h
                  refine g_aload_n d_X12_visits_110 rfl ?_
                  refine g_iload_n d_X12_visits_111 rfl ?_
                  refine g_iconst (v := 4) d_X12_visits_112 (by decide) ?_
                  refine g_iload d_X12_visits_113 rfl ?_
                  refine g_imul d_X12_visits_115 ?_
                  refine g_iload d_X12_visits_116 rfl ?_
                  refine g_iadd d_X12_visits_118 ?_
                  refine g_iload_n d_X12_visits_119 rfl ?_
                  obtain ⟨r_120, h_120, h⟩ := obind h
                  refine g_callV (As := [.int v1, .int ((4 * v4) + v5), .int v2]) d_X12_visits_120 o_X12_finds l_X12_275 ⟨Nat.le_of_ble_eq_true rfl, Nat.le_of_ble_eq_true rfl⟩ (c_m_finds hE C N t_98 v1 ((4 * v4) + v5) v2 _ h_120) (gm0 t_98 C) rfl rfl rfl rfl rfl ?_ (Nat.zero_add _)
                  obtain rfl := osome h
                  exact g_end rfl
                · replace h := oneg c_100 h
                  refine g_aload_n d_X12_visits_103 rfl ?_
                  obtain ⟨r_104, h_104, h⟩ := obind h
                  refine g_callV (As := []) d_X12_visits_104 o_X12_stuckFor l_X12_188 ⟨Nat.le_of_ble_eq_true rfl, Nat.le_of_ble_eq_true rfl⟩ (c_m_stuckFor hE C N t_98 _ h_104) (gm0 t_98 C) rfl rfl rfl rfl rfl ?_ (Nat.zero_add _)
                  refine g_if_ne (tgt := 123) d_X12_visits_107 (by decide) (fun c_107 => ?_) (fun c_107 => ?_)
                  · replace h := oneg c_107 h
                    obtain rfl := osome h
                    exact g_end rfl
                  · replace h := opos c_107 h
                    refine g_aload_n d_X12_visits_110 rfl ?_
                    refine g_iload_n d_X12_visits_111 rfl ?_
                    refine g_iconst (v := 4) d_X12_visits_112 (by decide) ?_
                    refine g_iload d_X12_visits_113 rfl ?_
                    refine g_imul d_X12_visits_115 ?_
                    refine g_iload d_X12_visits_116 rfl ?_
                    refine g_iadd d_X12_visits_118 ?_
                    refine g_iload_n d_X12_visits_119 rfl ?_
                    obtain ⟨r_120, h_120, h⟩ := obind h
                    refine g_callV (As := [.int v1, .int ((4 * v4) + v5), .int v2]) d_X12_visits_120 o_X12_finds l_X12_275 ⟨Nat.le_of_ble_eq_true rfl, Nat.le_of_ble_eq_true rfl⟩ (c_m_finds hE C N r_104.2 v1 ((4 * v4) + v5) v2 _ h_120) (gm0 r_104.2 C) rfl rfl rfl rfl rfl ?_ (Nat.zero_add _)
                    obtain rfl := osome h
                    exact g_end rfl
              · replace h := oneg c_57 h
                refine g_goto (tgt := 123) d_X12_visits_60 (by decide) ?_
                obtain rfl := osome h
                exact g_end rfl
          replace h := hh_46
          refine g_iinc (v := (v5 + 1)) (L' := [some (.ref 0), some (.int v1), some (.int v2), some (.int v3), some (.int v4), some (.int (v5 + 1))]) d_X12_visits_123 rfl rfl rfl ?_
          refine g_goto (tgt := 22) d_X12_visits_126 (by decide) ?_
          exact (ih).2 v1 v2 v3 v4 (v5 + 1) r_46 _ h
theorem c_m_visits {E : mEnv} (hE : E.1.stackTraces = false) (C : List mE) (N : Nat) (t : xT) (a0 : Int32) (a1 : Int32) (a2 : Int32) (r : xT) (h : f_visits N t a0 a1 a2 = some r) : Rt E M_X12_visits 0 [.ref 0, .int a0, .int a1, .int a2] (mw t, C) none (mw r, C) := by
  unfold f_visits at h
  refine Rt.of hE rfl pn_X12 (Nat.le_of_ble_eq_true rfl) ?_
  refine g_eq (S' := (0, [some (.ref 0), some (.int a0), some (.int a1), some (.int a2), none, none], [], (mw t, C))) rfl ?_
  refine g_iconst (v := 0) d_X12_visits_0 (by decide) ?_
  refine g_istore (L' := [some (.ref 0), some (.int a0), some (.int a1), some (.int a2), some (.int 0), none]) d_X12_visits_1 rfl rfl ?_
  exact (l_m_visits hE C N N).1 a0 a1 a2 0 t _ h
def f_searches_L (N : Nat) : Nat → Nat → Int32 → Int32 → Int32 → Int32 → Int32 → Int32 → xT → Option (Int32 × xT)
  | 0, _, _, _, _, _, _, _, _ => none
  | n + 1, p, v1, v2, v3, v4, v5, v6, t =>
    if p = 30 then (if v4 = 0 then (if (rs t 31) ≤ v3 then (Option.bind (f_goesBack N t) fun r_80 =>
          if v4 = 0 then (Option.bind (if (rs r_80 35) = 1 then (some (3 : Int32))
              else (some (4 : Int32))) fun (r_93 : Int32) =>
            some (r_93, r_80))
          else (Option.bind (some (ws r_80 34 (rs r_80 31))) fun t_107 =>
            Option.bind (some (ws t_107 33 0)) fun t_112 =>
            f_searches_L N n 118 0 0 v3 0 v3 0 t_112))
        else (if (rs t 35) = 0 then (Option.bind (f_takes N t v3) fun r_52 =>
            Option.bind (f_isSolved N r_52) fun r_56 =>
            if r_56 = 0 then (Option.bind (f_visits N r_52 v3 v1 v2) fun r_70 =>
              f_searches_L N n 30 v1 v2 (v3 + 1) r_56 0 0 r_70)
            else (f_searches_L N n 30 v1 v2 v3 r_56 0 0 r_52))
          else (Option.bind (f_goesBack N t) fun r_80 =>
            if v4 = 0 then (Option.bind (if (rs r_80 35) = 1 then (some (3 : Int32))
                else (some (4 : Int32))) fun (r_93 : Int32) =>
              some (r_93, r_80))
            else (Option.bind (some (ws r_80 34 (rs r_80 31))) fun t_107 =>
              Option.bind (some (ws t_107 33 0)) fun t_112 =>
              f_searches_L N n 118 0 0 v3 0 v3 0 t_112))))
      else (Option.bind (f_goesBack N t) fun r_80 =>
        if v4 = 0 then (Option.bind (if (rs r_80 35) = 1 then (some (3 : Int32))
            else (some (4 : Int32))) fun (r_93 : Int32) =>
          some (r_93, r_80))
        else (Option.bind (some (ws r_80 34 (rs r_80 31))) fun t_107 =>
          Option.bind (some (ws t_107 33 0)) fun t_112 =>
          f_searches_L N n 118 0 0 v3 0 v3 0 t_112)))
    else if p = 118 then (if inB v5 1000 = true then (if ((ra t 16) (Int32.toNatClampNeg v5)) < 0 then (f_searches_L N n 159 0 0 0 0 (rs t 33) v3 t)
      else (Option.bind (some (ws t 33 ((rs t 33) + 1))) fun t_135 =>
        if inB v5 1000 = true then (f_searches_L N n 118 0 0 v3 0 ((ra t_135 16) (Int32.toNatClampNeg v5)) 0 t_135) else none)) else none)
    else if p = 159 then (if inB v6 1000 = true then (if ((ra t 16) (Int32.toNatClampNeg v6)) < 0 then (some ((0 : Int32), t))
      else (if inB v6 1000 = true then (if inB (v5 + (-1)) 1000 = true then (Option.bind (some (wa t 18 (upd (ra t 18) (Int32.toNatClampNeg (v5 + (-1))) ((ra t 17) (Int32.toNatClampNeg v6))))) fun t_185 =>
        if inB v6 1000 = true then (f_searches_L N n 159 0 0 0 0 (v5 + (-1)) ((ra t_185 16) (Int32.toNatClampNeg v6)) t_185) else none) else none) else none)) else none)
    else none
theorem u_searches_30 (N n : Nat) (v1 : Int32) (v2 : Int32) (v3 : Int32) (v4 : Int32) (t : xT) : f_searches_L N (n + 1) 30 v1 v2 v3 v4 0 0 t = (if v4 = 0 then (if (rs t 31) ≤ v3 then (Option.bind (f_goesBack N t) fun r_80 =>
        if v4 = 0 then (Option.bind (if (rs r_80 35) = 1 then (some (3 : Int32))
            else (some (4 : Int32))) fun (r_93 : Int32) =>
          some (r_93, r_80))
        else (Option.bind (some (ws r_80 34 (rs r_80 31))) fun t_107 =>
          Option.bind (some (ws t_107 33 0)) fun t_112 =>
          f_searches_L N n 118 0 0 v3 0 v3 0 t_112))
      else (if (rs t 35) = 0 then (Option.bind (f_takes N t v3) fun r_52 =>
          Option.bind (f_isSolved N r_52) fun r_56 =>
          if r_56 = 0 then (Option.bind (f_visits N r_52 v3 v1 v2) fun r_70 =>
            f_searches_L N n 30 v1 v2 (v3 + 1) r_56 0 0 r_70)
          else (f_searches_L N n 30 v1 v2 v3 r_56 0 0 r_52))
        else (Option.bind (f_goesBack N t) fun r_80 =>
          if v4 = 0 then (Option.bind (if (rs r_80 35) = 1 then (some (3 : Int32))
              else (some (4 : Int32))) fun (r_93 : Int32) =>
            some (r_93, r_80))
          else (Option.bind (some (ws r_80 34 (rs r_80 31))) fun t_107 =>
            Option.bind (some (ws t_107 33 0)) fun t_112 =>
            f_searches_L N n 118 0 0 v3 0 v3 0 t_112))))
    else (Option.bind (f_goesBack N t) fun r_80 =>
      if v4 = 0 then (Option.bind (if (rs r_80 35) = 1 then (some (3 : Int32))
          else (some (4 : Int32))) fun (r_93 : Int32) =>
        some (r_93, r_80))
      else (Option.bind (some (ws r_80 34 (rs r_80 31))) fun t_107 =>
        Option.bind (some (ws t_107 33 0)) fun t_112 =>
        f_searches_L N n 118 0 0 v3 0 v3 0 t_112))) := rfl
theorem u_searches_118 (N n : Nat) (v3 : Int32) (v5 : Int32) (t : xT) : f_searches_L N (n + 1) 118 0 0 v3 0 v5 0 t = (if inB v5 1000 = true then (if ((ra t 16) (Int32.toNatClampNeg v5)) < 0 then (f_searches_L N n 159 0 0 0 0 (rs t 33) v3 t)
    else (Option.bind (some (ws t 33 ((rs t 33) + 1))) fun t_135 =>
      if inB v5 1000 = true then (f_searches_L N n 118 0 0 v3 0 ((ra t_135 16) (Int32.toNatClampNeg v5)) 0 t_135) else none)) else none) := rfl
theorem u_searches_159 (N n : Nat) (v5 : Int32) (v6 : Int32) (t : xT) : f_searches_L N (n + 1) 159 0 0 0 0 v5 v6 t = (if inB v6 1000 = true then (if ((ra t 16) (Int32.toNatClampNeg v6)) < 0 then (some ((0 : Int32), t))
    else (if inB v6 1000 = true then (if inB (v5 + (-1)) 1000 = true then (Option.bind (some (wa t 18 (upd (ra t 18) (Int32.toNatClampNeg (v5 + (-1))) ((ra t 17) (Int32.toNatClampNeg v6))))) fun t_185 =>
      if inB v6 1000 = true then (f_searches_L N n 159 0 0 0 0 (v5 + (-1)) ((ra t_185 16) (Int32.toNatClampNeg v6)) t_185) else none) else none) else none)) else none) := rfl
def f_searches (N : Nat) (t : xT) (a0 : Int32) (a1 : Int32) : Option (Int32 × xT) :=
  Option.bind (f_remembers N t) fun r_1 =>
  Option.bind (f_dies N r_1) fun r_5 =>
  Option.bind (some (ws r_5 31 0)) fun t_10 =>
  Option.bind (some (ws t_10 35 0)) fun t_15 =>
  Option.bind (f_finds N t_15 (-1) (-1) a0) fun r_22 =>
  f_searches_L N N 30 a0 a1 0 0 0 0 r_22
theorem d_X12_searches_0 : decode (mB M_X12_searches) 0 = .ok (.aload_n 0, 1) := by decide +kernel
theorem d_X12_searches_1 : decode (mB M_X12_searches) 1 = .ok (.invokevirtual 221, 3) := by decide +kernel
theorem d_X12_searches_4 : decode (mB M_X12_searches) 4 = .ok (.aload_n 0, 1) := by decide +kernel
theorem d_X12_searches_5 : decode (mB M_X12_searches) 5 = .ok (.invokevirtual 160, 3) := by decide +kernel
theorem d_X12_searches_8 : decode (mB M_X12_searches) 8 = .ok (.aload_n 0, 1) := by decide +kernel
theorem d_X12_searches_9 : decode (mB M_X12_searches) 9 = .ok (.iconst 0, 1) := by decide +kernel
theorem d_X12_searches_10 : decode (mB M_X12_searches) 10 = .ok (.putfield 266, 3) := by decide +kernel
theorem d_X12_searches_13 : decode (mB M_X12_searches) 13 = .ok (.aload_n 0, 1) := by decide +kernel
theorem d_X12_searches_14 : decode (mB M_X12_searches) 14 = .ok (.iconst 0, 1) := by decide +kernel
theorem d_X12_searches_15 : decode (mB M_X12_searches) 15 = .ok (.putfield 269, 3) := by decide +kernel
theorem d_X12_searches_18 : decode (mB M_X12_searches) 18 = .ok (.aload_n 0, 1) := by decide +kernel
theorem d_X12_searches_19 : decode (mB M_X12_searches) 19 = .ok (.iconst (-1), 1) := by decide +kernel
theorem d_X12_searches_20 : decode (mB M_X12_searches) 20 = .ok (.iconst (-1), 1) := by decide +kernel
theorem d_X12_searches_21 : decode (mB M_X12_searches) 21 = .ok (.iload_n 1, 1) := by decide +kernel
theorem d_X12_searches_22 : decode (mB M_X12_searches) 22 = .ok (.invokevirtual 275, 3) := by decide +kernel
theorem d_X12_searches_25 : decode (mB M_X12_searches) 25 = .ok (.iconst 0, 1) := by decide +kernel
theorem d_X12_searches_26 : decode (mB M_X12_searches) 26 = .ok (.istore_n 3, 1) := by decide +kernel
theorem d_X12_searches_27 : decode (mB M_X12_searches) 27 = .ok (.iconst 0, 1) := by decide +kernel
theorem d_X12_searches_28 : decode (mB M_X12_searches) 28 = .ok (.istore 4, 2) := by decide +kernel
theorem d_X12_searches_30 : decode (mB M_X12_searches) 30 = .ok (.iload 4, 2) := by decide +kernel
theorem d_X12_searches_32 : decode (mB M_X12_searches) 32 = .ok (.ifCond .ne 47, 3) := by decide +kernel
theorem d_X12_searches_35 : decode (mB M_X12_searches) 35 = .ok (.iload_n 3, 1) := by decide +kernel
theorem d_X12_searches_36 : decode (mB M_X12_searches) 36 = .ok (.aload_n 0, 1) := by decide +kernel
theorem d_X12_searches_37 : decode (mB M_X12_searches) 37 = .ok (.getfield 266, 3) := by decide +kernel
theorem d_X12_searches_40 : decode (mB M_X12_searches) 40 = .ok (.if_icmp .ge 39, 3) := by decide +kernel
theorem d_X12_searches_43 : decode (mB M_X12_searches) 43 = .ok (.aload_n 0, 1) := by decide +kernel
theorem d_X12_searches_44 : decode (mB M_X12_searches) 44 = .ok (.getfield 269, 3) := by decide +kernel
theorem d_X12_searches_47 : decode (mB M_X12_searches) 47 = .ok (.ifCond .ne 32, 3) := by decide +kernel
theorem d_X12_searches_50 : decode (mB M_X12_searches) 50 = .ok (.aload_n 0, 1) := by decide +kernel
theorem d_X12_searches_51 : decode (mB M_X12_searches) 51 = .ok (.iload_n 3, 1) := by decide +kernel
theorem d_X12_searches_52 : decode (mB M_X12_searches) 52 = .ok (.invokevirtual 272, 3) := by decide +kernel
theorem d_X12_searches_55 : decode (mB M_X12_searches) 55 = .ok (.aload_n 0, 1) := by decide +kernel
theorem d_X12_searches_56 : decode (mB M_X12_searches) 56 = .ok (.invokevirtual 182, 3) := by decide +kernel
theorem d_X12_searches_59 : decode (mB M_X12_searches) 59 = .ok (.istore 4, 2) := by decide +kernel
theorem d_X12_searches_61 : decode (mB M_X12_searches) 61 = .ok (.iload 4, 2) := by decide +kernel
theorem d_X12_searches_63 : decode (mB M_X12_searches) 63 = .ok (.ifCond .ne (-33), 3) := by decide +kernel
theorem d_X12_searches_66 : decode (mB M_X12_searches) 66 = .ok (.aload_n 0, 1) := by decide +kernel
theorem d_X12_searches_67 : decode (mB M_X12_searches) 67 = .ok (.iload_n 3, 1) := by decide +kernel
theorem d_X12_searches_68 : decode (mB M_X12_searches) 68 = .ok (.iload_n 1, 1) := by decide +kernel
theorem d_X12_searches_69 : decode (mB M_X12_searches) 69 = .ok (.iload_n 2, 1) := by decide +kernel
theorem d_X12_searches_70 : decode (mB M_X12_searches) 70 = .ok (.invokevirtual 279, 3) := by decide +kernel
theorem d_X12_searches_73 : decode (mB M_X12_searches) 73 = .ok (.iinc 3 1, 3) := by decide +kernel
theorem d_X12_searches_76 : decode (mB M_X12_searches) 76 = .ok (.goto (-46), 3) := by decide +kernel
theorem d_X12_searches_79 : decode (mB M_X12_searches) 79 = .ok (.aload_n 0, 1) := by decide +kernel
theorem d_X12_searches_80 : decode (mB M_X12_searches) 80 = .ok (.invokevirtual 243, 3) := by decide +kernel
theorem d_X12_searches_83 : decode (mB M_X12_searches) 83 = .ok (.iload 4, 2) := by decide +kernel
theorem d_X12_searches_85 : decode (mB M_X12_searches) 85 = .ok (.ifCond .ne 17, 3) := by decide +kernel
theorem d_X12_searches_88 : decode (mB M_X12_searches) 88 = .ok (.aload_n 0, 1) := by decide +kernel
theorem d_X12_searches_89 : decode (mB M_X12_searches) 89 = .ok (.getfield 269, 3) := by decide +kernel
theorem d_X12_searches_92 : decode (mB M_X12_searches) 92 = .ok (.iconst 1, 1) := by decide +kernel
theorem d_X12_searches_93 : decode (mB M_X12_searches) 93 = .ok (.if_icmp .ne 7, 3) := by decide +kernel
theorem d_X12_searches_96 : decode (mB M_X12_searches) 96 = .ok (.iconst 3, 1) := by decide +kernel
theorem d_X12_searches_97 : decode (mB M_X12_searches) 97 = .ok (.goto 4, 3) := by decide +kernel
theorem d_X12_searches_100 : decode (mB M_X12_searches) 100 = .ok (.iconst 4, 1) := by decide +kernel
theorem d_X12_searches_101 : decode (mB M_X12_searches) 101 = .ok (.ireturn, 1) := by decide +kernel
theorem d_X12_searches_102 : decode (mB M_X12_searches) 102 = .ok (.aload_n 0, 1) := by decide +kernel
theorem d_X12_searches_103 : decode (mB M_X12_searches) 103 = .ok (.aload_n 0, 1) := by decide +kernel
theorem d_X12_searches_104 : decode (mB M_X12_searches) 104 = .ok (.getfield 266, 3) := by decide +kernel
theorem d_X12_searches_107 : decode (mB M_X12_searches) 107 = .ok (.putfield 283, 3) := by decide +kernel
theorem d_X12_searches_110 : decode (mB M_X12_searches) 110 = .ok (.aload_n 0, 1) := by decide +kernel
theorem d_X12_searches_111 : decode (mB M_X12_searches) 111 = .ok (.iconst 0, 1) := by decide +kernel
theorem d_X12_searches_112 : decode (mB M_X12_searches) 112 = .ok (.putfield 70, 3) := by decide +kernel
theorem d_X12_searches_115 : decode (mB M_X12_searches) 115 = .ok (.iload_n 3, 1) := by decide +kernel
theorem d_X12_searches_116 : decode (mB M_X12_searches) 116 = .ok (.istore 5, 2) := by decide +kernel
theorem d_X12_searches_118 : decode (mB M_X12_searches) 118 = .ok (.aload_n 0, 1) := by decide +kernel
theorem d_X12_searches_119 : decode (mB M_X12_searches) 119 = .ok (.getfield 61, 3) := by decide +kernel
theorem d_X12_searches_122 : decode (mB M_X12_searches) 122 = .ok (.iload 5, 2) := by decide +kernel
theorem d_X12_searches_124 : decode (mB M_X12_searches) 124 = .ok (.iaload, 1) := by decide +kernel
theorem d_X12_searches_125 : decode (mB M_X12_searches) 125 = .ok (.ifCond .lt 25, 3) := by decide +kernel
theorem d_X12_searches_128 : decode (mB M_X12_searches) 128 = .ok (.aload_n 0, 1) := by decide +kernel
theorem d_X12_searches_129 : decode (mB M_X12_searches) 129 = .ok (.dup, 1) := by decide +kernel
theorem d_X12_searches_130 : decode (mB M_X12_searches) 130 = .ok (.getfield 70, 3) := by decide +kernel
theorem d_X12_searches_133 : decode (mB M_X12_searches) 133 = .ok (.iconst 1, 1) := by decide +kernel
theorem d_X12_searches_134 : decode (mB M_X12_searches) 134 = .ok (.iadd, 1) := by decide +kernel
theorem d_X12_searches_135 : decode (mB M_X12_searches) 135 = .ok (.putfield 70, 3) := by decide +kernel
theorem d_X12_searches_138 : decode (mB M_X12_searches) 138 = .ok (.aload_n 0, 1) := by decide +kernel
theorem d_X12_searches_139 : decode (mB M_X12_searches) 139 = .ok (.getfield 61, 3) := by decide +kernel
theorem d_X12_searches_142 : decode (mB M_X12_searches) 142 = .ok (.iload 5, 2) := by decide +kernel
theorem d_X12_searches_144 : decode (mB M_X12_searches) 144 = .ok (.iaload, 1) := by decide +kernel
theorem d_X12_searches_145 : decode (mB M_X12_searches) 145 = .ok (.istore 5, 2) := by decide +kernel
theorem d_X12_searches_147 : decode (mB M_X12_searches) 147 = .ok (.goto (-29), 3) := by decide +kernel
theorem d_X12_searches_150 : decode (mB M_X12_searches) 150 = .ok (.aload_n 0, 1) := by decide +kernel
theorem d_X12_searches_151 : decode (mB M_X12_searches) 151 = .ok (.getfield 70, 3) := by decide +kernel
theorem d_X12_searches_154 : decode (mB M_X12_searches) 154 = .ok (.istore 5, 2) := by decide +kernel
theorem d_X12_searches_156 : decode (mB M_X12_searches) 156 = .ok (.iload_n 3, 1) := by decide +kernel
theorem d_X12_searches_157 : decode (mB M_X12_searches) 157 = .ok (.istore 6, 2) := by decide +kernel
theorem d_X12_searches_159 : decode (mB M_X12_searches) 159 = .ok (.aload_n 0, 1) := by decide +kernel
theorem d_X12_searches_160 : decode (mB M_X12_searches) 160 = .ok (.getfield 61, 3) := by decide +kernel
theorem d_X12_searches_163 : decode (mB M_X12_searches) 163 = .ok (.iload 6, 2) := by decide +kernel
theorem d_X12_searches_165 : decode (mB M_X12_searches) 165 = .ok (.iaload, 1) := by decide +kernel
theorem d_X12_searches_166 : decode (mB M_X12_searches) 166 = .ok (.ifCond .lt 32, 3) := by decide +kernel
theorem d_X12_searches_169 : decode (mB M_X12_searches) 169 = .ok (.iinc 5 (-1), 3) := by decide +kernel
theorem d_X12_searches_172 : decode (mB M_X12_searches) 172 = .ok (.aload_n 0, 1) := by decide +kernel
theorem d_X12_searches_173 : decode (mB M_X12_searches) 173 = .ok (.getfield 67, 3) := by decide +kernel
theorem d_X12_searches_176 : decode (mB M_X12_searches) 176 = .ok (.iload 5, 2) := by decide +kernel
theorem d_X12_searches_178 : decode (mB M_X12_searches) 178 = .ok (.aload_n 0, 1) := by decide +kernel
theorem d_X12_searches_179 : decode (mB M_X12_searches) 179 = .ok (.getfield 64, 3) := by decide +kernel
theorem d_X12_searches_182 : decode (mB M_X12_searches) 182 = .ok (.iload 6, 2) := by decide +kernel
theorem d_X12_searches_184 : decode (mB M_X12_searches) 184 = .ok (.iaload, 1) := by decide +kernel
theorem d_X12_searches_185 : decode (mB M_X12_searches) 185 = .ok (.iastore, 1) := by decide +kernel
theorem d_X12_searches_186 : decode (mB M_X12_searches) 186 = .ok (.aload_n 0, 1) := by decide +kernel
theorem d_X12_searches_187 : decode (mB M_X12_searches) 187 = .ok (.getfield 61, 3) := by decide +kernel
theorem d_X12_searches_190 : decode (mB M_X12_searches) 190 = .ok (.iload 6, 2) := by decide +kernel
theorem d_X12_searches_192 : decode (mB M_X12_searches) 192 = .ok (.iaload, 1) := by decide +kernel
theorem d_X12_searches_193 : decode (mB M_X12_searches) 193 = .ok (.istore 6, 2) := by decide +kernel
theorem d_X12_searches_195 : decode (mB M_X12_searches) 195 = .ok (.goto (-36), 3) := by decide +kernel
theorem d_X12_searches_198 : decode (mB M_X12_searches) 198 = .ok (.iconst 0, 1) := by decide +kernel
theorem d_X12_searches_199 : decode (mB M_X12_searches) 199 = .ok (.ireturn, 1) := by decide +kernel
theorem l_m_searches {E : mEnv} (hE : E.1.stackTraces = false) (C : List mE) (N : Nat) : ∀ n : Nat, (∀ (v1 : Int32) (v2 : Int32) (v3 : Int32) (v4 : Int32) (t : xT) (r : Int32 × xT), f_searches_L N n 30 v1 v2 v3 v4 0 0 t = some r → Go E M_X12_searches 0 (30, [some (.ref 0), some (.int v1), some (.int v2), some (.int v3), some (.int v4), none, none], [], (mw t, C)) (.inr (.inl (some (.int r.1), (mw r.2, C))))) ∧ (∀ (v3 : Int32) (v5 : Int32) (t : xT) (r : Int32 × xT), f_searches_L N n 118 0 0 v3 0 v5 0 t = some r → Go E M_X12_searches 0 (118, [some (.ref 0), none, none, some (.int v3), none, some (.int v5), none], [], (mw t, C)) (.inr (.inl (some (.int r.1), (mw r.2, C))))) ∧ (∀ (v5 : Int32) (v6 : Int32) (t : xT) (r : Int32 × xT), f_searches_L N n 159 0 0 0 0 v5 v6 t = some r → Go E M_X12_searches 0 (159, [some (.ref 0), none, none, none, none, some (.int v5), some (.int v6)], [], (mw t, C)) (.inr (.inl (some (.int r.1), (mw r.2, C))))) := by
  intro n
  induction n with
  | zero => exact ⟨(fun v1 v2 v3 v4 t r h => by cases h), (fun v3 v5 t r h => by cases h), (fun v5 v6 t r h => by cases h)⟩
  | succ n ih =>
    refine ⟨?_, ?_, ?_⟩
    · intro v1 v2 v3 v4 t r h
      rw [u_searches_30] at h
      refine g_iload d_X12_searches_30 rfl ?_
      refine g_if_ne (tgt := 79) d_X12_searches_32 (by decide) (fun c_32 => ?_) (fun c_32 => ?_)
      · replace h := oneg c_32 h
        refine g_aload_n d_X12_searches_79 rfl ?_
        obtain ⟨r_80, h_80, h⟩ := obind h
        refine g_callV (As := []) d_X12_searches_80 o_X12_goesBack l_X12_243 ⟨Nat.le_of_ble_eq_true rfl, Nat.le_of_ble_eq_true rfl⟩ (c_m_goesBack hE C N t _ h_80) (gm0 t C) rfl rfl rfl rfl rfl ?_ (Nat.zero_add _)
        refine g_iload d_X12_searches_83 rfl ?_
        refine g_if_ne (tgt := 102) d_X12_searches_85 (by decide) (fun c_85 => ?_) (fun c_85 => ?_)
        · replace h := oneg c_85 h
          refine g_aload_n d_X12_searches_102 rfl ?_
          refine g_aload_n d_X12_searches_103 rfl ?_
          refine g_getf d_X12_searches_104 f_X12_266 (gm0 r_80 C) rfl ?_
          obtain ⟨t_107, e_107, h⟩ := olet h
          refine g_putI (w' := (mw t_107, C)) d_X12_searches_107 p_X12_283 rfl rfl (gm0 r_80 C) (Nat.le_of_ble_eq_true rfl) (by rw [e_107]; exact sc_34 r_80 C _) ?_
          refine g_aload_n d_X12_searches_110 rfl ?_
          refine g_iconst (v := 0) d_X12_searches_111 (by decide) ?_
          obtain ⟨t_112, e_112, h⟩ := olet h
          refine g_putI (w' := (mw t_112, C)) d_X12_searches_112 p_X12_70 rfl rfl (gm0 t_107 C) (Nat.le_of_ble_eq_true rfl) (by rw [e_112]; exact sc_33 t_107 C _) ?_
          refine g_iload_n d_X12_searches_115 rfl ?_
          refine g_istore (L' := [some (.ref 0), some (.int v1), some (.int v2), some (.int v3), some (.int v4), some (.int v3), none]) d_X12_searches_116 rfl rfl ?_
          refine g_drop [1, 2, 4] (L1 := [some (.ref 0), none, none, some (.int v3), none, some (.int v3), none]) rfl ?_
          exact (ih).2.1 v3 v3 t_112 _ h
        · replace h := opos c_85 h
          refine g_aload_n d_X12_searches_88 rfl ?_
          refine g_getf d_X12_searches_89 f_X12_269 (gm0 r_80 C) rfl ?_
          refine g_iconst (v := 1) d_X12_searches_92 (by decide) ?_
          obtain ⟨r_93, h_93, hh_93⟩ := obind h
          refine Go.trans0 (S1 := (101, [none, none, none, none, none, none, none], [.int r_93], (mw r_80, C))) ?_ ?_
          · replace h := h_93
            clear hh_93
            refine g_icmp_ne (tgt := 100) d_X12_searches_93 (by decide) (fun c_93 => ?_) (fun c_93 => ?_)
            · replace h := oneg c_93 h
              refine g_iconst (v := 4) d_X12_searches_100 (by decide) ?_
              obtain rfl := osome h
              exact g_drop [0, 1, 2, 3, 4] rfl (g_end rfl)
            · replace h := opos c_93 h
              refine g_iconst (v := 3) d_X12_searches_96 (by decide) ?_
              refine g_goto (tgt := 101) d_X12_searches_97 (by decide) ?_
              obtain rfl := osome h
              exact g_drop [0, 1, 2, 3, 4] rfl (g_end rfl)
          replace h := hh_93
          obtain rfl := osome h
          exact g_retI d_X12_searches_101 rfl rfl rfl
      · replace h := opos c_32 h
        refine g_iload_n d_X12_searches_35 rfl ?_
        refine g_aload_n d_X12_searches_36 rfl ?_
        refine g_getf d_X12_searches_37 f_X12_266 (gm0 t C) rfl ?_
        refine g_icmp_ge (tgt := 79) d_X12_searches_40 (by decide) (fun c_40 => ?_) (fun c_40 => ?_)
        · replace h := opos c_40 h
          refine g_aload_n d_X12_searches_79 rfl ?_
          obtain ⟨r_80, h_80, h⟩ := obind h
          refine g_callV (As := []) d_X12_searches_80 o_X12_goesBack l_X12_243 ⟨Nat.le_of_ble_eq_true rfl, Nat.le_of_ble_eq_true rfl⟩ (c_m_goesBack hE C N t _ h_80) (gm0 t C) rfl rfl rfl rfl rfl ?_ (Nat.zero_add _)
          refine g_iload d_X12_searches_83 rfl ?_
          refine g_if_ne (tgt := 102) d_X12_searches_85 (by decide) (fun c_85 => ?_) (fun c_85 => ?_)
          · replace h := oneg c_85 h
            refine g_aload_n d_X12_searches_102 rfl ?_
            refine g_aload_n d_X12_searches_103 rfl ?_
            refine g_getf d_X12_searches_104 f_X12_266 (gm0 r_80 C) rfl ?_
            obtain ⟨t_107, e_107, h⟩ := olet h
            refine g_putI (w' := (mw t_107, C)) d_X12_searches_107 p_X12_283 rfl rfl (gm0 r_80 C) (Nat.le_of_ble_eq_true rfl) (by rw [e_107]; exact sc_34 r_80 C _) ?_
            refine g_aload_n d_X12_searches_110 rfl ?_
            refine g_iconst (v := 0) d_X12_searches_111 (by decide) ?_
            obtain ⟨t_112, e_112, h⟩ := olet h
            refine g_putI (w' := (mw t_112, C)) d_X12_searches_112 p_X12_70 rfl rfl (gm0 t_107 C) (Nat.le_of_ble_eq_true rfl) (by rw [e_112]; exact sc_33 t_107 C _) ?_
            refine g_iload_n d_X12_searches_115 rfl ?_
            refine g_istore (L' := [some (.ref 0), some (.int v1), some (.int v2), some (.int v3), some (.int v4), some (.int v3), none]) d_X12_searches_116 rfl rfl ?_
            refine g_drop [1, 2, 4] (L1 := [some (.ref 0), none, none, some (.int v3), none, some (.int v3), none]) rfl ?_
            exact (ih).2.1 v3 v3 t_112 _ h
          · replace h := opos c_85 h
            refine g_aload_n d_X12_searches_88 rfl ?_
            refine g_getf d_X12_searches_89 f_X12_269 (gm0 r_80 C) rfl ?_
            refine g_iconst (v := 1) d_X12_searches_92 (by decide) ?_
            obtain ⟨r_93, h_93, hh_93⟩ := obind h
            refine Go.trans0 (S1 := (101, [none, none, none, none, none, none, none], [.int r_93], (mw r_80, C))) ?_ ?_
            · replace h := h_93
              clear hh_93
              refine g_icmp_ne (tgt := 100) d_X12_searches_93 (by decide) (fun c_93 => ?_) (fun c_93 => ?_)
              · replace h := oneg c_93 h
                refine g_iconst (v := 4) d_X12_searches_100 (by decide) ?_
                obtain rfl := osome h
                exact g_drop [0, 1, 2, 3, 4] rfl (g_end rfl)
              · replace h := opos c_93 h
                refine g_iconst (v := 3) d_X12_searches_96 (by decide) ?_
                refine g_goto (tgt := 101) d_X12_searches_97 (by decide) ?_
                obtain rfl := osome h
                exact g_drop [0, 1, 2, 3, 4] rfl (g_end rfl)
            replace h := hh_93
            obtain rfl := osome h
            exact g_retI d_X12_searches_101 rfl rfl rfl
        · replace h := oneg c_40 h
          refine g_aload_n d_X12_searches_43 rfl ?_
          refine g_getf d_X12_searches_44 f_X12_269 (gm0 t C) rfl ?_
          refine g_if_ne (tgt := 79) d_X12_searches_47 (by decide) (fun c_47 => ?_) (fun c_47 => ?_)
          · replace h := oneg c_47 h
            refine g_aload_n d_X12_searches_79 rfl ?_
            obtain ⟨r_80, h_80, h⟩ := obind h
            refine g_callV (As := []) d_X12_searches_80 o_X12_goesBack l_X12_243 ⟨Nat.le_of_ble_eq_true rfl, Nat.le_of_ble_eq_true rfl⟩ (c_m_goesBack hE C N t _ h_80) (gm0 t C) rfl rfl rfl rfl rfl ?_ (Nat.zero_add _)
            refine g_iload d_X12_searches_83 rfl ?_
            refine g_if_ne (tgt := 102) d_X12_searches_85 (by decide) (fun c_85 => ?_) (fun c_85 => ?_)
            · replace h := oneg c_85 h
              refine g_aload_n d_X12_searches_102 rfl ?_
              refine g_aload_n d_X12_searches_103 rfl ?_
              refine g_getf d_X12_searches_104 f_X12_266 (gm0 r_80 C) rfl ?_
              obtain ⟨t_107, e_107, h⟩ := olet h
              refine g_putI (w' := (mw t_107, C)) d_X12_searches_107 p_X12_283 rfl rfl (gm0 r_80 C) (Nat.le_of_ble_eq_true rfl) (by rw [e_107]; exact sc_34 r_80 C _) ?_
              refine g_aload_n d_X12_searches_110 rfl ?_
              refine g_iconst (v := 0) d_X12_searches_111 (by decide) ?_
              obtain ⟨t_112, e_112, h⟩ := olet h
              refine g_putI (w' := (mw t_112, C)) d_X12_searches_112 p_X12_70 rfl rfl (gm0 t_107 C) (Nat.le_of_ble_eq_true rfl) (by rw [e_112]; exact sc_33 t_107 C _) ?_
              refine g_iload_n d_X12_searches_115 rfl ?_
              refine g_istore (L' := [some (.ref 0), some (.int v1), some (.int v2), some (.int v3), some (.int v4), some (.int v3), none]) d_X12_searches_116 rfl rfl ?_
              refine g_drop [1, 2, 4] (L1 := [some (.ref 0), none, none, some (.int v3), none, some (.int v3), none]) rfl ?_
              exact (ih).2.1 v3 v3 t_112 _ h
            · replace h := opos c_85 h
              refine g_aload_n d_X12_searches_88 rfl ?_
              refine g_getf d_X12_searches_89 f_X12_269 (gm0 r_80 C) rfl ?_
              refine g_iconst (v := 1) d_X12_searches_92 (by decide) ?_
              obtain ⟨r_93, h_93, hh_93⟩ := obind h
              refine Go.trans0 (S1 := (101, [none, none, none, none, none, none, none], [.int r_93], (mw r_80, C))) ?_ ?_
              · replace h := h_93
                clear hh_93
                refine g_icmp_ne (tgt := 100) d_X12_searches_93 (by decide) (fun c_93 => ?_) (fun c_93 => ?_)
                · replace h := oneg c_93 h
                  refine g_iconst (v := 4) d_X12_searches_100 (by decide) ?_
                  obtain rfl := osome h
                  exact g_drop [0, 1, 2, 3, 4] rfl (g_end rfl)
                · replace h := opos c_93 h
                  refine g_iconst (v := 3) d_X12_searches_96 (by decide) ?_
                  refine g_goto (tgt := 101) d_X12_searches_97 (by decide) ?_
                  obtain rfl := osome h
                  exact g_drop [0, 1, 2, 3, 4] rfl (g_end rfl)
              replace h := hh_93
              obtain rfl := osome h
              exact g_retI d_X12_searches_101 rfl rfl rfl
          · replace h := opos c_47 h
            refine g_aload_n d_X12_searches_50 rfl ?_
            refine g_iload_n d_X12_searches_51 rfl ?_
            obtain ⟨r_52, h_52, h⟩ := obind h
            refine g_callV (As := [.int v3]) d_X12_searches_52 o_X12_takes l_X12_272 ⟨Nat.le_of_ble_eq_true rfl, Nat.le_of_ble_eq_true rfl⟩ (c_m_takes hE C N t v3 _ h_52) (gm0 t C) rfl rfl rfl rfl rfl ?_ (Nat.zero_add _)
            refine g_aload_n d_X12_searches_55 rfl ?_
            obtain ⟨r_56, h_56, h⟩ := obind h
            refine g_callV (As := []) d_X12_searches_56 o_X12_isSolved l_X12_182 ⟨Nat.le_of_ble_eq_true rfl, Nat.le_of_ble_eq_true rfl⟩ (c_m_isSolved hE C N r_52 _ h_56) (gm0 r_52 C) rfl rfl rfl rfl rfl ?_ (Nat.zero_add _)
            refine g_istore (L' := [some (.ref 0), some (.int v1), some (.int v2), some (.int v3), some (.int r_56), none, none]) d_X12_searches_59 rfl rfl ?_
            refine g_iload d_X12_searches_61 rfl ?_
            refine g_if_ne (tgt := 30) d_X12_searches_63 (by decide) (fun c_63 => ?_) (fun c_63 => ?_)
            · replace h := oneg c_63 h
              exact (ih).1 v1 v2 v3 r_56 r_52 _ h
            · replace h := opos c_63 h
              refine g_aload_n d_X12_searches_66 rfl ?_
              refine g_iload_n d_X12_searches_67 rfl ?_
              refine g_iload_n d_X12_searches_68 rfl ?_
              refine g_iload_n d_X12_searches_69 rfl ?_
              obtain ⟨r_70, h_70, h⟩ := obind h
              refine g_callV (As := [.int v3, .int v1, .int v2]) d_X12_searches_70 o_X12_visits l_X12_279 ⟨Nat.le_of_ble_eq_true rfl, Nat.le_of_ble_eq_true rfl⟩ (c_m_visits hE C N r_52 v3 v1 v2 _ h_70) (gm0 r_52 C) rfl rfl rfl rfl rfl ?_ (Nat.zero_add _)
              refine g_iinc (v := (v3 + 1)) (L' := [some (.ref 0), some (.int v1), some (.int v2), some (.int (v3 + 1)), some (.int r_56), none, none]) d_X12_searches_73 rfl rfl rfl ?_
              refine g_goto (tgt := 30) d_X12_searches_76 (by decide) ?_
              exact (ih).1 v1 v2 (v3 + 1) r_56 r_70 _ h
    · intro v3 v5 t r h
      rw [u_searches_118] at h
      refine g_aload_n d_X12_searches_118 rfl ?_
      refine g_getf d_X12_searches_119 f_X12_61 (gm0 t C) rfl ?_
      refine g_iload d_X12_searches_122 rfl ?_
      obtain ⟨i_124, h⟩ := ochk h
      refine g_iald d_X12_searches_124 (gm_16 t C) (inB_in i_124) ?_
      refine g_if_lt (tgt := 150) d_X12_searches_125 (by decide) (fun c_125 => ?_) (fun c_125 => ?_)
      · replace h := opos c_125 h
        refine g_aload_n d_X12_searches_150 rfl ?_
        refine g_getf d_X12_searches_151 f_X12_70 (gm0 t C) rfl ?_
        refine g_istore (L' := [some (.ref 0), none, none, some (.int v3), none, some (.int (rs t 33)), none]) d_X12_searches_154 rfl rfl ?_
        refine g_iload_n d_X12_searches_156 rfl ?_
        refine g_istore (L' := [some (.ref 0), none, none, some (.int v3), none, some (.int (rs t 33)), some (.int v3)]) d_X12_searches_157 rfl rfl ?_
        refine g_drop [3] (L1 := [some (.ref 0), none, none, none, none, some (.int (rs t 33)), some (.int v3)]) rfl ?_
        exact (ih).2.2 (rs t 33) v3 t _ h
      · replace h := oneg c_125 h
        refine g_aload_n d_X12_searches_128 rfl ?_
        refine g_dup d_X12_searches_129 rfl ?_
        refine g_getf d_X12_searches_130 f_X12_70 (gm0 t C) rfl ?_
        refine g_iconst (v := 1) d_X12_searches_133 (by decide) ?_
        refine g_iadd d_X12_searches_134 ?_
        obtain ⟨t_135, e_135, h⟩ := olet h
        refine g_putI (w' := (mw t_135, C)) d_X12_searches_135 p_X12_70 rfl rfl (gm0 t C) (Nat.le_of_ble_eq_true rfl) (by rw [e_135]; exact sc_33 t C _) ?_
        refine g_aload_n d_X12_searches_138 rfl ?_
        refine g_getf d_X12_searches_139 f_X12_61 (gm0 t_135 C) rfl ?_
        refine g_iload d_X12_searches_142 rfl ?_
        obtain ⟨i_144, h⟩ := ochk h
        refine g_iald d_X12_searches_144 (gm_16 t_135 C) (inB_in i_144) ?_
        refine g_istore (L' := [some (.ref 0), none, none, some (.int v3), none, some (.int ((ra t_135 16) (Int32.toNatClampNeg v5))), none]) d_X12_searches_145 rfl rfl ?_
        refine g_goto (tgt := 118) d_X12_searches_147 (by decide) ?_
        exact (ih).2.1 v3 ((ra t_135 16) (Int32.toNatClampNeg v5)) t_135 _ h
    · intro v5 v6 t r h
      rw [u_searches_159] at h
      refine g_aload_n d_X12_searches_159 rfl ?_
      refine g_getf d_X12_searches_160 f_X12_61 (gm0 t C) rfl ?_
      refine g_iload d_X12_searches_163 rfl ?_
      obtain ⟨i_165, h⟩ := ochk h
      refine g_iald d_X12_searches_165 (gm_16 t C) (inB_in i_165) ?_
      refine g_if_lt (tgt := 198) d_X12_searches_166 (by decide) (fun c_166 => ?_) (fun c_166 => ?_)
      · replace h := opos c_166 h
        refine g_iconst (v := 0) d_X12_searches_198 (by decide) ?_
        obtain rfl := osome h
        exact g_retI d_X12_searches_199 rfl rfl rfl
      · replace h := oneg c_166 h
        refine g_iinc (v := (v5 + (-1))) (L' := [some (.ref 0), none, none, none, none, some (.int (v5 + (-1))), some (.int v6)]) d_X12_searches_169 rfl rfl rfl ?_
        refine g_aload_n d_X12_searches_172 rfl ?_
        refine g_getf d_X12_searches_173 f_X12_67 (gm0 t C) rfl ?_
        refine g_iload d_X12_searches_176 rfl ?_
        refine g_aload_n d_X12_searches_178 rfl ?_
        refine g_getf d_X12_searches_179 f_X12_64 (gm0 t C) rfl ?_
        refine g_iload d_X12_searches_182 rfl ?_
        obtain ⟨i_184, h⟩ := ochk h
        refine g_iald d_X12_searches_184 (gm_17 t C) (inB_in i_184) ?_
        obtain ⟨i_185, h⟩ := ochk h
        obtain ⟨t_185, e_185, h⟩ := olet h
        refine g_iast (w' := (mw t_185, C)) d_X12_searches_185 (gm_18 t C) (inB_in i_185) (by rw [e_185]; exact st_18 t C _) ?_
        refine g_aload_n d_X12_searches_186 rfl ?_
        refine g_getf d_X12_searches_187 f_X12_61 (gm0 t_185 C) rfl ?_
        refine g_iload d_X12_searches_190 rfl ?_
        obtain ⟨i_192, h⟩ := ochk h
        refine g_iald d_X12_searches_192 (gm_16 t_185 C) (inB_in i_192) ?_
        refine g_istore (L' := [some (.ref 0), none, none, none, none, some (.int (v5 + (-1))), some (.int ((ra t_185 16) (Int32.toNatClampNeg v6)))]) d_X12_searches_193 rfl rfl ?_
        refine g_goto (tgt := 159) d_X12_searches_195 (by decide) ?_
        exact (ih).2.2 (v5 + (-1)) ((ra t_185 16) (Int32.toNatClampNeg v6)) t_185 _ h
theorem c_m_searches {E : mEnv} (hE : E.1.stackTraces = false) (C : List mE) (N : Nat) (t : xT) (a0 : Int32) (a1 : Int32) (r : Int32 × xT) (h : f_searches N t a0 a1 = some r) : Rt E M_X12_searches 0 [.ref 0, .int a0, .int a1] (mw t, C) (some (.int r.1)) (mw r.2, C) := by
  unfold f_searches at h
  refine Rt.of hE rfl pn_X12 (Nat.le_of_ble_eq_true rfl) ?_
  refine g_eq (S' := (0, [some (.ref 0), some (.int a0), some (.int a1), none, none, none, none], [], (mw t, C))) rfl ?_
  refine g_aload_n d_X12_searches_0 rfl ?_
  obtain ⟨r_1, h_1, h⟩ := obind h
  refine g_callV (As := []) d_X12_searches_1 o_X12_remembers l_X12_221 ⟨Nat.le_of_ble_eq_true rfl, Nat.le_of_ble_eq_true rfl⟩ (c_m_remembers hE C N t _ h_1) (gm0 t C) rfl rfl rfl rfl rfl ?_ (Nat.zero_add _)
  refine g_aload_n d_X12_searches_4 rfl ?_
  obtain ⟨r_5, h_5, h⟩ := obind h
  refine g_callV (As := []) d_X12_searches_5 o_X12_dies l_X12_160 ⟨Nat.le_of_ble_eq_true rfl, Nat.le_of_ble_eq_true rfl⟩ (c_m_dies hE C N r_1 _ h_5) (gm0 r_1 C) rfl rfl rfl rfl rfl ?_ (Nat.zero_add _)
  refine g_aload_n d_X12_searches_8 rfl ?_
  refine g_iconst (v := 0) d_X12_searches_9 (by decide) ?_
  obtain ⟨t_10, e_10, h⟩ := olet h
  refine g_putI (w' := (mw t_10, C)) d_X12_searches_10 p_X12_266 rfl rfl (gm0 r_5 C) (Nat.le_of_ble_eq_true rfl) (by rw [e_10]; exact sc_31 r_5 C _) ?_
  refine g_aload_n d_X12_searches_13 rfl ?_
  refine g_iconst (v := 0) d_X12_searches_14 (by decide) ?_
  obtain ⟨t_15, e_15, h⟩ := olet h
  refine g_putI (w' := (mw t_15, C)) d_X12_searches_15 p_X12_269 rfl rfl (gm0 t_10 C) (Nat.le_of_ble_eq_true rfl) (by rw [e_15]; exact sc_35 t_10 C _) ?_
  refine g_aload_n d_X12_searches_18 rfl ?_
  refine g_iconst (v := (-1)) d_X12_searches_19 (by decide) ?_
  refine g_iconst (v := (-1)) d_X12_searches_20 (by decide) ?_
  refine g_iload_n d_X12_searches_21 rfl ?_
  obtain ⟨r_22, h_22, h⟩ := obind h
  refine g_callV (As := [.int (-1), .int (-1), .int a0]) d_X12_searches_22 o_X12_finds l_X12_275 ⟨Nat.le_of_ble_eq_true rfl, Nat.le_of_ble_eq_true rfl⟩ (c_m_finds hE C N t_15 (-1) (-1) a0 _ h_22) (gm0 t_15 C) rfl rfl rfl rfl rfl ?_ (Nat.zero_add _)
  refine g_iconst (v := 0) d_X12_searches_25 (by decide) ?_
  refine g_istore_n (L' := [some (.ref 0), some (.int a0), some (.int a1), some (.int 0), none, none, none]) d_X12_searches_26 rfl rfl ?_
  refine g_iconst (v := 0) d_X12_searches_27 (by decide) ?_
  refine g_istore (L' := [some (.ref 0), some (.int a0), some (.int a1), some (.int 0), some (.int 0), none, none]) d_X12_searches_28 rfl rfl ?_
  exact (l_m_searches hE C N N).1 a0 a1 0 0 r_22 _ h
def f_solve (N : Nat) (t : xT) (a0 : Int32) (a1 : Int32) : Option (Int32 × xT) :=
  Option.bind (f_in a0 1 1000) fun r_6 =>
  Option.bind (if r_6 = 0 then (some (1 : Int32))
    else (Option.bind (f_hasRoom t) fun r_13 =>
      if r_13 = 0 then (some (2 : Int32))
      else (some (0 : Int32)))) fun (r_9 : Int32) =>
  Option.bind (some (ws t 9 r_9)) fun t_28 =>
  if (rs t_28 9) ≤ 0 then (Option.bind (f_searches N t_28 a0 a1) fun r_43 =>
    Option.bind (if r_43.1 ≤ 0 then (some ((rs r_43.2 33), r_43.2))
      else (Option.bind (f_fails r_43.2 r_43.1) fun r_53 =>
        some (r_53.1, r_53.2))) fun (r_48 : Int32 × xT) =>
    some (r_48.1, r_48.2))
  else (some ((0 : Int32), t_28))
theorem d_X12_solve_0 : decode (mB M_X12_solve) 0 = .ok (.aload_n 0, 1) := by decide +kernel
theorem d_X12_solve_1 : decode (mB M_X12_solve) 1 = .ok (.iload_n 1, 1) := by decide +kernel
theorem d_X12_solve_2 : decode (mB M_X12_solve) 2 = .ok (.iconst 1, 1) := by decide +kernel
theorem d_X12_solve_3 : decode (mB M_X12_solve) 3 = .ok (.sipush 1000, 3) := by decide +kernel
theorem d_X12_solve_6 : decode (mB M_X12_solve) 6 = .ok (.invokestatic 76, 3) := by decide +kernel
theorem d_X12_solve_9 : decode (mB M_X12_solve) 9 = .ok (.ifCond .eq 18, 3) := by decide +kernel
theorem d_X12_solve_12 : decode (mB M_X12_solve) 12 = .ok (.aload_n 0, 1) := by decide +kernel
theorem d_X12_solve_13 : decode (mB M_X12_solve) 13 = .ok (.invokevirtual 83, 3) := by decide +kernel
theorem d_X12_solve_16 : decode (mB M_X12_solve) 16 = .ok (.ifCond .eq 7, 3) := by decide +kernel
theorem d_X12_solve_19 : decode (mB M_X12_solve) 19 = .ok (.iconst 0, 1) := by decide +kernel
theorem d_X12_solve_20 : decode (mB M_X12_solve) 20 = .ok (.goto 8, 3) := by decide +kernel
theorem d_X12_solve_23 : decode (mB M_X12_solve) 23 = .ok (.iconst 2, 1) := by decide +kernel
theorem d_X12_solve_24 : decode (mB M_X12_solve) 24 = .ok (.goto 4, 3) := by decide +kernel
theorem d_X12_solve_27 : decode (mB M_X12_solve) 27 = .ok (.iconst 1, 1) := by decide +kernel
theorem d_X12_solve_28 : decode (mB M_X12_solve) 28 = .ok (.putfield 73, 3) := by decide +kernel
theorem d_X12_solve_31 : decode (mB M_X12_solve) 31 = .ok (.aload_n 0, 1) := by decide +kernel
theorem d_X12_solve_32 : decode (mB M_X12_solve) 32 = .ok (.getfield 73, 3) := by decide +kernel
theorem d_X12_solve_35 : decode (mB M_X12_solve) 35 = .ok (.ifCond .le 5, 3) := by decide +kernel
theorem d_X12_solve_38 : decode (mB M_X12_solve) 38 = .ok (.iconst 0, 1) := by decide +kernel
theorem d_X12_solve_39 : decode (mB M_X12_solve) 39 = .ok (.ireturn, 1) := by decide +kernel
theorem d_X12_solve_40 : decode (mB M_X12_solve) 40 = .ok (.aload_n 0, 1) := by decide +kernel
theorem d_X12_solve_41 : decode (mB M_X12_solve) 41 = .ok (.iload_n 1, 1) := by decide +kernel
theorem d_X12_solve_42 : decode (mB M_X12_solve) 42 = .ok (.iload_n 2, 1) := by decide +kernel
theorem d_X12_solve_43 : decode (mB M_X12_solve) 43 = .ok (.invokevirtual 286, 3) := by decide +kernel
theorem d_X12_solve_46 : decode (mB M_X12_solve) 46 = .ok (.istore_n 3, 1) := by decide +kernel
theorem d_X12_solve_47 : decode (mB M_X12_solve) 47 = .ok (.iload_n 3, 1) := by decide +kernel
theorem d_X12_solve_48 : decode (mB M_X12_solve) 48 = .ok (.ifCond .le 11, 3) := by decide +kernel
theorem d_X12_solve_51 : decode (mB M_X12_solve) 51 = .ok (.aload_n 0, 1) := by decide +kernel
theorem d_X12_solve_52 : decode (mB M_X12_solve) 52 = .ok (.iload_n 3, 1) := by decide +kernel
theorem d_X12_solve_53 : decode (mB M_X12_solve) 53 = .ok (.invokevirtual 114, 3) := by decide +kernel
theorem d_X12_solve_56 : decode (mB M_X12_solve) 56 = .ok (.goto 7, 3) := by decide +kernel
theorem d_X12_solve_59 : decode (mB M_X12_solve) 59 = .ok (.aload_n 0, 1) := by decide +kernel
theorem d_X12_solve_60 : decode (mB M_X12_solve) 60 = .ok (.getfield 70, 3) := by decide +kernel
theorem d_X12_solve_63 : decode (mB M_X12_solve) 63 = .ok (.ireturn, 1) := by decide +kernel
theorem c_m_solve {E : mEnv} (hE : E.1.stackTraces = false) (C : List mE) (N : Nat) (t : xT) (a0 : Int32) (a1 : Int32) (r : Int32 × xT) (h : f_solve N t a0 a1 = some r) : Rt E M_X12_solve 0 [.ref 0, .int a0, .int a1] (mw t, C) (some (.int r.1)) (mw r.2, C) := by
  unfold f_solve at h
  refine Rt.of hE rfl pn_X12 (Nat.le_of_ble_eq_true rfl) ?_
  refine g_eq (S' := (0, [some (.ref 0), some (.int a0), some (.int a1), none], [], (mw t, C))) rfl ?_
  refine g_aload_n d_X12_solve_0 rfl ?_
  refine g_iload_n d_X12_solve_1 rfl ?_
  refine g_iconst (v := 1) d_X12_solve_2 (by decide) ?_
  refine g_sipush (v := 1000) d_X12_solve_3 (by decide) ?_
  obtain ⟨r_6, h_6, h⟩ := obind h
  refine g_callS (As := [.int a0, .int 1, .int 1000]) d_X12_solve_6 o_X12_in l_X12_76 ⟨Nat.le_of_ble_eq_true rfl, Nat.le_of_ble_eq_true rfl⟩ (c_m_in hE C t a0 1 1000 _ h_6) rfl rfl ?_ (Nat.zero_add _)
  obtain ⟨r_9, h_9, hh_9⟩ := obind h
  refine Go.trans0 (S1 := (28, [some (.ref 0), some (.int a0), some (.int a1), none], [.int r_9, .ref 0], (mw t, C))) ?_ ?_
  · replace h := h_9
    clear hh_9
    refine g_if_eq (tgt := 27) d_X12_solve_9 (by decide) (fun c_9 => ?_) (fun c_9 => ?_)
    · replace h := opos c_9 h
      refine g_iconst (v := 1) d_X12_solve_27 (by decide) ?_
      obtain rfl := osome h
      exact g_end rfl
    · replace h := oneg c_9 h
      refine g_aload_n d_X12_solve_12 rfl ?_
      obtain ⟨r_13, h_13, h⟩ := obind h
      refine g_callV (As := []) d_X12_solve_13 o_X12_hasRoom l_X12_83 ⟨Nat.le_of_ble_eq_true rfl, Nat.le_of_ble_eq_true rfl⟩ (c_m_hasRoom hE C t _ h_13) (gm0 t C) rfl rfl rfl rfl rfl ?_ (Nat.zero_add _)
      refine g_if_eq (tgt := 23) d_X12_solve_16 (by decide) (fun c_16 => ?_) (fun c_16 => ?_)
      · replace h := opos c_16 h
        refine g_iconst (v := 2) d_X12_solve_23 (by decide) ?_
        refine g_goto (tgt := 28) d_X12_solve_24 (by decide) ?_
        obtain rfl := osome h
        exact g_end rfl
      · replace h := oneg c_16 h
        refine g_iconst (v := 0) d_X12_solve_19 (by decide) ?_
        refine g_goto (tgt := 28) d_X12_solve_20 (by decide) ?_
        obtain rfl := osome h
        exact g_end rfl
  replace h := hh_9
  obtain ⟨t_28, e_28, h⟩ := olet h
  refine g_putI (w' := (mw t_28, C)) d_X12_solve_28 p_X12_73 rfl rfl (gm0 t C) (Nat.le_of_ble_eq_true rfl) (by rw [e_28]; exact sc_9 t C _) ?_
  refine g_aload_n d_X12_solve_31 rfl ?_
  refine g_getf d_X12_solve_32 f_X12_73 (gm0 t_28 C) rfl ?_
  refine g_if_le (tgt := 40) d_X12_solve_35 (by decide) (fun c_35 => ?_) (fun c_35 => ?_)
  · replace h := opos c_35 h
    refine g_aload_n d_X12_solve_40 rfl ?_
    refine g_iload_n d_X12_solve_41 rfl ?_
    refine g_iload_n d_X12_solve_42 rfl ?_
    obtain ⟨r_43, h_43, h⟩ := obind h
    refine g_callV (As := [.int a0, .int a1]) d_X12_solve_43 o_X12_searches l_X12_286 ⟨Nat.le_of_ble_eq_true rfl, Nat.le_of_ble_eq_true rfl⟩ (c_m_searches hE C N t_28 a0 a1 _ h_43) (gm0 t_28 C) rfl rfl rfl rfl rfl ?_ (Nat.zero_add _)
    refine g_istore_n (L' := [some (.ref 0), some (.int a0), some (.int a1), some (.int r_43.1)]) d_X12_solve_46 rfl rfl ?_
    refine g_iload_n d_X12_solve_47 rfl ?_
    obtain ⟨r_48, h_48, hh_48⟩ := obind h
    refine Go.trans0 (S1 := (63, [none, none, none, none], [.int r_48.1], (mw r_48.2, C))) ?_ ?_
    · replace h := h_48
      clear hh_48
      refine g_if_le (tgt := 59) d_X12_solve_48 (by decide) (fun c_48 => ?_) (fun c_48 => ?_)
      · replace h := opos c_48 h
        refine g_aload_n d_X12_solve_59 rfl ?_
        refine g_getf d_X12_solve_60 f_X12_70 (gm0 r_43.2 C) rfl ?_
        obtain rfl := osome h
        exact g_drop [0, 1, 2, 3] rfl (g_end rfl)
      · replace h := oneg c_48 h
        refine g_aload_n d_X12_solve_51 rfl ?_
        refine g_iload_n d_X12_solve_52 rfl ?_
        obtain ⟨r_53, h_53, h⟩ := obind h
        refine g_callV (As := [.int r_43.1]) d_X12_solve_53 o_X12_fails l_X12_114 ⟨Nat.le_of_ble_eq_true rfl, Nat.le_of_ble_eq_true rfl⟩ (c_m_fails hE C r_43.2 r_43.1 _ h_53) (gm0 r_43.2 C) rfl rfl rfl rfl rfl ?_ (Nat.zero_add _)
        refine g_goto (tgt := 63) d_X12_solve_56 (by decide) ?_
        obtain rfl := osome h
        exact g_drop [0, 1, 2, 3] rfl (g_end rfl)
    replace h := hh_48
    obtain rfl := osome h
    exact g_retI d_X12_solve_63 rfl rfl rfl
  · replace h := oneg c_35 h
    refine g_iconst (v := 0) d_X12_solve_38 (by decide) ?_
    obtain rfl := osome h
    exact g_retI d_X12_solve_39 rfl rfl rfl
def f_solution (t : xT) (a0 : Int32) (a1 : Int32) : Option (Int32 × xT) :=
  Option.bind (if (rs t 33) < 0 then (some (1 : Int32))
    else (Option.bind (f_in a0 (-1) ((rs t 33) - 1)) fun r_16 =>
      if r_16 = 0 then (some (1 : Int32))
      else (some (0 : Int32)))) fun (r_5 : Int32) =>
  Option.bind (some (ws t 9 r_5)) fun t_27 =>
  if (rs t_27 9) ≤ 0 then (if a0 = (-1) then (Option.bind (if a1 = 0 then (some (rs t_27 33))
        else (some (rs t_27 34))) fun (r_45 : Int32) =>
      some (r_45, t_27))
    else (Option.bind (if a1 = 0 then (if inB a0 1000 = true then (some (((ra t_27 18) (Int32.toNatClampNeg a0)) / 4)) else none)
        else (if inB a0 1000 = true then (some (((ra t_27 18) (Int32.toNatClampNeg a0)) - ((ra t_27 18) (Int32.toNatClampNeg a0)) / 4 * 4)) else none)) fun (r_61 : Int32) =>
      some (r_61, t_27)))
  else (some ((0 : Int32), t_27))
theorem d_X12_solution_0 : decode (mB M_X12_solution) 0 = .ok (.aload_n 0, 1) := by decide +kernel
theorem d_X12_solution_1 : decode (mB M_X12_solution) 1 = .ok (.aload_n 0, 1) := by decide +kernel
theorem d_X12_solution_2 : decode (mB M_X12_solution) 2 = .ok (.getfield 70, 3) := by decide +kernel
theorem d_X12_solution_5 : decode (mB M_X12_solution) 5 = .ok (.ifCond .lt 21, 3) := by decide +kernel
theorem d_X12_solution_8 : decode (mB M_X12_solution) 8 = .ok (.iload_n 1, 1) := by decide +kernel
theorem d_X12_solution_9 : decode (mB M_X12_solution) 9 = .ok (.iconst (-1), 1) := by decide +kernel
theorem d_X12_solution_10 : decode (mB M_X12_solution) 10 = .ok (.aload_n 0, 1) := by decide +kernel
theorem d_X12_solution_11 : decode (mB M_X12_solution) 11 = .ok (.getfield 70, 3) := by decide +kernel
theorem d_X12_solution_14 : decode (mB M_X12_solution) 14 = .ok (.iconst 1, 1) := by decide +kernel
theorem d_X12_solution_15 : decode (mB M_X12_solution) 15 = .ok (.isub, 1) := by decide +kernel
theorem d_X12_solution_16 : decode (mB M_X12_solution) 16 = .ok (.invokestatic 76, 3) := by decide +kernel
theorem d_X12_solution_19 : decode (mB M_X12_solution) 19 = .ok (.ifCond .eq 7, 3) := by decide +kernel
theorem d_X12_solution_22 : decode (mB M_X12_solution) 22 = .ok (.iconst 0, 1) := by decide +kernel
theorem d_X12_solution_23 : decode (mB M_X12_solution) 23 = .ok (.goto 4, 3) := by decide +kernel
theorem d_X12_solution_26 : decode (mB M_X12_solution) 26 = .ok (.iconst 1, 1) := by decide +kernel
theorem d_X12_solution_27 : decode (mB M_X12_solution) 27 = .ok (.putfield 73, 3) := by decide +kernel
theorem d_X12_solution_30 : decode (mB M_X12_solution) 30 = .ok (.aload_n 0, 1) := by decide +kernel
theorem d_X12_solution_31 : decode (mB M_X12_solution) 31 = .ok (.getfield 73, 3) := by decide +kernel
theorem d_X12_solution_34 : decode (mB M_X12_solution) 34 = .ok (.ifCond .le 5, 3) := by decide +kernel
theorem d_X12_solution_37 : decode (mB M_X12_solution) 37 = .ok (.iconst 0, 1) := by decide +kernel
theorem d_X12_solution_38 : decode (mB M_X12_solution) 38 = .ok (.ireturn, 1) := by decide +kernel
theorem d_X12_solution_39 : decode (mB M_X12_solution) 39 = .ok (.iload_n 1, 1) := by decide +kernel
theorem d_X12_solution_40 : decode (mB M_X12_solution) 40 = .ok (.iconst (-1), 1) := by decide +kernel
theorem d_X12_solution_41 : decode (mB M_X12_solution) 41 = .ok (.if_icmp .ne 19, 3) := by decide +kernel
theorem d_X12_solution_44 : decode (mB M_X12_solution) 44 = .ok (.iload_n 2, 1) := by decide +kernel
theorem d_X12_solution_45 : decode (mB M_X12_solution) 45 = .ok (.ifCond .eq 10, 3) := by decide +kernel
theorem d_X12_solution_48 : decode (mB M_X12_solution) 48 = .ok (.aload_n 0, 1) := by decide +kernel
theorem d_X12_solution_49 : decode (mB M_X12_solution) 49 = .ok (.getfield 283, 3) := by decide +kernel
theorem d_X12_solution_52 : decode (mB M_X12_solution) 52 = .ok (.goto 7, 3) := by decide +kernel
theorem d_X12_solution_55 : decode (mB M_X12_solution) 55 = .ok (.aload_n 0, 1) := by decide +kernel
theorem d_X12_solution_56 : decode (mB M_X12_solution) 56 = .ok (.getfield 70, 3) := by decide +kernel
theorem d_X12_solution_59 : decode (mB M_X12_solution) 59 = .ok (.ireturn, 1) := by decide +kernel
theorem d_X12_solution_60 : decode (mB M_X12_solution) 60 = .ok (.iload_n 2, 1) := by decide +kernel
theorem d_X12_solution_61 : decode (mB M_X12_solution) 61 = .ok (.ifCond .eq 14, 3) := by decide +kernel
theorem d_X12_solution_64 : decode (mB M_X12_solution) 64 = .ok (.aload_n 0, 1) := by decide +kernel
theorem d_X12_solution_65 : decode (mB M_X12_solution) 65 = .ok (.getfield 67, 3) := by decide +kernel
theorem d_X12_solution_68 : decode (mB M_X12_solution) 68 = .ok (.iload_n 1, 1) := by decide +kernel
theorem d_X12_solution_69 : decode (mB M_X12_solution) 69 = .ok (.iaload, 1) := by decide +kernel
theorem d_X12_solution_70 : decode (mB M_X12_solution) 70 = .ok (.iconst 4, 1) := by decide +kernel
theorem d_X12_solution_71 : decode (mB M_X12_solution) 71 = .ok (.irem, 1) := by decide +kernel
theorem d_X12_solution_72 : decode (mB M_X12_solution) 72 = .ok (.goto 11, 3) := by decide +kernel
theorem d_X12_solution_75 : decode (mB M_X12_solution) 75 = .ok (.aload_n 0, 1) := by decide +kernel
theorem d_X12_solution_76 : decode (mB M_X12_solution) 76 = .ok (.getfield 67, 3) := by decide +kernel
theorem d_X12_solution_79 : decode (mB M_X12_solution) 79 = .ok (.iload_n 1, 1) := by decide +kernel
theorem d_X12_solution_80 : decode (mB M_X12_solution) 80 = .ok (.iaload, 1) := by decide +kernel
theorem d_X12_solution_81 : decode (mB M_X12_solution) 81 = .ok (.iconst 4, 1) := by decide +kernel
theorem d_X12_solution_82 : decode (mB M_X12_solution) 82 = .ok (.idiv, 1) := by decide +kernel
theorem d_X12_solution_83 : decode (mB M_X12_solution) 83 = .ok (.ireturn, 1) := by decide +kernel
theorem c_m_solution {E : mEnv} (hE : E.1.stackTraces = false) (C : List mE) (t : xT) (a0 : Int32) (a1 : Int32) (r : Int32 × xT) (h : f_solution t a0 a1 = some r) : Rt E M_X12_solution 0 [.ref 0, .int a0, .int a1] (mw t, C) (some (.int r.1)) (mw r.2, C) := by
  unfold f_solution at h
  refine Rt.of hE rfl pn_X12 (Nat.le_of_ble_eq_true rfl) ?_
  refine g_eq (S' := (0, [some (.ref 0), some (.int a0), some (.int a1)], [], (mw t, C))) rfl ?_
  refine g_aload_n d_X12_solution_0 rfl ?_
  refine g_aload_n d_X12_solution_1 rfl ?_
  refine g_getf d_X12_solution_2 f_X12_70 (gm0 t C) rfl ?_
  obtain ⟨r_5, h_5, hh_5⟩ := obind h
  refine Go.trans0 (S1 := (27, [some (.ref 0), some (.int a0), some (.int a1)], [.int r_5, .ref 0], (mw t, C))) ?_ ?_
  · replace h := h_5
    clear hh_5
    refine g_if_lt (tgt := 26) d_X12_solution_5 (by decide) (fun c_5 => ?_) (fun c_5 => ?_)
    · replace h := opos c_5 h
      refine g_iconst (v := 1) d_X12_solution_26 (by decide) ?_
      obtain rfl := osome h
      exact g_end rfl
    · replace h := oneg c_5 h
      refine g_iload_n d_X12_solution_8 rfl ?_
      refine g_iconst (v := (-1)) d_X12_solution_9 (by decide) ?_
      refine g_aload_n d_X12_solution_10 rfl ?_
      refine g_getf d_X12_solution_11 f_X12_70 (gm0 t C) rfl ?_
      refine g_iconst (v := 1) d_X12_solution_14 (by decide) ?_
      refine g_isub d_X12_solution_15 ?_
      obtain ⟨r_16, h_16, h⟩ := obind h
      refine g_callS (As := [.int a0, .int (-1), .int ((rs t 33) - 1)]) d_X12_solution_16 o_X12_in l_X12_76 ⟨Nat.le_of_ble_eq_true rfl, Nat.le_of_ble_eq_true rfl⟩ (c_m_in hE C t a0 (-1) ((rs t 33) - 1) _ h_16) rfl rfl ?_ (Nat.zero_add _)
      refine g_if_eq (tgt := 26) d_X12_solution_19 (by decide) (fun c_19 => ?_) (fun c_19 => ?_)
      · replace h := opos c_19 h
        refine g_iconst (v := 1) d_X12_solution_26 (by decide) ?_
        obtain rfl := osome h
        exact g_end rfl
      · replace h := oneg c_19 h
        refine g_iconst (v := 0) d_X12_solution_22 (by decide) ?_
        refine g_goto (tgt := 27) d_X12_solution_23 (by decide) ?_
        obtain rfl := osome h
        exact g_end rfl
  replace h := hh_5
  obtain ⟨t_27, e_27, h⟩ := olet h
  refine g_putI (w' := (mw t_27, C)) d_X12_solution_27 p_X12_73 rfl rfl (gm0 t C) (Nat.le_of_ble_eq_true rfl) (by rw [e_27]; exact sc_9 t C _) ?_
  refine g_aload_n d_X12_solution_30 rfl ?_
  refine g_getf d_X12_solution_31 f_X12_73 (gm0 t_27 C) rfl ?_
  refine g_if_le (tgt := 39) d_X12_solution_34 (by decide) (fun c_34 => ?_) (fun c_34 => ?_)
  · replace h := opos c_34 h
    refine g_iload_n d_X12_solution_39 rfl ?_
    refine g_iconst (v := (-1)) d_X12_solution_40 (by decide) ?_
    refine g_icmp_ne (tgt := 60) d_X12_solution_41 (by decide) (fun c_41 => ?_) (fun c_41 => ?_)
    · replace h := oneg c_41 h
      refine g_iload_n d_X12_solution_60 rfl ?_
      obtain ⟨r_61, h_61, hh_61⟩ := obind h
      refine Go.trans0 (S1 := (83, [none, none, none], [.int r_61], (mw t_27, C))) ?_ ?_
      · replace h := h_61
        clear hh_61
        refine g_if_eq (tgt := 75) d_X12_solution_61 (by decide) (fun c_61 => ?_) (fun c_61 => ?_)
        · replace h := opos c_61 h
          refine g_aload_n d_X12_solution_75 rfl ?_
          refine g_getf d_X12_solution_76 f_X12_67 (gm0 t_27 C) rfl ?_
          refine g_iload_n d_X12_solution_79 rfl ?_
          obtain ⟨i_80, h⟩ := ochk h
          refine g_iald d_X12_solution_80 (gm_18 t_27 C) (inB_in i_80) ?_
          refine g_iconst (v := 4) d_X12_solution_81 (by decide) ?_
          refine g_idiv d_X12_solution_82 (by decide) ?_
          obtain rfl := osome h
          exact g_drop [0, 1, 2] rfl (g_end rfl)
        · replace h := oneg c_61 h
          refine g_aload_n d_X12_solution_64 rfl ?_
          refine g_getf d_X12_solution_65 f_X12_67 (gm0 t_27 C) rfl ?_
          refine g_iload_n d_X12_solution_68 rfl ?_
          obtain ⟨i_69, h⟩ := ochk h
          refine g_iald d_X12_solution_69 (gm_18 t_27 C) (inB_in i_69) ?_
          refine g_iconst (v := 4) d_X12_solution_70 (by decide) ?_
          refine g_irem d_X12_solution_71 (by decide) ?_
          refine g_goto (tgt := 83) d_X12_solution_72 (by decide) ?_
          obtain rfl := osome h
          exact g_drop [0, 1, 2] rfl (g_end rfl)
      replace h := hh_61
      obtain rfl := osome h
      exact g_retI d_X12_solution_83 rfl rfl rfl
    · replace h := opos c_41 h
      refine g_iload_n d_X12_solution_44 rfl ?_
      obtain ⟨r_45, h_45, hh_45⟩ := obind h
      refine Go.trans0 (S1 := (59, [none, none, none], [.int r_45], (mw t_27, C))) ?_ ?_
      · replace h := h_45
        clear hh_45
        refine g_if_eq (tgt := 55) d_X12_solution_45 (by decide) (fun c_45 => ?_) (fun c_45 => ?_)
        · replace h := opos c_45 h
          refine g_aload_n d_X12_solution_55 rfl ?_
          refine g_getf d_X12_solution_56 f_X12_70 (gm0 t_27 C) rfl ?_
          obtain rfl := osome h
          exact g_drop [0, 1, 2] rfl (g_end rfl)
        · replace h := oneg c_45 h
          refine g_aload_n d_X12_solution_48 rfl ?_
          refine g_getf d_X12_solution_49 f_X12_283 (gm0 t_27 C) rfl ?_
          refine g_goto (tgt := 59) d_X12_solution_52 (by decide) ?_
          obtain rfl := osome h
          exact g_drop [0, 1, 2] rfl (g_end rfl)
      replace h := hh_45
      obtain rfl := osome h
      exact g_retI d_X12_solution_59 rfl rfl rfl
  · replace h := oneg c_34 h
    refine g_iconst (v := 0) d_X12_solution_37 (by decide) ?_
    obtain rfl := osome h
    exact g_retI d_X12_solution_38 rfl rfl rfl
def f_finish_L (N : Nat) : Nat → Int32 → Int32 → xT → Option (Int32 × xT)
  | 0, _, _, _ => none
  | n + 1, v2, v3, t =>
    if (rs t 33) ≤ v3 then (if ((ra t 1) (Int32.toNatClampNeg 4)) ≤ 400 then (Option.bind (f_commands N t) fun r_86 =>
        some ((((ra r_86 1) (Int32.toNatClampNeg 4)) - v2), r_86))
      else (Option.bind (f_goesBack N t) fun r_76 =>
        Option.bind (f_fails r_76 3) fun r_81 =>
        some (r_81.1, r_81.2)))
    else (if inB v3 1000 = true then (if inB v3 1000 = true then (Option.bind (f_walksAndPushes N t (((ra t 18) (Int32.toNatClampNeg v3)) / 4) (((ra t 18) (Int32.toNatClampNeg v3)) - ((ra t 18) (Int32.toNatClampNeg v3)) / 4 * 4)) fun r_54 =>
      f_finish_L N n v2 (v3 + 1) r_54) else none) else none)
theorem u_finish_29 (N n : Nat) (v2 : Int32) (v3 : Int32) (t : xT) : f_finish_L N (n + 1) v2 v3 t = (if (rs t 33) ≤ v3 then (if ((ra t 1) (Int32.toNatClampNeg 4)) ≤ 400 then (Option.bind (f_commands N t) fun r_86 =>
        some ((((ra r_86 1) (Int32.toNatClampNeg 4)) - v2), r_86))
      else (Option.bind (f_goesBack N t) fun r_76 =>
        Option.bind (f_fails r_76 3) fun r_81 =>
        some (r_81.1, r_81.2)))
    else (if inB v3 1000 = true then (if inB v3 1000 = true then (Option.bind (f_walksAndPushes N t (((ra t 18) (Int32.toNatClampNeg v3)) / 4) (((ra t 18) (Int32.toNatClampNeg v3)) - ((ra t 18) (Int32.toNatClampNeg v3)) / 4 * 4)) fun r_54 =>
      f_finish_L N n v2 (v3 + 1) r_54) else none) else none)) := rfl
def f_finish (N : Nat) (t : xT) (a0 : Int32) : Option (Int32 × xT) :=
  Option.bind (f_solve N t a0 1) fun r_3 =>
  if (rs r_3.2 9) ≤ 0 then (Option.bind (f_remembers N r_3.2) fun r_17 =>
    f_finish_L N N ((ra r_17 1) (Int32.toNatClampNeg 4)) 0 r_17)
  else (some ((0 : Int32), r_3.2))
theorem d_X12_finish_0 : decode (mB M_X12_finish) 0 = .ok (.aload_n 0, 1) := by decide +kernel
theorem d_X12_finish_1 : decode (mB M_X12_finish) 1 = .ok (.iload_n 1, 1) := by decide +kernel
theorem d_X12_finish_2 : decode (mB M_X12_finish) 2 = .ok (.iconst 1, 1) := by decide +kernel
theorem d_X12_finish_3 : decode (mB M_X12_finish) 3 = .ok (.invokevirtual 290, 3) := by decide +kernel
theorem d_X12_finish_6 : decode (mB M_X12_finish) 6 = .ok (.pop, 1) := by decide +kernel
theorem d_X12_finish_7 : decode (mB M_X12_finish) 7 = .ok (.aload_n 0, 1) := by decide +kernel
theorem d_X12_finish_8 : decode (mB M_X12_finish) 8 = .ok (.getfield 73, 3) := by decide +kernel
theorem d_X12_finish_11 : decode (mB M_X12_finish) 11 = .ok (.ifCond .le 5, 3) := by decide +kernel
theorem d_X12_finish_14 : decode (mB M_X12_finish) 14 = .ok (.iconst 0, 1) := by decide +kernel
theorem d_X12_finish_15 : decode (mB M_X12_finish) 15 = .ok (.ireturn, 1) := by decide +kernel
theorem d_X12_finish_16 : decode (mB M_X12_finish) 16 = .ok (.aload_n 0, 1) := by decide +kernel
theorem d_X12_finish_17 : decode (mB M_X12_finish) 17 = .ok (.invokevirtual 221, 3) := by decide +kernel
theorem d_X12_finish_20 : decode (mB M_X12_finish) 20 = .ok (.aload_n 0, 1) := by decide +kernel
theorem d_X12_finish_21 : decode (mB M_X12_finish) 21 = .ok (.getfield 7, 3) := by decide +kernel
theorem d_X12_finish_24 : decode (mB M_X12_finish) 24 = .ok (.iconst 4, 1) := by decide +kernel
theorem d_X12_finish_25 : decode (mB M_X12_finish) 25 = .ok (.iaload, 1) := by decide +kernel
theorem d_X12_finish_26 : decode (mB M_X12_finish) 26 = .ok (.istore_n 2, 1) := by decide +kernel
theorem d_X12_finish_27 : decode (mB M_X12_finish) 27 = .ok (.iconst 0, 1) := by decide +kernel
theorem d_X12_finish_28 : decode (mB M_X12_finish) 28 = .ok (.istore_n 3, 1) := by decide +kernel
theorem d_X12_finish_29 : decode (mB M_X12_finish) 29 = .ok (.iload_n 3, 1) := by decide +kernel
theorem d_X12_finish_30 : decode (mB M_X12_finish) 30 = .ok (.aload_n 0, 1) := by decide +kernel
theorem d_X12_finish_31 : decode (mB M_X12_finish) 31 = .ok (.getfield 70, 3) := by decide +kernel
theorem d_X12_finish_34 : decode (mB M_X12_finish) 34 = .ok (.if_icmp .ge 29, 3) := by decide +kernel
theorem d_X12_finish_37 : decode (mB M_X12_finish) 37 = .ok (.aload_n 0, 1) := by decide +kernel
theorem d_X12_finish_38 : decode (mB M_X12_finish) 38 = .ok (.aload_n 0, 1) := by decide +kernel
theorem d_X12_finish_39 : decode (mB M_X12_finish) 39 = .ok (.getfield 67, 3) := by decide +kernel
theorem d_X12_finish_42 : decode (mB M_X12_finish) 42 = .ok (.iload_n 3, 1) := by decide +kernel
theorem d_X12_finish_43 : decode (mB M_X12_finish) 43 = .ok (.iaload, 1) := by decide +kernel
theorem d_X12_finish_44 : decode (mB M_X12_finish) 44 = .ok (.iconst 4, 1) := by decide +kernel
theorem d_X12_finish_45 : decode (mB M_X12_finish) 45 = .ok (.idiv, 1) := by decide +kernel
theorem d_X12_finish_46 : decode (mB M_X12_finish) 46 = .ok (.aload_n 0, 1) := by decide +kernel
theorem d_X12_finish_47 : decode (mB M_X12_finish) 47 = .ok (.getfield 67, 3) := by decide +kernel
theorem d_X12_finish_50 : decode (mB M_X12_finish) 50 = .ok (.iload_n 3, 1) := by decide +kernel
theorem d_X12_finish_51 : decode (mB M_X12_finish) 51 = .ok (.iaload, 1) := by decide +kernel
theorem d_X12_finish_52 : decode (mB M_X12_finish) 52 = .ok (.iconst 4, 1) := by decide +kernel
theorem d_X12_finish_53 : decode (mB M_X12_finish) 53 = .ok (.irem, 1) := by decide +kernel
theorem d_X12_finish_54 : decode (mB M_X12_finish) 54 = .ok (.invokevirtual 239, 3) := by decide +kernel
theorem d_X12_finish_57 : decode (mB M_X12_finish) 57 = .ok (.iinc 3 1, 3) := by decide +kernel
theorem d_X12_finish_60 : decode (mB M_X12_finish) 60 = .ok (.goto (-31), 3) := by decide +kernel
theorem d_X12_finish_63 : decode (mB M_X12_finish) 63 = .ok (.aload_n 0, 1) := by decide +kernel
theorem d_X12_finish_64 : decode (mB M_X12_finish) 64 = .ok (.getfield 7, 3) := by decide +kernel
theorem d_X12_finish_67 : decode (mB M_X12_finish) 67 = .ok (.iconst 4, 1) := by decide +kernel
theorem d_X12_finish_68 : decode (mB M_X12_finish) 68 = .ok (.iaload, 1) := by decide +kernel
theorem d_X12_finish_69 : decode (mB M_X12_finish) 69 = .ok (.sipush 400, 3) := by decide +kernel
theorem d_X12_finish_72 : decode (mB M_X12_finish) 72 = .ok (.if_icmp .le 13, 3) := by decide +kernel
theorem d_X12_finish_75 : decode (mB M_X12_finish) 75 = .ok (.aload_n 0, 1) := by decide +kernel
theorem d_X12_finish_76 : decode (mB M_X12_finish) 76 = .ok (.invokevirtual 243, 3) := by decide +kernel
theorem d_X12_finish_79 : decode (mB M_X12_finish) 79 = .ok (.aload_n 0, 1) := by decide +kernel
theorem d_X12_finish_80 : decode (mB M_X12_finish) 80 = .ok (.iconst 3, 1) := by decide +kernel
theorem d_X12_finish_81 : decode (mB M_X12_finish) 81 = .ok (.invokevirtual 114, 3) := by decide +kernel
theorem d_X12_finish_84 : decode (mB M_X12_finish) 84 = .ok (.ireturn, 1) := by decide +kernel
theorem d_X12_finish_85 : decode (mB M_X12_finish) 85 = .ok (.aload_n 0, 1) := by decide +kernel
theorem d_X12_finish_86 : decode (mB M_X12_finish) 86 = .ok (.invokevirtual 224, 3) := by decide +kernel
theorem d_X12_finish_89 : decode (mB M_X12_finish) 89 = .ok (.aload_n 0, 1) := by decide +kernel
theorem d_X12_finish_90 : decode (mB M_X12_finish) 90 = .ok (.getfield 7, 3) := by decide +kernel
theorem d_X12_finish_93 : decode (mB M_X12_finish) 93 = .ok (.iconst 4, 1) := by decide +kernel
theorem d_X12_finish_94 : decode (mB M_X12_finish) 94 = .ok (.iaload, 1) := by decide +kernel
theorem d_X12_finish_95 : decode (mB M_X12_finish) 95 = .ok (.iload_n 2, 1) := by decide +kernel
theorem d_X12_finish_96 : decode (mB M_X12_finish) 96 = .ok (.isub, 1) := by decide +kernel
theorem d_X12_finish_97 : decode (mB M_X12_finish) 97 = .ok (.ireturn, 1) := by decide +kernel
theorem l_m_finish {E : mEnv} (hE : E.1.stackTraces = false) (C : List mE) (N : Nat) : ∀ n : Nat, (∀ (v2 : Int32) (v3 : Int32) (t : xT) (r : Int32 × xT), f_finish_L N n v2 v3 t = some r → Go E M_X12_finish 0 (29, [some (.ref 0), none, some (.int v2), some (.int v3)], [], (mw t, C)) (.inr (.inl (some (.int r.1), (mw r.2, C))))) := by
  intro n
  induction n with
  | zero => exact fun v2 v3 t r h => by cases h
  | succ n ih =>
    intro v2 v3 t r h
    rw [u_finish_29] at h
    refine g_iload_n d_X12_finish_29 rfl ?_
    refine g_aload_n d_X12_finish_30 rfl ?_
    refine g_getf d_X12_finish_31 f_X12_70 (gm0 t C) rfl ?_
    refine g_icmp_ge (tgt := 63) d_X12_finish_34 (by decide) (fun c_34 => ?_) (fun c_34 => ?_)
    · replace h := opos c_34 h
      refine g_aload_n d_X12_finish_63 rfl ?_
      refine g_getf d_X12_finish_64 f_X12_7 (gm0 t C) rfl ?_
      refine g_iconst (v := 4) d_X12_finish_67 (by decide) ?_
      refine g_iald d_X12_finish_68 (gm_1 t C) (inB_in (by decide)) ?_
      refine g_sipush (v := 400) d_X12_finish_69 (by decide) ?_
      refine g_icmp_le (tgt := 85) d_X12_finish_72 (by decide) (fun c_72 => ?_) (fun c_72 => ?_)
      · replace h := opos c_72 h
        refine g_aload_n d_X12_finish_85 rfl ?_
        obtain ⟨r_86, h_86, h⟩ := obind h
        refine g_callV (As := []) d_X12_finish_86 o_X12_commands l_X12_224 ⟨Nat.le_of_ble_eq_true rfl, Nat.le_of_ble_eq_true rfl⟩ (c_m_commands hE C N t _ h_86) (gm0 t C) rfl rfl rfl rfl rfl ?_ (Nat.zero_add _)
        refine g_aload_n d_X12_finish_89 rfl ?_
        refine g_getf d_X12_finish_90 f_X12_7 (gm0 r_86 C) rfl ?_
        refine g_iconst (v := 4) d_X12_finish_93 (by decide) ?_
        refine g_iald d_X12_finish_94 (gm_1 r_86 C) (inB_in (by decide)) ?_
        refine g_iload_n d_X12_finish_95 rfl ?_
        refine g_isub d_X12_finish_96 ?_
        obtain rfl := osome h
        exact g_retI d_X12_finish_97 rfl rfl rfl
      · replace h := oneg c_72 h
        refine g_aload_n d_X12_finish_75 rfl ?_
        obtain ⟨r_76, h_76, h⟩ := obind h
        refine g_callV (As := []) d_X12_finish_76 o_X12_goesBack l_X12_243 ⟨Nat.le_of_ble_eq_true rfl, Nat.le_of_ble_eq_true rfl⟩ (c_m_goesBack hE C N t _ h_76) (gm0 t C) rfl rfl rfl rfl rfl ?_ (Nat.zero_add _)
        refine g_aload_n d_X12_finish_79 rfl ?_
        refine g_iconst (v := 3) d_X12_finish_80 (by decide) ?_
        obtain ⟨r_81, h_81, h⟩ := obind h
        refine g_callV (As := [.int 3]) d_X12_finish_81 o_X12_fails l_X12_114 ⟨Nat.le_of_ble_eq_true rfl, Nat.le_of_ble_eq_true rfl⟩ (c_m_fails hE C r_76 3 _ h_81) (gm0 r_76 C) rfl rfl rfl rfl rfl ?_ (Nat.zero_add _)
        obtain rfl := osome h
        exact g_retI d_X12_finish_84 rfl rfl rfl
    · replace h := oneg c_34 h
      refine g_aload_n d_X12_finish_37 rfl ?_
      refine g_aload_n d_X12_finish_38 rfl ?_
      refine g_getf d_X12_finish_39 f_X12_67 (gm0 t C) rfl ?_
      refine g_iload_n d_X12_finish_42 rfl ?_
      obtain ⟨i_43, h⟩ := ochk h
      refine g_iald d_X12_finish_43 (gm_18 t C) (inB_in i_43) ?_
      refine g_iconst (v := 4) d_X12_finish_44 (by decide) ?_
      refine g_idiv d_X12_finish_45 (by decide) ?_
      refine g_aload_n d_X12_finish_46 rfl ?_
      refine g_getf d_X12_finish_47 f_X12_67 (gm0 t C) rfl ?_
      refine g_iload_n d_X12_finish_50 rfl ?_
      obtain ⟨i_51, h⟩ := ochk h
      refine g_iald d_X12_finish_51 (gm_18 t C) (inB_in i_51) ?_
      refine g_iconst (v := 4) d_X12_finish_52 (by decide) ?_
      refine g_irem d_X12_finish_53 (by decide) ?_
      obtain ⟨r_54, h_54, h⟩ := obind h
      refine g_callV (As := [.int (((ra t 18) (Int32.toNatClampNeg v3)) / 4), .int (((ra t 18) (Int32.toNatClampNeg v3)) - ((ra t 18) (Int32.toNatClampNeg v3)) / 4 * 4)]) d_X12_finish_54 o_X12_walksAndPushes l_X12_239 ⟨Nat.le_of_ble_eq_true rfl, Nat.le_of_ble_eq_true rfl⟩ (c_m_walksAndPushes hE C N t (((ra t 18) (Int32.toNatClampNeg v3)) / 4) (((ra t 18) (Int32.toNatClampNeg v3)) - ((ra t 18) (Int32.toNatClampNeg v3)) / 4 * 4) _ h_54) (gm0 t C) rfl rfl rfl rfl rfl ?_ (Nat.zero_add _)
      refine g_iinc (v := (v3 + 1)) (L' := [some (.ref 0), none, some (.int v2), some (.int (v3 + 1))]) d_X12_finish_57 rfl rfl rfl ?_
      refine g_goto (tgt := 29) d_X12_finish_60 (by decide) ?_
      exact (ih) v2 (v3 + 1) r_54 _ h
theorem c_m_finish {E : mEnv} (hE : E.1.stackTraces = false) (C : List mE) (N : Nat) (t : xT) (a0 : Int32) (r : Int32 × xT) (h : f_finish N t a0 = some r) : Rt E M_X12_finish 0 [.ref 0, .int a0] (mw t, C) (some (.int r.1)) (mw r.2, C) := by
  unfold f_finish at h
  refine Rt.of hE rfl pn_X12 (Nat.le_of_ble_eq_true rfl) ?_
  refine g_eq (S' := (0, [some (.ref 0), some (.int a0), none, none], [], (mw t, C))) rfl ?_
  refine g_aload_n d_X12_finish_0 rfl ?_
  refine g_iload_n d_X12_finish_1 rfl ?_
  refine g_iconst (v := 1) d_X12_finish_2 (by decide) ?_
  obtain ⟨r_3, h_3, h⟩ := obind h
  refine g_callV (As := [.int a0, .int 1]) d_X12_finish_3 o_X12_solve l_X12_290 ⟨Nat.le_of_ble_eq_true rfl, Nat.le_of_ble_eq_true rfl⟩ (c_m_solve hE C N t a0 1 _ h_3) (gm0 t C) rfl rfl rfl rfl rfl ?_ (Nat.zero_add _)
  refine g_pop d_X12_finish_6 rfl ?_
  refine g_aload_n d_X12_finish_7 rfl ?_
  refine g_getf d_X12_finish_8 f_X12_73 (gm0 r_3.2 C) rfl ?_
  refine g_if_le (tgt := 16) d_X12_finish_11 (by decide) (fun c_11 => ?_) (fun c_11 => ?_)
  · replace h := opos c_11 h
    refine g_aload_n d_X12_finish_16 rfl ?_
    obtain ⟨r_17, h_17, h⟩ := obind h
    refine g_callV (As := []) d_X12_finish_17 o_X12_remembers l_X12_221 ⟨Nat.le_of_ble_eq_true rfl, Nat.le_of_ble_eq_true rfl⟩ (c_m_remembers hE C N r_3.2 _ h_17) (gm0 r_3.2 C) rfl rfl rfl rfl rfl ?_ (Nat.zero_add _)
    refine g_aload_n d_X12_finish_20 rfl ?_
    refine g_getf d_X12_finish_21 f_X12_7 (gm0 r_17 C) rfl ?_
    refine g_iconst (v := 4) d_X12_finish_24 (by decide) ?_
    refine g_iald d_X12_finish_25 (gm_1 r_17 C) (inB_in (by decide)) ?_
    refine g_istore_n (L' := [some (.ref 0), some (.int a0), some (.int ((ra r_17 1) (Int32.toNatClampNeg 4))), none]) d_X12_finish_26 rfl rfl ?_
    refine g_iconst (v := 0) d_X12_finish_27 (by decide) ?_
    refine g_istore_n (L' := [some (.ref 0), some (.int a0), some (.int ((ra r_17 1) (Int32.toNatClampNeg 4))), some (.int 0)]) d_X12_finish_28 rfl rfl ?_
    refine g_drop [1] (L1 := [some (.ref 0), none, some (.int ((ra r_17 1) (Int32.toNatClampNeg 4))), some (.int 0)]) rfl ?_
    exact (l_m_finish hE C N N) ((ra r_17 1) (Int32.toNatClampNeg 4)) 0 r_17 _ h
  · replace h := oneg c_11 h
    refine g_iconst (v := 0) d_X12_finish_14 (by decide) ?_
    obtain rfl := osome h
    exact g_retI d_X12_finish_15 rfl rfl rfl
def f_recorded (t : xT) (a0 : Int32) : Option (Int32 × xT) :=
  Option.bind (f_in a0 0 (((ra t 1) (Int32.toNatClampNeg 4)) - 1)) fun r_11 =>
  Option.bind (if r_11 = 0 then (some (1 : Int32))
    else (some (0 : Int32))) fun (r_14 : Int32) =>
  Option.bind (some (ws t 9 r_14)) fun t_22 =>
  if (rs t_22 9) ≤ 0 then (if inB (202 + a0) 602 = true then (if inB (202 + a0) 602 = true then (Option.bind (if ((ra t_22 1) (Int32.toNatClampNeg (202 + a0))) < 4 then (some (0 : Int32))
      else (some (1 : Int32))) fun (r_59 : Int32) =>
    Option.bind (if (((ra t_22 1) (Int32.toNatClampNeg (202 + a0))) - ((ra t_22 1) (Int32.toNatClampNeg (202 + a0))) / 4 * 4) = 0 then (some (117 : Int32))
      else (if (((ra t_22 1) (Int32.toNatClampNeg (202 + a0))) - ((ra t_22 1) (Int32.toNatClampNeg (202 + a0))) / 4 * 4) = 1 then (some (114 : Int32))
        else (if (((ra t_22 1) (Int32.toNatClampNeg (202 + a0))) - ((ra t_22 1) (Int32.toNatClampNeg (202 + a0))) / 4 * 4) = 2 then (some (100 : Int32))
          else (some (108 : Int32))))) fun (r_69 : Int32) =>
    Option.bind (if (((ra t_22 1) (Int32.toNatClampNeg (202 + a0))) - ((ra t_22 1) (Int32.toNatClampNeg (202 + a0))) / 4 * 4) = 0 then (some (85 : Int32))
      else (if (((ra t_22 1) (Int32.toNatClampNeg (202 + a0))) - ((ra t_22 1) (Int32.toNatClampNeg (202 + a0))) / 4 * 4) = 1 then (some (82 : Int32))
        else (if (((ra t_22 1) (Int32.toNatClampNeg (202 + a0))) - ((ra t_22 1) (Int32.toNatClampNeg (202 + a0))) / 4 * 4) = 2 then (some (68 : Int32))
          else (some (76 : Int32))))) fun (r_102 : Int32) =>
    Option.bind (if r_59 = 0 then (some r_69)
      else (some r_102)) fun (r_135 : Int32) =>
    if inB r_135 65536 = true then (some (r_135, t_22)) else none) else none) else none)
  else (some ((97 : Int32), t_22))
theorem d_X12_recorded_0 : decode (mB M_X12_recorded) 0 = .ok (.aload_n 0, 1) := by decide +kernel
theorem d_X12_recorded_1 : decode (mB M_X12_recorded) 1 = .ok (.iload_n 1, 1) := by decide +kernel
theorem d_X12_recorded_2 : decode (mB M_X12_recorded) 2 = .ok (.iconst 0, 1) := by decide +kernel
theorem d_X12_recorded_3 : decode (mB M_X12_recorded) 3 = .ok (.aload_n 0, 1) := by decide +kernel
theorem d_X12_recorded_4 : decode (mB M_X12_recorded) 4 = .ok (.getfield 7, 3) := by decide +kernel
theorem d_X12_recorded_7 : decode (mB M_X12_recorded) 7 = .ok (.iconst 4, 1) := by decide +kernel
theorem d_X12_recorded_8 : decode (mB M_X12_recorded) 8 = .ok (.iaload, 1) := by decide +kernel
theorem d_X12_recorded_9 : decode (mB M_X12_recorded) 9 = .ok (.iconst 1, 1) := by decide +kernel
theorem d_X12_recorded_10 : decode (mB M_X12_recorded) 10 = .ok (.isub, 1) := by decide +kernel
theorem d_X12_recorded_11 : decode (mB M_X12_recorded) 11 = .ok (.invokestatic 76, 3) := by decide +kernel
theorem d_X12_recorded_14 : decode (mB M_X12_recorded) 14 = .ok (.ifCond .eq 7, 3) := by decide +kernel
theorem d_X12_recorded_17 : decode (mB M_X12_recorded) 17 = .ok (.iconst 0, 1) := by decide +kernel
theorem d_X12_recorded_18 : decode (mB M_X12_recorded) 18 = .ok (.goto 4, 3) := by decide +kernel
theorem d_X12_recorded_21 : decode (mB M_X12_recorded) 21 = .ok (.iconst 1, 1) := by decide +kernel
theorem d_X12_recorded_22 : decode (mB M_X12_recorded) 22 = .ok (.putfield 73, 3) := by decide +kernel
theorem d_X12_recorded_25 : decode (mB M_X12_recorded) 25 = .ok (.aload_n 0, 1) := by decide +kernel
theorem d_X12_recorded_26 : decode (mB M_X12_recorded) 26 = .ok (.getfield 73, 3) := by decide +kernel
theorem d_X12_recorded_29 : decode (mB M_X12_recorded) 29 = .ok (.ifCond .le 6, 3) := by decide +kernel
theorem d_X12_recorded_32 : decode (mB M_X12_recorded) 32 = .ok (.bipush 97, 2) := by decide +kernel
theorem d_X12_recorded_34 : decode (mB M_X12_recorded) 34 = .ok (.ireturn, 1) := by decide +kernel
theorem d_X12_recorded_35 : decode (mB M_X12_recorded) 35 = .ok (.aload_n 0, 1) := by decide +kernel
theorem d_X12_recorded_36 : decode (mB M_X12_recorded) 36 = .ok (.getfield 7, 3) := by decide +kernel
theorem d_X12_recorded_39 : decode (mB M_X12_recorded) 39 = .ok (.sipush 202, 3) := by decide +kernel
theorem d_X12_recorded_42 : decode (mB M_X12_recorded) 42 = .ok (.iload_n 1, 1) := by decide +kernel
theorem d_X12_recorded_43 : decode (mB M_X12_recorded) 43 = .ok (.iadd, 1) := by decide +kernel
theorem d_X12_recorded_44 : decode (mB M_X12_recorded) 44 = .ok (.iaload, 1) := by decide +kernel
theorem d_X12_recorded_45 : decode (mB M_X12_recorded) 45 = .ok (.iconst 4, 1) := by decide +kernel
theorem d_X12_recorded_46 : decode (mB M_X12_recorded) 46 = .ok (.irem, 1) := by decide +kernel
theorem d_X12_recorded_47 : decode (mB M_X12_recorded) 47 = .ok (.istore_n 2, 1) := by decide +kernel
theorem d_X12_recorded_48 : decode (mB M_X12_recorded) 48 = .ok (.aload_n 0, 1) := by decide +kernel
theorem d_X12_recorded_49 : decode (mB M_X12_recorded) 49 = .ok (.getfield 7, 3) := by decide +kernel
theorem d_X12_recorded_52 : decode (mB M_X12_recorded) 52 = .ok (.sipush 202, 3) := by decide +kernel
theorem d_X12_recorded_55 : decode (mB M_X12_recorded) 55 = .ok (.iload_n 1, 1) := by decide +kernel
theorem d_X12_recorded_56 : decode (mB M_X12_recorded) 56 = .ok (.iadd, 1) := by decide +kernel
theorem d_X12_recorded_57 : decode (mB M_X12_recorded) 57 = .ok (.iaload, 1) := by decide +kernel
theorem d_X12_recorded_58 : decode (mB M_X12_recorded) 58 = .ok (.iconst 4, 1) := by decide +kernel
theorem d_X12_recorded_59 : decode (mB M_X12_recorded) 59 = .ok (.if_icmp .lt 7, 3) := by decide +kernel
theorem d_X12_recorded_62 : decode (mB M_X12_recorded) 62 = .ok (.iconst 1, 1) := by decide +kernel
theorem d_X12_recorded_63 : decode (mB M_X12_recorded) 63 = .ok (.goto 4, 3) := by decide +kernel
theorem d_X12_recorded_66 : decode (mB M_X12_recorded) 66 = .ok (.iconst 0, 1) := by decide +kernel
theorem d_X12_recorded_67 : decode (mB M_X12_recorded) 67 = .ok (.istore_n 3, 1) := by decide +kernel
theorem d_X12_recorded_68 : decode (mB M_X12_recorded) 68 = .ok (.iload_n 2, 1) := by decide +kernel
theorem d_X12_recorded_69 : decode (mB M_X12_recorded) 69 = .ok (.ifCond .ne 8, 3) := by decide +kernel
theorem d_X12_recorded_72 : decode (mB M_X12_recorded) 72 = .ok (.bipush 117, 2) := by decide +kernel
theorem d_X12_recorded_74 : decode (mB M_X12_recorded) 74 = .ok (.goto 25, 3) := by decide +kernel
theorem d_X12_recorded_77 : decode (mB M_X12_recorded) 77 = .ok (.iload_n 2, 1) := by decide +kernel
theorem d_X12_recorded_78 : decode (mB M_X12_recorded) 78 = .ok (.iconst 1, 1) := by decide +kernel
theorem d_X12_recorded_79 : decode (mB M_X12_recorded) 79 = .ok (.if_icmp .ne 8, 3) := by decide +kernel
theorem d_X12_recorded_82 : decode (mB M_X12_recorded) 82 = .ok (.bipush 114, 2) := by decide +kernel
theorem d_X12_recorded_84 : decode (mB M_X12_recorded) 84 = .ok (.goto 15, 3) := by decide +kernel
theorem d_X12_recorded_87 : decode (mB M_X12_recorded) 87 = .ok (.iload_n 2, 1) := by decide +kernel
theorem d_X12_recorded_88 : decode (mB M_X12_recorded) 88 = .ok (.iconst 2, 1) := by decide +kernel
theorem d_X12_recorded_89 : decode (mB M_X12_recorded) 89 = .ok (.if_icmp .ne 8, 3) := by decide +kernel
theorem d_X12_recorded_92 : decode (mB M_X12_recorded) 92 = .ok (.bipush 100, 2) := by decide +kernel
theorem d_X12_recorded_94 : decode (mB M_X12_recorded) 94 = .ok (.goto 5, 3) := by decide +kernel
theorem d_X12_recorded_97 : decode (mB M_X12_recorded) 97 = .ok (.bipush 108, 2) := by decide +kernel
theorem d_X12_recorded_99 : decode (mB M_X12_recorded) 99 = .ok (.istore 4, 2) := by decide +kernel
theorem d_X12_recorded_101 : decode (mB M_X12_recorded) 101 = .ok (.iload_n 2, 1) := by decide +kernel
theorem d_X12_recorded_102 : decode (mB M_X12_recorded) 102 = .ok (.ifCond .ne 8, 3) := by decide +kernel
theorem d_X12_recorded_105 : decode (mB M_X12_recorded) 105 = .ok (.bipush 85, 2) := by decide +kernel
theorem d_X12_recorded_107 : decode (mB M_X12_recorded) 107 = .ok (.goto 25, 3) := by decide +kernel
theorem d_X12_recorded_110 : decode (mB M_X12_recorded) 110 = .ok (.iload_n 2, 1) := by decide +kernel
theorem d_X12_recorded_111 : decode (mB M_X12_recorded) 111 = .ok (.iconst 1, 1) := by decide +kernel
theorem d_X12_recorded_112 : decode (mB M_X12_recorded) 112 = .ok (.if_icmp .ne 8, 3) := by decide +kernel
theorem d_X12_recorded_115 : decode (mB M_X12_recorded) 115 = .ok (.bipush 82, 2) := by decide +kernel
theorem d_X12_recorded_117 : decode (mB M_X12_recorded) 117 = .ok (.goto 15, 3) := by decide +kernel
theorem d_X12_recorded_120 : decode (mB M_X12_recorded) 120 = .ok (.iload_n 2, 1) := by decide +kernel
theorem d_X12_recorded_121 : decode (mB M_X12_recorded) 121 = .ok (.iconst 2, 1) := by decide +kernel
theorem d_X12_recorded_122 : decode (mB M_X12_recorded) 122 = .ok (.if_icmp .ne 8, 3) := by decide +kernel
theorem d_X12_recorded_125 : decode (mB M_X12_recorded) 125 = .ok (.bipush 68, 2) := by decide +kernel
theorem d_X12_recorded_127 : decode (mB M_X12_recorded) 127 = .ok (.goto 5, 3) := by decide +kernel
theorem d_X12_recorded_130 : decode (mB M_X12_recorded) 130 = .ok (.bipush 76, 2) := by decide +kernel
theorem d_X12_recorded_132 : decode (mB M_X12_recorded) 132 = .ok (.istore 5, 2) := by decide +kernel
theorem d_X12_recorded_134 : decode (mB M_X12_recorded) 134 = .ok (.iload_n 3, 1) := by decide +kernel
theorem d_X12_recorded_135 : decode (mB M_X12_recorded) 135 = .ok (.ifCond .eq 8, 3) := by decide +kernel
theorem d_X12_recorded_138 : decode (mB M_X12_recorded) 138 = .ok (.iload 5, 2) := by decide +kernel
theorem d_X12_recorded_140 : decode (mB M_X12_recorded) 140 = .ok (.goto 5, 3) := by decide +kernel
theorem d_X12_recorded_143 : decode (mB M_X12_recorded) 143 = .ok (.iload 4, 2) := by decide +kernel
theorem d_X12_recorded_145 : decode (mB M_X12_recorded) 145 = .ok (.ireturn, 1) := by decide +kernel
theorem c_m_recorded {E : mEnv} (hE : E.1.stackTraces = false) (C : List mE) (t : xT) (a0 : Int32) (r : Int32 × xT) (h : f_recorded t a0 = some r) : Rt E M_X12_recorded 0 [.ref 0, .int a0] (mw t, C) (some (.int r.1)) (mw r.2, C) := by
  unfold f_recorded at h
  refine Rt.of hE rfl pn_X12 (Nat.le_of_ble_eq_true rfl) ?_
  refine g_eq (S' := (0, [some (.ref 0), some (.int a0), none, none, none, none], [], (mw t, C))) rfl ?_
  refine g_aload_n d_X12_recorded_0 rfl ?_
  refine g_iload_n d_X12_recorded_1 rfl ?_
  refine g_iconst (v := 0) d_X12_recorded_2 (by decide) ?_
  refine g_aload_n d_X12_recorded_3 rfl ?_
  refine g_getf d_X12_recorded_4 f_X12_7 (gm0 t C) rfl ?_
  refine g_iconst (v := 4) d_X12_recorded_7 (by decide) ?_
  refine g_iald d_X12_recorded_8 (gm_1 t C) (inB_in (by decide)) ?_
  refine g_iconst (v := 1) d_X12_recorded_9 (by decide) ?_
  refine g_isub d_X12_recorded_10 ?_
  obtain ⟨r_11, h_11, h⟩ := obind h
  refine g_callS (As := [.int a0, .int 0, .int (((ra t 1) (Int32.toNatClampNeg 4)) - 1)]) d_X12_recorded_11 o_X12_in l_X12_76 ⟨Nat.le_of_ble_eq_true rfl, Nat.le_of_ble_eq_true rfl⟩ (c_m_in hE C t a0 0 (((ra t 1) (Int32.toNatClampNeg 4)) - 1) _ h_11) rfl rfl ?_ (Nat.zero_add _)
  obtain ⟨r_14, h_14, hh_14⟩ := obind h
  refine Go.trans0 (S1 := (22, [some (.ref 0), some (.int a0), none, none, none, none], [.int r_14, .ref 0], (mw t, C))) ?_ ?_
  · replace h := h_14
    clear hh_14
    refine g_if_eq (tgt := 21) d_X12_recorded_14 (by decide) (fun c_14 => ?_) (fun c_14 => ?_)
    · replace h := opos c_14 h
      refine g_iconst (v := 1) d_X12_recorded_21 (by decide) ?_
      obtain rfl := osome h
      exact g_end rfl
    · replace h := oneg c_14 h
      refine g_iconst (v := 0) d_X12_recorded_17 (by decide) ?_
      refine g_goto (tgt := 22) d_X12_recorded_18 (by decide) ?_
      obtain rfl := osome h
      exact g_end rfl
  replace h := hh_14
  obtain ⟨t_22, e_22, h⟩ := olet h
  refine g_putI (w' := (mw t_22, C)) d_X12_recorded_22 p_X12_73 rfl rfl (gm0 t C) (Nat.le_of_ble_eq_true rfl) (by rw [e_22]; exact sc_9 t C _) ?_
  refine g_aload_n d_X12_recorded_25 rfl ?_
  refine g_getf d_X12_recorded_26 f_X12_73 (gm0 t_22 C) rfl ?_
  refine g_if_le (tgt := 35) d_X12_recorded_29 (by decide) (fun c_29 => ?_) (fun c_29 => ?_)
  · replace h := opos c_29 h
    refine g_aload_n d_X12_recorded_35 rfl ?_
    refine g_getf d_X12_recorded_36 f_X12_7 (gm0 t_22 C) rfl ?_
    refine g_sipush (v := 202) d_X12_recorded_39 (by decide) ?_
    refine g_iload_n d_X12_recorded_42 rfl ?_
    refine g_iadd d_X12_recorded_43 ?_
    obtain ⟨i_44, h⟩ := ochk h
    refine g_iald d_X12_recorded_44 (gm_1 t_22 C) (inB_in i_44) ?_
    refine g_iconst (v := 4) d_X12_recorded_45 (by decide) ?_
    refine g_irem d_X12_recorded_46 (by decide) ?_
    refine g_istore_n (L' := [some (.ref 0), some (.int a0), some (.int (((ra t_22 1) (Int32.toNatClampNeg (202 + a0))) - ((ra t_22 1) (Int32.toNatClampNeg (202 + a0))) / 4 * 4)), none, none, none]) d_X12_recorded_47 rfl rfl ?_
    refine g_aload_n d_X12_recorded_48 rfl ?_
    refine g_getf d_X12_recorded_49 f_X12_7 (gm0 t_22 C) rfl ?_
    refine g_sipush (v := 202) d_X12_recorded_52 (by decide) ?_
    refine g_iload_n d_X12_recorded_55 rfl ?_
    refine g_iadd d_X12_recorded_56 ?_
    obtain ⟨i_57, h⟩ := ochk h
    refine g_iald d_X12_recorded_57 (gm_1 t_22 C) (inB_in i_57) ?_
    refine g_iconst (v := 4) d_X12_recorded_58 (by decide) ?_
    obtain ⟨r_59, h_59, hh_59⟩ := obind h
    refine Go.trans0 (S1 := (67, [none, none, some (.int (((ra t_22 1) (Int32.toNatClampNeg (202 + a0))) - ((ra t_22 1) (Int32.toNatClampNeg (202 + a0))) / 4 * 4)), none, none, none], [.int r_59], (mw t_22, C))) ?_ ?_
    · replace h := h_59
      clear hh_59
      refine g_icmp_lt (tgt := 66) d_X12_recorded_59 (by decide) (fun c_59 => ?_) (fun c_59 => ?_)
      · replace h := opos c_59 h
        refine g_iconst (v := 0) d_X12_recorded_66 (by decide) ?_
        obtain rfl := osome h
        exact g_drop [0, 1] rfl (g_end rfl)
      · replace h := oneg c_59 h
        refine g_iconst (v := 1) d_X12_recorded_62 (by decide) ?_
        refine g_goto (tgt := 67) d_X12_recorded_63 (by decide) ?_
        obtain rfl := osome h
        exact g_drop [0, 1] rfl (g_end rfl)
    replace h := hh_59
    refine g_istore_n (L' := [none, none, some (.int (((ra t_22 1) (Int32.toNatClampNeg (202 + a0))) - ((ra t_22 1) (Int32.toNatClampNeg (202 + a0))) / 4 * 4)), some (.int r_59), none, none]) d_X12_recorded_67 rfl rfl ?_
    refine g_iload_n d_X12_recorded_68 rfl ?_
    obtain ⟨r_69, h_69, hh_69⟩ := obind h
    refine Go.trans0 (S1 := (99, [none, none, some (.int (((ra t_22 1) (Int32.toNatClampNeg (202 + a0))) - ((ra t_22 1) (Int32.toNatClampNeg (202 + a0))) / 4 * 4)), some (.int r_59), none, none], [.int r_69], (mw t_22, C))) ?_ ?_
    · replace h := h_69
      clear hh_69
      refine g_if_ne (tgt := 77) d_X12_recorded_69 (by decide) (fun c_69 => ?_) (fun c_69 => ?_)
      · replace h := oneg c_69 h
        refine g_iload_n d_X12_recorded_77 rfl ?_
        refine g_iconst (v := 1) d_X12_recorded_78 (by decide) ?_
        refine g_icmp_ne (tgt := 87) d_X12_recorded_79 (by decide) (fun c_79 => ?_) (fun c_79 => ?_)
        · replace h := oneg c_79 h
          refine g_iload_n d_X12_recorded_87 rfl ?_
          refine g_iconst (v := 2) d_X12_recorded_88 (by decide) ?_
          refine g_icmp_ne (tgt := 97) d_X12_recorded_89 (by decide) (fun c_89 => ?_) (fun c_89 => ?_)
          · replace h := oneg c_89 h
            refine g_bipush (v := 108) d_X12_recorded_97 (by decide) ?_
            obtain rfl := osome h
            exact g_end rfl
          · replace h := opos c_89 h
            refine g_bipush (v := 100) d_X12_recorded_92 (by decide) ?_
            refine g_goto (tgt := 99) d_X12_recorded_94 (by decide) ?_
            obtain rfl := osome h
            exact g_end rfl
        · replace h := opos c_79 h
          refine g_bipush (v := 114) d_X12_recorded_82 (by decide) ?_
          refine g_goto (tgt := 99) d_X12_recorded_84 (by decide) ?_
          obtain rfl := osome h
          exact g_end rfl
      · replace h := opos c_69 h
        refine g_bipush (v := 117) d_X12_recorded_72 (by decide) ?_
        refine g_goto (tgt := 99) d_X12_recorded_74 (by decide) ?_
        obtain rfl := osome h
        exact g_end rfl
    replace h := hh_69
    refine g_istore (L' := [none, none, some (.int (((ra t_22 1) (Int32.toNatClampNeg (202 + a0))) - ((ra t_22 1) (Int32.toNatClampNeg (202 + a0))) / 4 * 4)), some (.int r_59), some (.int r_69), none]) d_X12_recorded_99 rfl rfl ?_
    refine g_iload_n d_X12_recorded_101 rfl ?_
    obtain ⟨r_102, h_102, hh_102⟩ := obind h
    refine Go.trans0 (S1 := (132, [none, none, none, some (.int r_59), some (.int r_69), none], [.int r_102], (mw t_22, C))) ?_ ?_
    · replace h := h_102
      clear hh_102
      refine g_if_ne (tgt := 110) d_X12_recorded_102 (by decide) (fun c_102 => ?_) (fun c_102 => ?_)
      · replace h := oneg c_102 h
        refine g_iload_n d_X12_recorded_110 rfl ?_
        refine g_iconst (v := 1) d_X12_recorded_111 (by decide) ?_
        refine g_icmp_ne (tgt := 120) d_X12_recorded_112 (by decide) (fun c_112 => ?_) (fun c_112 => ?_)
        · replace h := oneg c_112 h
          refine g_iload_n d_X12_recorded_120 rfl ?_
          refine g_iconst (v := 2) d_X12_recorded_121 (by decide) ?_
          refine g_icmp_ne (tgt := 130) d_X12_recorded_122 (by decide) (fun c_122 => ?_) (fun c_122 => ?_)
          · replace h := oneg c_122 h
            refine g_bipush (v := 76) d_X12_recorded_130 (by decide) ?_
            obtain rfl := osome h
            exact g_drop [2] rfl (g_end rfl)
          · replace h := opos c_122 h
            refine g_bipush (v := 68) d_X12_recorded_125 (by decide) ?_
            refine g_goto (tgt := 132) d_X12_recorded_127 (by decide) ?_
            obtain rfl := osome h
            exact g_drop [2] rfl (g_end rfl)
        · replace h := opos c_112 h
          refine g_bipush (v := 82) d_X12_recorded_115 (by decide) ?_
          refine g_goto (tgt := 132) d_X12_recorded_117 (by decide) ?_
          obtain rfl := osome h
          exact g_drop [2] rfl (g_end rfl)
      · replace h := opos c_102 h
        refine g_bipush (v := 85) d_X12_recorded_105 (by decide) ?_
        refine g_goto (tgt := 132) d_X12_recorded_107 (by decide) ?_
        obtain rfl := osome h
        exact g_drop [2] rfl (g_end rfl)
    replace h := hh_102
    refine g_istore (L' := [none, none, none, some (.int r_59), some (.int r_69), some (.int r_102)]) d_X12_recorded_132 rfl rfl ?_
    refine g_iload_n d_X12_recorded_134 rfl ?_
    obtain ⟨r_135, h_135, hh_135⟩ := obind h
    refine Go.trans0 (S1 := (145, [none, none, none, none, none, none], [.int r_135], (mw t_22, C))) ?_ ?_
    · replace h := h_135
      clear hh_135
      refine g_if_eq (tgt := 143) d_X12_recorded_135 (by decide) (fun c_135 => ?_) (fun c_135 => ?_)
      · replace h := opos c_135 h
        refine g_iload d_X12_recorded_143 rfl ?_
        obtain rfl := osome h
        exact g_drop [3, 4, 5] rfl (g_end rfl)
      · replace h := oneg c_135 h
        refine g_iload d_X12_recorded_138 rfl ?_
        refine g_goto (tgt := 145) d_X12_recorded_140 (by decide) ?_
        obtain rfl := osome h
        exact g_drop [3, 4, 5] rfl (g_end rfl)
    replace h := hh_135
    obtain ⟨i_145, h⟩ := ochk h
    obtain rfl := osome h
    exact g_retC d_X12_recorded_145 rfl (nar_char i_145) rfl rfl
  · replace h := oneg c_29 h
    refine g_bipush (v := 97) d_X12_recorded_32 (by decide) ?_
    obtain rfl := osome h
    exact g_retC d_X12_recorded_34 rfl (nar_char (by decide)) rfl rfl
def f_isReplayed (t : xT)  : Option (Int32 × xT) :=
  Option.bind (f_hasRoom t) fun r_2 =>
  Option.bind (if r_2 = 0 then (some (1 : Int32))
    else (some (0 : Int32))) fun (r_5 : Int32) =>
  Option.bind (some (ws t 9 r_5)) fun t_13 =>
  Option.bind (if (rs t_13 9) = 0 then (some (1 : Int32))
    else (some (0 : Int32))) fun (r_20 : Int32) =>
  if r_20 &&& 1 = r_20 then (some (r_20, t_13)) else none
theorem d_X12_isReplayed_0 : decode (mB M_X12_isReplayed) 0 = .ok (.aload_n 0, 1) := by decide +kernel
theorem d_X12_isReplayed_1 : decode (mB M_X12_isReplayed) 1 = .ok (.aload_n 0, 1) := by decide +kernel
theorem d_X12_isReplayed_2 : decode (mB M_X12_isReplayed) 2 = .ok (.invokevirtual 83, 3) := by decide +kernel
theorem d_X12_isReplayed_5 : decode (mB M_X12_isReplayed) 5 = .ok (.ifCond .eq 7, 3) := by decide +kernel
theorem d_X12_isReplayed_8 : decode (mB M_X12_isReplayed) 8 = .ok (.iconst 0, 1) := by decide +kernel
theorem d_X12_isReplayed_9 : decode (mB M_X12_isReplayed) 9 = .ok (.goto 4, 3) := by decide +kernel
theorem d_X12_isReplayed_12 : decode (mB M_X12_isReplayed) 12 = .ok (.iconst 1, 1) := by decide +kernel
theorem d_X12_isReplayed_13 : decode (mB M_X12_isReplayed) 13 = .ok (.putfield 73, 3) := by decide +kernel
theorem d_X12_isReplayed_16 : decode (mB M_X12_isReplayed) 16 = .ok (.aload_n 0, 1) := by decide +kernel
theorem d_X12_isReplayed_17 : decode (mB M_X12_isReplayed) 17 = .ok (.getfield 73, 3) := by decide +kernel
theorem d_X12_isReplayed_20 : decode (mB M_X12_isReplayed) 20 = .ok (.ifCond .ne 7, 3) := by decide +kernel
theorem d_X12_isReplayed_23 : decode (mB M_X12_isReplayed) 23 = .ok (.iconst 1, 1) := by decide +kernel
theorem d_X12_isReplayed_24 : decode (mB M_X12_isReplayed) 24 = .ok (.goto 4, 3) := by decide +kernel
theorem d_X12_isReplayed_27 : decode (mB M_X12_isReplayed) 27 = .ok (.iconst 0, 1) := by decide +kernel
theorem d_X12_isReplayed_28 : decode (mB M_X12_isReplayed) 28 = .ok (.ireturn, 1) := by decide +kernel
theorem c_m_isReplayed {E : mEnv} (hE : E.1.stackTraces = false) (C : List mE) (t : xT)  (r : Int32 × xT) (h : f_isReplayed t = some r) : Rt E M_X12_isReplayed 0 [.ref 0] (mw t, C) (some (.int r.1)) (mw r.2, C) := by
  unfold f_isReplayed at h
  refine Rt.of hE rfl pn_X12 (Nat.le_of_ble_eq_true rfl) ?_
  refine g_eq (S' := (0, [some (.ref 0)], [], (mw t, C))) rfl ?_
  refine g_aload_n d_X12_isReplayed_0 rfl ?_
  refine g_aload_n d_X12_isReplayed_1 rfl ?_
  obtain ⟨r_2, h_2, h⟩ := obind h
  refine g_callV (As := []) d_X12_isReplayed_2 o_X12_hasRoom l_X12_83 ⟨Nat.le_of_ble_eq_true rfl, Nat.le_of_ble_eq_true rfl⟩ (c_m_hasRoom hE C t _ h_2) (gm0 t C) rfl rfl rfl rfl rfl ?_ (Nat.zero_add _)
  obtain ⟨r_5, h_5, hh_5⟩ := obind h
  refine Go.trans0 (S1 := (13, [some (.ref 0)], [.int r_5, .ref 0], (mw t, C))) ?_ ?_
  · replace h := h_5
    clear hh_5
    refine g_if_eq (tgt := 12) d_X12_isReplayed_5 (by decide) (fun c_5 => ?_) (fun c_5 => ?_)
    · replace h := opos c_5 h
      refine g_iconst (v := 1) d_X12_isReplayed_12 (by decide) ?_
      obtain rfl := osome h
      exact g_end rfl
    · replace h := oneg c_5 h
      refine g_iconst (v := 0) d_X12_isReplayed_8 (by decide) ?_
      refine g_goto (tgt := 13) d_X12_isReplayed_9 (by decide) ?_
      obtain rfl := osome h
      exact g_end rfl
  replace h := hh_5
  obtain ⟨t_13, e_13, h⟩ := olet h
  refine g_putI (w' := (mw t_13, C)) d_X12_isReplayed_13 p_X12_73 rfl rfl (gm0 t C) (Nat.le_of_ble_eq_true rfl) (by rw [e_13]; exact sc_9 t C _) ?_
  refine g_aload_n d_X12_isReplayed_16 rfl ?_
  refine g_getf d_X12_isReplayed_17 f_X12_73 (gm0 t_13 C) rfl ?_
  obtain ⟨r_20, h_20, hh_20⟩ := obind h
  refine Go.trans0 (S1 := (28, [none], [.int r_20], (mw t_13, C))) ?_ ?_
  · replace h := h_20
    clear hh_20
    refine g_if_ne (tgt := 27) d_X12_isReplayed_20 (by decide) (fun c_20 => ?_) (fun c_20 => ?_)
    · replace h := oneg c_20 h
      refine g_iconst (v := 0) d_X12_isReplayed_27 (by decide) ?_
      obtain rfl := osome h
      exact g_drop [0] rfl (g_end rfl)
    · replace h := opos c_20 h
      refine g_iconst (v := 1) d_X12_isReplayed_23 (by decide) ?_
      refine g_goto (tgt := 28) d_X12_isReplayed_24 (by decide) ?_
      obtain rfl := osome h
      exact g_drop [0] rfl (g_end rfl)
  replace h := hh_20
  obtain ⟨i_28, h⟩ := ochk h
  obtain rfl := osome h
  exact g_retZ d_X12_isReplayed_28 rfl i_28 rfl rfl
