/-! the law's beginning -/
theorem d_L_law_0 : decode (mB M_L_law) 0 = .ok (.new 8, 3) := by decide +kernel
theorem d_L_law_3 : decode (mB M_L_law) 3 = .ok (.dup, 1) := by decide +kernel
theorem d_L_law_4 : decode (mB M_L_law) 4 = .ok (.invokespecial 103, 3) := by decide +kernel
theorem d_L_law_7 : decode (mB M_L_law) 7 = .ok (.astore_n 1, 1) := by decide +kernel
theorem d_L_law_8 : decode (mB M_L_law) 8 = .ok (.new 104, 3) := by decide +kernel
theorem d_L_law_11 : decode (mB M_L_law) 11 = .ok (.dup, 1) := by decide +kernel
theorem d_L_law_12 : decode (mB M_L_law) 12 = .ok (.invokespecial 106, 3) := by decide +kernel
theorem d_L_law_15 : decode (mB M_L_law) 15 = .ok (.astore_n 2, 1) := by decide +kernel
theorem d_L_law_16 : decode (mB M_L_law) 16 = .ok (.iconst 1, 1) := by decide +kernel
theorem d_L_law_17 : decode (mB M_L_law) 17 = .ok (.newarray .long, 2) := by decide +kernel
theorem d_L_law_19 : decode (mB M_L_law) 19 = .ok (.astore_n 3, 1) := by decide +kernel
theorem d_L_law_20 : decode (mB M_L_law) 20 = .ok (.iconst 0, 1) := by decide +kernel
theorem d_L_law_21 : decode (mB M_L_law) 21 = .ok (.istore 4, 2) := by decide +kernel
/-- the model's state at the start -/
def tZ : xT := (fun _ _ => 0, fun _ => 0, fun k => if k = 8 then -1 else if k = 33 then -1 else 0, fun _ => 0)
theorem law_2 {E : mEnv} (hE : E.1.stackTraces = false) : GoA E M_L_law false 0 200 20 12219 (8, [some (.ref 1200), some (.ref 100), none, none, none, none, none, none], [], ([], cw cZ)) (.inl (23, LL 0, [], (mw tZ, cw cZ))) := by
  refine a_new (bk := false) (ci := 12) (k := 0) (N := 36) (nc := 19) (ns := 12183) (fs := [.null, .null, .null, .int 0, .null, .int 0, .int 0, .int 0, .int 0, .int 0, .null, .int 0, .int 0, .int 0, .int 0, .null, .int 0, .null, .null, .null, .null, .int 0, .null, .null, .int 0, .null, .int 0, .null, .null, .null, .null, .int 0, .null, .int 0, .int 0, .int 0]) (w' := ([.inr (12, .null :: .null :: .null :: .int 0 :: .null :: .int 0 :: .int 0 :: .int 0 :: .int 0 :: .int 0 :: .null :: .int 0 :: .int 0 :: .int 0 :: .int 0 :: .null :: .int 0 :: .null :: .null :: .null :: .null :: .int 0 :: .null :: .null :: .int 0 :: .null :: .int 0 :: .null :: .null :: .null :: .null :: .int 0 :: .null :: .int 0 :: .int 0 :: .int 0 :: [])], cw cZ)) d_L_law_8 kC_L_104 kI_X12 in_X12 iw_X12 tyX12_ok rfl kD_X12 (fun _ => rfl) rfl (by decide) (by decide) rfl rfl rfl ?_ rfl rfl
  refine a_go (g_dup d_L_law_11 rfl (g_end rfl)) ?_
  refine a_call (As := []) (nc := 1) (ns := 1) d_L_law_12 o_X12_init rfl kL_L_106 ⟨Nat.le_of_ble_eq_true rfl, Nat.le_of_ble_eq_true rfl⟩ (i_X12_0 hE) rfl (by decide) (by decide) rfl rfl ?_ rfl rfl
  refine a_go (g_astore_n (L' := [some (.ref 1200), some (.ref 100), some (.ref 0), none, none, none, none, none]) d_L_law_15 rfl rfl (g_iconst (v := 1) d_L_law_16 (by decide) (g_end rfl))) ?_
  refine a_newa (bk := false) (k := 19) (t := 1) (len := 1) (nc := 0) (ns := 0) (ty := .long) (a0 := (1, .inr (.inl (fun _ => 0)))) (w' := ([.inr (12, .ref 1 :: .ref 2 :: .ref 3 :: .int 0 :: .ref 4 :: .int 0 :: .int 0 :: .int 0 :: .int (-1) :: .int 0 :: .ref 5 :: .int 0 :: .int 0 :: .int 0 :: .int 0 :: .ref 6 :: .int 0 :: .ref 7 :: .ref 8 :: .ref 9 :: .ref 10 :: .int 0 :: .ref 11 :: .ref 12 :: .int 0 :: .ref 13 :: .int 0 :: .ref 14 :: .ref 15 :: .ref 16 :: .ref 17 :: .int 0 :: .ref 18 :: .int (-1) :: .int 0 :: .int 0 :: []), .inl (0, 602, .inl (fun _ => 0)), .inl (0, 602, .inl (fun _ => 0)), .inl (0, 602, .inl (fun _ => 0)), .inl (0, 4816, .inl (fun _ => 0)), .inl (0, 80, .inl (fun _ => 0)), .inl (0, 64, .inl (fun _ => 0)), .inl (0, 64, .inl (fun _ => 0)), .inl (0, 64, .inl (fun _ => 0)), .inl (3, 64, .inl (fun _ => 0)), .inl (3, 64, .inl (fun _ => 0)), .inl (3, 64, .inl (fun _ => 0)), .inl (0, 32, .inl (fun _ => 0)), .inl (0, 64, .inl (fun _ => 0)), .inl (1, 1000, .inr (.inl (fun _ => 0))), .inl (0, 1000, .inl (fun _ => 0)), .inl (0, 1000, .inl (fun _ => 0)), .inl (0, 1000, .inl (fun _ => 0)), .inl (0, 1000, .inl (fun _ => 0)), .inl (1, 1, .inr (.inl (fun _ => 0)))], cw cZ)) d_L_law_17 kA_long rfl rfl ra_long (fun _ => rfl) (by decide) (by decide) rfl rfl (by decide) (by decide) rfl rfl rfl ?_ rfl rfl
  refine a_go (g_astore_n (L' := [some (.ref 1200), some (.ref 100), some (.ref 0), some (.ref 19), none, none, none, none]) d_L_law_19 rfl rfl (g_iconst (v := 0) d_L_law_20 (by decide) (g_istore (L' := [some (.ref 1200), some (.ref 100), some (.ref 0), some (.ref 19), some (.int 0), none, none, none]) d_L_law_21 rfl rfl (g_end rfl)))) ?_
  exact a_end rfl
theorem law_1 {E : mEnv} (hE : E.1.stackTraces = false) : GoA E M_L_law false 0 200 58 20817 (0, [some (.ref 1200), none, none, none, none, none, none, none], [], ([], [])) (.inl (23, LL 0, [], (mw tZ, cw cZ))) := by
  refine a_new (bk := true) (ci := 11) (k := 100) (N := 12) (nc := 57) (ns := 20805) (fs := [.null, .null, .null, .null, .null, .null, .null, .null, .null, .int 0, .int 0, .int 0]) (w' := ([], [.inr (11, [.null, .null, .null, .null, .null, .null, .null, .null, .null, .int 0, .int 0, .int 0])])) d_L_law_0 kC_L_8 kI_X11 in_X11 iw_X11 tyX11_ok rfl kD_X11 (fun _ => rfl) rfl (by decide) (by decide) rfl rfl rfl ?_ rfl rfl
  refine a_go (g_dup d_L_law_3 rfl (g_end rfl)) ?_
  refine a_call (As := []) (nc := 20) (ns := 12219) d_L_law_4 o_X11_init rfl kL_L_103 ⟨Nat.le_of_ble_eq_true rfl, Nat.le_of_ble_eq_true rfl⟩ (i_X11_100 hE) rfl (by decide) (by decide) rfl rfl ?_ rfl rfl
  refine a_go (g_astore_n (L' := [some (.ref 1200), some (.ref 100), none, none, none, none, none, none]) d_L_law_7 rfl rfl (g_end rfl)) ?_
  rw [cw_Z]
  exact law_2 hE
