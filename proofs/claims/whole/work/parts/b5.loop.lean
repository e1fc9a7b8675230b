/-! the law's loop (printed by gen/pb5.py) -/
theorem d_L_law_23 : decode (mB M_L_law) 23 = .ok (.iload 4, 2) := by decide +kernel
theorem d_L_law_25 : decode (mB M_L_law) 25 = .ok (.aload_n 0, 1) := by decide +kernel
theorem d_L_law_26 : decode (mB M_L_law) 26 = .ok (.arraylength, 1) := by decide +kernel
theorem d_L_law_27 : decode (mB M_L_law) 27 = .ok (.iconst 3, 1) := by decide +kernel
theorem d_L_law_28 : decode (mB M_L_law) 28 = .ok (.isub, 1) := by decide +kernel
theorem d_L_law_29 : decode (mB M_L_law) 29 = .ok (.if_icmp .gt 1541, 3) := by decide +kernel
theorem d_L_law_32 : decode (mB M_L_law) 32 = .ok (.aload_n 0, 1) := by decide +kernel
theorem d_L_law_33 : decode (mB M_L_law) 33 = .ok (.iload 4, 2) := by decide +kernel
theorem d_L_law_35 : decode (mB M_L_law) 35 = .ok (.iaload, 1) := by decide +kernel
theorem d_L_law_36 : decode (mB M_L_law) 36 = .ok (.bipush 31, 2) := by decide +kernel
theorem d_L_law_38 : decode (mB M_L_law) 38 = .ok (.iand, 1) := by decide +kernel
theorem d_L_law_39 : decode (mB M_L_law) 39 = .ok (.tableswitch 1525 0 23 #[109, 167, 211, 279, 334, 390, 458, 502, 574, 642, 698, 766, 834, 878, 922, 994, 1062, 1146, 1230, 1286, 1342, 1393, 1437, 1481], 109) := by decide +kernel
theorem d_L_law_1564 : decode (mB M_L_law) 1564 = .ok (.iinc 4 3, 3) := by decide +kernel
theorem d_L_law_1567 : decode (mB M_L_law) 1567 = .ok (.goto (-1544), 3) := by decide +kernel
theorem d_L_law_1570 : decode (mB M_L_law) 1570 = .ok (.iconst 1, 1) := by decide +kernel
theorem d_L_law_1571 : decode (mB M_L_law) 1571 = .ok (.ireturn, 1) := by decide +kernel
theorem law_sw {E : mEnv} (hE : E.1.stackTraces = false) {b L k N : Nat} {xs : Nat → Int32} (hN : 10000 ≤ N) (hL : L ≤ 1536) (hk : k + 2 < L) {c : cT} {t : xT} (h : ReL c t) (x : Int32) : ∃ (c' : cT) (u : xT), ReL c' u ∧ GoL E b L xs M_L_law 1 (39, LL k, [.int x], (mw t, cw c)) (.inl (1564, LL k, [], (mw u, cw c'))) := by
  by_cases h0 : x = 0
  · obtain ⟨c', u, R, g⟩ := s_case_feed (E := E) hE (b := b) (xs := xs) hN hL hk h
    exact ⟨c', u, R, l_go0 (g_tabIn (off := 109) (tgt := 148) d_L_law_39 (by rw [h0]; decide) (by rw [h0]; decide) (by rw [h0]; rfl) (by decide) (g_end rfl)) g⟩
  by_cases h1 : x = 1
  · obtain ⟨c', u, R, g⟩ := s_case_readRoom (E := E) hE (b := b) (xs := xs) hN hL hk h
    exact ⟨c', u, R, l_go0 (g_tabIn (off := 167) (tgt := 206) d_L_law_39 (by rw [h1]; decide) (by rw [h1]; decide) (by rw [h1]; rfl) (by decide) (g_end rfl)) g⟩
  by_cases h2 : x = 2
  · obtain ⟨c', u, R, g⟩ := s_case_cell (E := E) hE (b := b) (xs := xs) hN hL hk h
    exact ⟨c', u, R, l_go0 (g_tabIn (off := 211) (tgt := 250) d_L_law_39 (by rw [h2]; decide) (by rw [h2]; decide) (by rw [h2]; rfl) (by decide) (g_end rfl)) g⟩
  by_cases h3 : x = 3
  · obtain ⟨c', u, R, g⟩ := s_case_cells (E := E) hE (b := b) (xs := xs) hN hL hk h
    exact ⟨c', u, R, l_go0 (g_tabIn (off := 279) (tgt := 318) d_L_law_39 (by rw [h3]; decide) (by rw [h3]; decide) (by rw [h3]; rfl) (by decide) (g_end rfl)) g⟩
  by_cases h4 : x = 4
  · obtain ⟨c', u, R, g⟩ := s_case_count (E := E) hE (b := b) (xs := xs) hN hL hk h
    exact ⟨c', u, R, l_go0 (g_tabIn (off := 334) (tgt := 373) d_L_law_39 (by rw [h4]; decide) (by rw [h4]; decide) (by rw [h4]; rfl) (by decide) (g_end rfl)) g⟩
  by_cases h5 : x = 5
  · obtain ⟨c', u, R, g⟩ := s_case_distance (E := E) hE (b := b) (xs := xs) hN hL hk h
    exact ⟨c', u, R, l_go0 (g_tabIn (off := 390) (tgt := 429) d_L_law_39 (by rw [h5]; decide) (by rw [h5]; decide) (by rw [h5]; rfl) (by decide) (g_end rfl)) g⟩
  by_cases h6 : x = 6
  · obtain ⟨c', u, R, g⟩ := s_case_bound (E := E) hE (b := b) (xs := xs) hN hL hk h
    exact ⟨c', u, R, l_go0 (g_tabIn (off := 458) (tgt := 497) d_L_law_39 (by rw [h6]; decide) (by rw [h6]; decide) (by rw [h6]; rfl) (by decide) (g_end rfl)) g⟩
  by_cases h7 : x = 7
  · obtain ⟨c', u, R, g⟩ := s_case_stuck (E := E) hE (b := b) (xs := xs) hN hL hk h
    exact ⟨c', u, R, l_go0 (g_tabIn (off := 502) (tgt := 541) d_L_law_39 (by rw [h7]; decide) (by rw [h7]; decide) (by rw [h7]; rfl) (by decide) (g_end rfl)) g⟩
  by_cases h8 : x = 8
  · obtain ⟨c', u, R, g⟩ := s_case_goalRoom (E := E) hE (b := b) (xs := xs) hN hL hk h
    exact ⟨c', u, R, l_go0 (g_tabIn (off := 574) (tgt := 613) d_L_law_39 (by rw [h8]; decide) (by rw [h8]; decide) (by rw [h8]; rfl) (by decide) (g_end rfl)) g⟩
  by_cases h9 : x = 9
  · obtain ⟨c', u, R, g⟩ := s_case_step (E := E) hE (b := b) (xs := xs) hN hL hk h
    exact ⟨c', u, R, l_go0 (g_tabIn (off := 642) (tgt := 681) d_L_law_39 (by rw [h9]; decide) (by rw [h9]; decide) (by rw [h9]; rfl) (by decide) (g_end rfl)) g⟩
  by_cases h10 : x = 10
  · obtain ⟨c', u, R, g⟩ := s_case_push (E := E) hE (b := b) (xs := xs) hN hL hk h
    exact ⟨c', u, R, l_go0 (g_tabIn (off := 698) (tgt := 737) d_L_law_39 (by rw [h10]; decide) (by rw [h10]; decide) (by rw [h10]; rfl) (by decide) (g_end rfl)) g⟩
  by_cases h11 : x = 11
  · obtain ⟨c', u, R, g⟩ := s_case_longPush (E := E) hE (b := b) (xs := xs) hN hL hk h
    exact ⟨c', u, R, l_go0 (g_tabIn (off := 766) (tgt := 805) d_L_law_39 (by rw [h11]; decide) (by rw [h11]; decide) (by rw [h11]; rfl) (by decide) (g_end rfl)) g⟩
  by_cases h12 : x = 12
  · obtain ⟨c', u, R, g⟩ := s_case_play (E := E) hE (b := b) (xs := xs) hN hL hk h
    exact ⟨c', u, R, l_go0 (g_tabIn (off := 834) (tgt := 873) d_L_law_39 (by rw [h12]; decide) (by rw [h12]; decide) (by rw [h12]; rfl) (by decide) (g_end rfl)) g⟩
  by_cases h13 : x = 13
  · obtain ⟨c', u, R, g⟩ := s_case_refused (E := E) hE (b := b) (xs := xs) hN hL hk h
    exact ⟨c', u, R, l_go0 (g_tabIn (off := 878) (tgt := 917) d_L_law_39 (by rw [h13]; decide) (by rw [h13]; decide) (by rw [h13]; rfl) (by decide) (g_end rfl)) g⟩
  by_cases h14 : x = 14
  · obtain ⟨c', u, R, g⟩ := s_case_refusal (E := E) hE (b := b) (xs := xs) hN hL hk h
    exact ⟨c', u, R, l_go0 (g_tabIn (off := 922) (tgt := 961) d_L_law_39 (by rw [h14]; decide) (by rw [h14]; decide) (by rw [h14]; rfl) (by decide) (g_end rfl)) g⟩
  by_cases h15 : x = 15
  · obtain ⟨c', u, R, g⟩ := s_case_refuses (E := E) hE (b := b) (xs := xs) hN hL hk h
    exact ⟨c', u, R, l_go0 (g_tabIn (off := 994) (tgt := 1033) d_L_law_39 (by rw [h15]; decide) (by rw [h15]; decide) (by rw [h15]; rfl) (by decide) (g_end rfl)) g⟩
  by_cases h16 : x = 16
  · obtain ⟨c', u, R, g⟩ := s_case_solve (E := E) hE (b := b) (xs := xs) hN hL hk h
    exact ⟨c', u, R, l_go0 (g_tabIn (off := 1062) (tgt := 1101) d_L_law_39 (by rw [h16]; decide) (by rw [h16]; decide) (by rw [h16]; rfl) (by decide) (g_end rfl)) g⟩
  by_cases h17 : x = 17
  · obtain ⟨c', u, R, g⟩ := s_case_solution (E := E) hE (b := b) (xs := xs) hN hL hk h
    exact ⟨c', u, R, l_go0 (g_tabIn (off := 1146) (tgt := 1185) d_L_law_39 (by rw [h17]; decide) (by rw [h17]; decide) (by rw [h17]; rfl) (by decide) (g_end rfl)) g⟩
  by_cases h18 : x = 18
  · obtain ⟨c', u, R, g⟩ := s_case_finish (E := E) hE (b := b) (xs := xs) hN hL hk h
    exact ⟨c', u, R, l_go0 (g_tabIn (off := 1230) (tgt := 1269) d_L_law_39 (by rw [h18]; decide) (by rw [h18]; decide) (by rw [h18]; rfl) (by decide) (g_end rfl)) g⟩
  by_cases h19 : x = 19
  · obtain ⟨c', u, R, g⟩ := s_case_recorded (E := E) hE (b := b) (xs := xs) hN hL hk h
    exact ⟨c', u, R, l_go0 (g_tabIn (off := 1286) (tgt := 1325) d_L_law_39 (by rw [h19]; decide) (by rw [h19]; decide) (by rw [h19]; rfl) (by decide) (g_end rfl)) g⟩
  by_cases h20 : x = 20
  · obtain ⟨c', u, R, g⟩ := s_case_isReplayed (E := E) hE (b := b) (xs := xs) hN hL hk h
    exact ⟨c', u, R, l_go0 (g_tabIn (off := 1342) (tgt := 1381) d_L_law_39 (by rw [h20]; decide) (by rw [h20]; decide) (by rw [h20]; rfl) (by decide) (g_end rfl)) g⟩
  by_cases h21 : x = 21
  · obtain ⟨c', u, R, g⟩ := s_case_undo (E := E) hE (b := b) (xs := xs) hN hL hk h
    exact ⟨c', u, R, l_go0 (g_tabIn (off := 1393) (tgt := 1432) d_L_law_39 (by rw [h21]; decide) (by rw [h21]; decide) (by rw [h21]; rfl) (by decide) (g_end rfl)) g⟩
  by_cases h22 : x = 22
  · obtain ⟨c', u, R, g⟩ := s_case_saveSnapshot (E := E) hE (b := b) (xs := xs) hN hL hk h
    exact ⟨c', u, R, l_go0 (g_tabIn (off := 1437) (tgt := 1476) d_L_law_39 (by rw [h22]; decide) (by rw [h22]; decide) (by rw [h22]; rfl) (by decide) (g_end rfl)) g⟩
  by_cases h23 : x = 23
  · obtain ⟨c', u, R, g⟩ := s_case_restoreSnapshot (E := E) hE (b := b) (xs := xs) hN hL hk h
    exact ⟨c', u, R, l_go0 (g_tabIn (off := 1481) (tgt := 1520) d_L_law_39 (by rw [h23]; decide) (by rw [h23]; decide) (by rw [h23]; rfl) (by decide) (g_end rfl)) g⟩
  exact ⟨c, t, h, GoL.of (g_tabOut (tgt := 1564) d_L_law_39 (by have a0 : x.toInt ≠ 0 := sw_ne h0; have a1 : x.toInt ≠ 1 := sw_ne h1; have a2 : x.toInt ≠ 2 := sw_ne h2; have a3 : x.toInt ≠ 3 := sw_ne h3; have a4 : x.toInt ≠ 4 := sw_ne h4; have a5 : x.toInt ≠ 5 := sw_ne h5; have a6 : x.toInt ≠ 6 := sw_ne h6; have a7 : x.toInt ≠ 7 := sw_ne h7; have a8 : x.toInt ≠ 8 := sw_ne h8; have a9 : x.toInt ≠ 9 := sw_ne h9; have a10 : x.toInt ≠ 10 := sw_ne h10; have a11 : x.toInt ≠ 11 := sw_ne h11; have a12 : x.toInt ≠ 12 := sw_ne h12; have a13 : x.toInt ≠ 13 := sw_ne h13; have a14 : x.toInt ≠ 14 := sw_ne h14; have a15 : x.toInt ≠ 15 := sw_ne h15; have a16 : x.toInt ≠ 16 := sw_ne h16; have a17 : x.toInt ≠ 17 := sw_ne h17; have a18 : x.toInt ≠ 18 := sw_ne h18; have a19 : x.toInt ≠ 19 := sw_ne h19; have a20 : x.toInt ≠ 20 := sw_ne h20; have a21 : x.toInt ≠ 21 := sw_ne h21; have a22 : x.toInt ≠ 22 := sw_ne h22; have a23 : x.toInt ≠ 23 := sw_ne h23; omega) (by decide) (g_end rfl))⟩
theorem ln_gt {L k : Nat} (hL : L ≤ 1536) (hk : k ≤ 2000) (h : L < k + 3) : nI L - 3 < nI k := by
  by_cases h3 : 3 ≤ L
  · have e : nI L - 3 = nI (L - 3) := by
      have q := nI_add (L - 3) 3
      rw [show L - 3 + 3 = L by omega] at q
      rw [← q]
      show nI (L - 3) + 3 - 3 = _
      exact Int32.add_sub_cancel _ _
    rw [e]
    exact nI_lt (by omega) (by omega)
  · have e : nI L - 3 < 0 := by
      have : L = 0 ∨ L = 1 ∨ L = 2 := by omega
      rcases this with rfl | rfl | rfl <;> decide
    exact Int32.lt_of_lt_of_le e (Int32.not_lt.mp (nI_pos (by omega)))
theorem ln_le {L k : Nat} (hL : L ≤ 1536) (h : k + 2 < L) : ¬ nI L - 3 < nI k := by
  have e : nI L - 3 = nI (L - 3) := by
    have q := nI_add (L - 3) 3
    rw [show L - 3 + 3 = L by omega] at q
    rw [← q]
    show nI (L - 3) + 3 - 3 = _
    exact Int32.add_sub_cancel _ _
  rw [e]
  exact Int32.not_lt.mpr (nI_le (by omega) (by omega))
/-- the head: no more calls -/
theorem law_ex {E : mEnv} {b L k n : Nat} {xs : Nat → Int32} (hL : L ≤ 1536) (hk : k ≤ 2000) (h : L < k + 3) (w : mW) : GoL E b L xs M_L_law n (23, LL k, [], w) (.inr (.inl (some (.int 1), w))) := by
  refine l_go0 (g_iload d_L_law_23 rfl (g_aload_n d_L_law_25 rfl (g_end rfl))) ?_
  refine l_slen d_L_law_26 ?_
  exact GoL.of (g_iconst (v := 3) d_L_law_27 (by decide) (g_isub d_L_law_28 (g_icmp_gt (tgt := 1570) d_L_law_29 (by decide) (fun _ => g_iconst (v := 1) d_L_law_1570 (by decide) (g_retZ d_L_law_1571 rfl (by decide) rfl rfl)) (fun z => absurd (ln_gt hL hk h) z))))
/-- a turn -/
theorem law_tn {E : mEnv} (hE : E.1.stackTraces = false) {b L k N : Nat} {xs : Nat → Int32} (hN : 10000 ≤ N) (hL : L ≤ 1536) (hk : k + 2 < L) {c : cT} {t : xT} (h : ReL c t) : ∃ (c' : cT) (u : xT), ReL c' u ∧ GoL E b L xs M_L_law 1 (23, LL k, [], (mw t, cw c)) (.inl (23, LL (k + 3), [], (mw u, cw c'))) := by
  obtain ⟨c', u, R, g⟩ := law_sw (E := E) hE (b := b) (xs := xs) hN hL hk h (xs k &&& 31)
  refine ⟨c', u, R, ?_⟩
  refine l_go0 (g_iload d_L_law_23 rfl (g_aload_n d_L_law_25 rfl (g_end rfl))) ?_
  refine l_slen d_L_law_26 ?_
  refine l_go0 (g_iconst (v := 3) d_L_law_27 (by decide) (g_isub d_L_law_28 (g_icmp_gt (tgt := 1570) d_L_law_29 (by decide) (fun z => absurd z (ln_le hL hk)) (fun _ => g_aload_n d_L_law_32 rfl (g_iload d_L_law_33 rfl (g_end rfl)))))) ?_
  refine l_sld (j := k) d_L_law_35 rfl (by omega) hL ?_
  refine l_go0 (g_bipush (v := 31) d_L_law_36 (by decide) (g_iand d_L_law_38 (g_end rfl))) ?_
  exact GoL.trans (n0 := 1) (n := 0) g (GoL.of (g_iinc (v := nI (k + 3)) (L' := LL (k + 3)) d_L_law_1564 rfl (nI_add k 3) rfl (g_goto (tgt := 23) d_L_law_1567 (by decide) (g_end rfl))))
theorem law_lp {E : mEnv} (hE : E.1.stackTraces = false) {b L N : Nat} {xs : Nat → Int32} (hN : 10000 ≤ N) (hL : L ≤ 1536) : ∀ (n k : Nat) (c : cT) (t : xT), ReL c t → L < k + 3 * n + 3 → k ≤ 2000 → ∃ w', GoL E b L xs M_L_law n (23, LL k, [], (mw t, cw c)) (.inr (.inl (some (.int 1), w'))) := by
  intro n
  induction n with
  | zero => intro k c t h h1 h2; exact ⟨_, law_ex hL h2 (by omega) _⟩
  | succ n ih =>
    intro k c t h h1 h2
    by_cases h3 : k + 2 < L
    · obtain ⟨c', u, R, g⟩ := law_tn (E := E) hE (b := b) (xs := xs) hN hL h3 h
      obtain ⟨w', g2⟩ := ih (k + 3) c' u R (by omega) (by omega)
      refine ⟨w', ?_⟩
      have g3 := g.trans g2
      rw [Nat.add_comm] at g3
      exact g3
    · exact ⟨_, law_ex hL h2 (by omega) _⟩
/-- the law, from its loop's head on -/
theorem law_all {E : mEnv} (hE : E.1.stackTraces = false) {b L : Nat} {xs : Nat → Int32} (hL : L ≤ 1536) {c : cT} {t : xT} (h : ReL c t) : ∃ w', GoL E b L xs M_L_law 512 (23, LL 0, [], (mw t, cw c)) (.inr (.inl (some (.int 1), w'))) := law_lp hE (N := 10000) (Nat.le_refl _) hL 512 0 c t h (by omega) (by omega)
