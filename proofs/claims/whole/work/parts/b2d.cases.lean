/-! the law's cases 12 to 15 (printed by gen/pb2.py) -/
theorem d_L_law_873 : decode (mB M_L_law) 873 = .ok (.aload_n 1, 1) := by decide +kernel
theorem d_L_law_874 : decode (mB M_L_law) 874 = .ok (.aload_n 3, 1) := by decide +kernel
theorem d_L_law_875 : decode (mB M_L_law) 875 = .ok (.invokestatic 153, 3) := by decide +kernel
theorem d_L_law_878 : decode (mB M_L_law) 878 = .ok (.istore 5, 2) := by decide +kernel
theorem d_L_law_880 : decode (mB M_L_law) 880 = .ok (.aload_n 2, 1) := by decide +kernel
theorem d_L_law_881 : decode (mB M_L_law) 881 = .ok (.invokevirtual 155, 3) := by decide +kernel
theorem d_L_law_884 : decode (mB M_L_law) 884 = .ok (.istore 6, 2) := by decide +kernel
theorem d_L_law_886 : decode (mB M_L_law) 886 = .ok (.aload_n 2, 1) := by decide +kernel
theorem d_L_law_887 : decode (mB M_L_law) 887 = .ok (.invokevirtual 113, 3) := by decide +kernel
theorem d_L_law_890 : decode (mB M_L_law) 890 = .ok (.iload 5, 2) := by decide +kernel
theorem d_L_law_892 : decode (mB M_L_law) 892 = .ok (.if_icmp .eq 5, 3) := by decide +kernel
theorem d_L_law_897 : decode (mB M_L_law) 897 = .ok (.iload 5, 2) := by decide +kernel
theorem d_L_law_899 : decode (mB M_L_law) 899 = .ok (.ifCond .ne 15, 3) := by decide +kernel
theorem d_L_law_902 : decode (mB M_L_law) 902 = .ok (.aload_n 3, 1) := by decide +kernel
theorem d_L_law_903 : decode (mB M_L_law) 903 = .ok (.iconst 0, 1) := by decide +kernel
theorem d_L_law_904 : decode (mB M_L_law) 904 = .ok (.laload, 1) := by decide +kernel
theorem d_L_law_905 : decode (mB M_L_law) 905 = .ok (.iload 6, 2) := by decide +kernel
theorem d_L_law_907 : decode (mB M_L_law) 907 = .ok (.i2l, 1) := by decide +kernel
theorem d_L_law_908 : decode (mB M_L_law) 908 = .ok (.lcmp, 1) := by decide +kernel
theorem d_L_law_909 : decode (mB M_L_law) 909 = .ok (.ifCond .eq 5, 3) := by decide +kernel
theorem d_L_law_914 : decode (mB M_L_law) 914 = .ok (.goto 650, 3) := by decide +kernel
theorem k_play {E : mEnv} (hE : E.1.stackTraces = false) {b L k n0 : Nat} {xs : Nat → Int32} (hL : L ≤ 1536) (hk : k + 2 < L) {t u v : xT} {c c' : cT} {kk : Int32} {r : Int32} (h0 : Rh E M_L_play n0 [.ref 100, .ref 19] (mw t, cw c) (some (.int kk)) (mw v, cw c')) (h1 : Rt E M_X12_play 0 [.ref 0] (mw v, cw c') (some (.int r)) (mw u, cw c')) (h2 : rs u 9 = kk) (h3 : kk = 0 → ro u (Int32.toNatClampNeg 0) = r.toInt64) : GoL E b L xs M_L_law n0 (873, LL k, [], (mw t, cw c)) (.inl (1564, LL k, [], (mw u, cw c'))) := by
  refine l_go0 (g_aload_n d_L_law_873 rfl (g_end rfl)) ?_
  refine l_go (g_aload_n d_L_law_874 rfl (g_callH (As := [.ref 100, .ref 19]) d_L_law_875 o_L_play l_L_153 ⟨Nat.le_of_ble_eq_true rfl, Nat.le_of_ble_eq_true rfl⟩ h0 rfl rfl (g_istore (L' := LL5 k kk) d_L_law_878 rfl rfl (g_end rfl)) (Nat.add_zero _))) ?_ (Nat.add_zero _)
  refine l_go0 (g_aload_n d_L_law_880 rfl (g_end rfl)) ?_
  refine l_go0 (g_callV (As := []) d_L_law_881 o_X12_play l_L_155 ⟨Nat.le_of_ble_eq_true rfl, Nat.le_of_ble_eq_true rfl⟩ h1 rfl rfl rfl rfl rfl rfl (g_istore (L' := (LL6 k kk r)) d_L_law_884 rfl rfl (g_end rfl)) (Nat.zero_add _)) ?_
  refine l_go0 (g_aload_n d_L_law_886 rfl (g_callV (As := []) d_L_law_887 o_X12_thrown l_L_113 ⟨Nat.le_of_ble_eq_true rfl, Nat.le_of_ble_eq_true rfl⟩ (c_m_thrown hE _ u) rfl rfl rfl rfl rfl rfl (g_iload d_L_law_890 rfl (g_icmp_eq (tgt := 897) d_L_law_892 (by decide) (fun _ => g_end rfl) (fun z => absurd h2 z))) (Nat.zero_add _))) ?_
  refine GoL.of (g_iload d_L_law_897 rfl (g_if_ne (tgt := 914) d_L_law_899 (by decide) (fun _ => g_goto (tgt := 1564) d_L_law_914 (by decide) (g_drop [5, 6, 7] rfl (g_end rfl))) (fun z => g_aload_n d_L_law_902 rfl (g_iconst (v := 0) d_L_law_903 (by decide) (g_lald (f := ro u) d_L_law_904 rfl (show ¬ ((0 : Int32) < 0 ∨ 1 ≤ Int32.toNatClampNeg 0) by decide) (g_iload d_L_law_905 rfl (g_i2l d_L_law_907 (g_lcmp_eq (tgt := 914) d_L_law_908 d_L_law_909 (by decide) (fun _ => g_goto (tgt := 1564) d_L_law_914 (by decide) (g_drop [5, 6, 7] rfl (g_end rfl))) (fun y => absurd (h3 z) y)))))))))
theorem d_L_law_917 : decode (mB M_L_law) 917 = .ok (.aload_n 1, 1) := by decide +kernel
theorem d_L_law_918 : decode (mB M_L_law) 918 = .ok (.aload_n 3, 1) := by decide +kernel
theorem d_L_law_919 : decode (mB M_L_law) 919 = .ok (.invokestatic 156, 3) := by decide +kernel
theorem d_L_law_922 : decode (mB M_L_law) 922 = .ok (.istore 5, 2) := by decide +kernel
theorem d_L_law_924 : decode (mB M_L_law) 924 = .ok (.aload_n 2, 1) := by decide +kernel
theorem d_L_law_925 : decode (mB M_L_law) 925 = .ok (.invokevirtual 158, 3) := by decide +kernel
theorem d_L_law_928 : decode (mB M_L_law) 928 = .ok (.istore 6, 2) := by decide +kernel
theorem d_L_law_930 : decode (mB M_L_law) 930 = .ok (.aload_n 2, 1) := by decide +kernel
theorem d_L_law_931 : decode (mB M_L_law) 931 = .ok (.invokevirtual 113, 3) := by decide +kernel
theorem d_L_law_934 : decode (mB M_L_law) 934 = .ok (.iload 5, 2) := by decide +kernel
theorem d_L_law_936 : decode (mB M_L_law) 936 = .ok (.if_icmp .eq 5, 3) := by decide +kernel
theorem d_L_law_941 : decode (mB M_L_law) 941 = .ok (.iload 5, 2) := by decide +kernel
theorem d_L_law_943 : decode (mB M_L_law) 943 = .ok (.ifCond .ne 15, 3) := by decide +kernel
theorem d_L_law_946 : decode (mB M_L_law) 946 = .ok (.aload_n 3, 1) := by decide +kernel
theorem d_L_law_947 : decode (mB M_L_law) 947 = .ok (.iconst 0, 1) := by decide +kernel
theorem d_L_law_948 : decode (mB M_L_law) 948 = .ok (.laload, 1) := by decide +kernel
theorem d_L_law_949 : decode (mB M_L_law) 949 = .ok (.iload 6, 2) := by decide +kernel
theorem d_L_law_951 : decode (mB M_L_law) 951 = .ok (.i2l, 1) := by decide +kernel
theorem d_L_law_952 : decode (mB M_L_law) 952 = .ok (.lcmp, 1) := by decide +kernel
theorem d_L_law_953 : decode (mB M_L_law) 953 = .ok (.ifCond .eq 5, 3) := by decide +kernel
theorem d_L_law_958 : decode (mB M_L_law) 958 = .ok (.goto 606, 3) := by decide +kernel
theorem k_refused {E : mEnv} (hE : E.1.stackTraces = false) {b L k n0 : Nat} {xs : Nat → Int32} (hL : L ≤ 1536) (hk : k + 2 < L) {t u v : xT} {c c' : cT} {kk : Int32} {r : Int32} (h0 : Rh E M_L_refused n0 [.ref 100, .ref 19] (mw t, cw c) (some (.int kk)) (mw v, cw c')) (h1 : Rt E M_X12_refused 0 [.ref 0] (mw v, cw c') (some (.int r)) (mw u, cw c')) (h2 : rs u 9 = kk) (h3 : kk = 0 → ro u (Int32.toNatClampNeg 0) = r.toInt64) : GoL E b L xs M_L_law n0 (917, LL k, [], (mw t, cw c)) (.inl (1564, LL k, [], (mw u, cw c'))) := by
  refine l_go0 (g_aload_n d_L_law_917 rfl (g_end rfl)) ?_
  refine l_go (g_aload_n d_L_law_918 rfl (g_callH (As := [.ref 100, .ref 19]) d_L_law_919 o_L_refused l_L_156 ⟨Nat.le_of_ble_eq_true rfl, Nat.le_of_ble_eq_true rfl⟩ h0 rfl rfl (g_istore (L' := LL5 k kk) d_L_law_922 rfl rfl (g_end rfl)) (Nat.add_zero _))) ?_ (Nat.add_zero _)
  refine l_go0 (g_aload_n d_L_law_924 rfl (g_end rfl)) ?_
  refine l_go0 (g_callV (As := []) d_L_law_925 o_X12_refused l_L_158 ⟨Nat.le_of_ble_eq_true rfl, Nat.le_of_ble_eq_true rfl⟩ h1 rfl rfl rfl rfl rfl rfl (g_istore (L' := (LL6 k kk r)) d_L_law_928 rfl rfl (g_end rfl)) (Nat.zero_add _)) ?_
  refine l_go0 (g_aload_n d_L_law_930 rfl (g_callV (As := []) d_L_law_931 o_X12_thrown l_L_113 ⟨Nat.le_of_ble_eq_true rfl, Nat.le_of_ble_eq_true rfl⟩ (c_m_thrown hE _ u) rfl rfl rfl rfl rfl rfl (g_iload d_L_law_934 rfl (g_icmp_eq (tgt := 941) d_L_law_936 (by decide) (fun _ => g_end rfl) (fun z => absurd h2 z))) (Nat.zero_add _))) ?_
  refine GoL.of (g_iload d_L_law_941 rfl (g_if_ne (tgt := 958) d_L_law_943 (by decide) (fun _ => g_goto (tgt := 1564) d_L_law_958 (by decide) (g_drop [5, 6, 7] rfl (g_end rfl))) (fun z => g_aload_n d_L_law_946 rfl (g_iconst (v := 0) d_L_law_947 (by decide) (g_lald (f := ro u) d_L_law_948 rfl (show ¬ ((0 : Int32) < 0 ∨ 1 ≤ Int32.toNatClampNeg 0) by decide) (g_iload d_L_law_949 rfl (g_i2l d_L_law_951 (g_lcmp_eq (tgt := 958) d_L_law_952 d_L_law_953 (by decide) (fun _ => g_goto (tgt := 1564) d_L_law_958 (by decide) (g_drop [5, 6, 7] rfl (g_end rfl))) (fun y => absurd (h3 z) y)))))))))
theorem d_L_law_961 : decode (mB M_L_law) 961 = .ok (.aload_n 1, 1) := by decide +kernel
theorem d_L_law_962 : decode (mB M_L_law) 962 = .ok (.aload_n 0, 1) := by decide +kernel
theorem d_L_law_963 : decode (mB M_L_law) 963 = .ok (.iload 4, 2) := by decide +kernel
theorem d_L_law_965 : decode (mB M_L_law) 965 = .ok (.iconst 1, 1) := by decide +kernel
theorem d_L_law_966 : decode (mB M_L_law) 966 = .ok (.iadd, 1) := by decide +kernel
theorem d_L_law_967 : decode (mB M_L_law) 967 = .ok (.iaload, 1) := by decide +kernel
theorem d_L_law_968 : decode (mB M_L_law) 968 = .ok (.ifCond .eq 7, 3) := by decide +kernel
theorem d_L_law_971 : decode (mB M_L_law) 971 = .ok (.iconst 1, 1) := by decide +kernel
theorem d_L_law_972 : decode (mB M_L_law) 972 = .ok (.goto 4, 3) := by decide +kernel
theorem d_L_law_975 : decode (mB M_L_law) 975 = .ok (.iconst 0, 1) := by decide +kernel
theorem d_L_law_976 : decode (mB M_L_law) 976 = .ok (.aload_n 3, 1) := by decide +kernel
theorem d_L_law_977 : decode (mB M_L_law) 977 = .ok (.invokestatic 159, 3) := by decide +kernel
theorem d_L_law_980 : decode (mB M_L_law) 980 = .ok (.istore 5, 2) := by decide +kernel
theorem d_L_law_982 : decode (mB M_L_law) 982 = .ok (.aload_n 2, 1) := by decide +kernel
theorem d_L_law_983 : decode (mB M_L_law) 983 = .ok (.aload_n 0, 1) := by decide +kernel
theorem d_L_law_984 : decode (mB M_L_law) 984 = .ok (.iload 4, 2) := by decide +kernel
theorem d_L_law_986 : decode (mB M_L_law) 986 = .ok (.iconst 1, 1) := by decide +kernel
theorem d_L_law_987 : decode (mB M_L_law) 987 = .ok (.iadd, 1) := by decide +kernel
theorem d_L_law_988 : decode (mB M_L_law) 988 = .ok (.iaload, 1) := by decide +kernel
theorem d_L_law_989 : decode (mB M_L_law) 989 = .ok (.ifCond .eq 7, 3) := by decide +kernel
theorem d_L_law_992 : decode (mB M_L_law) 992 = .ok (.iconst 1, 1) := by decide +kernel
theorem d_L_law_993 : decode (mB M_L_law) 993 = .ok (.goto 4, 3) := by decide +kernel
theorem d_L_law_996 : decode (mB M_L_law) 996 = .ok (.iconst 0, 1) := by decide +kernel
theorem d_L_law_997 : decode (mB M_L_law) 997 = .ok (.invokevirtual 161, 3) := by decide +kernel
theorem d_L_law_1000 : decode (mB M_L_law) 1000 = .ok (.istore 6, 2) := by decide +kernel
theorem d_L_law_1002 : decode (mB M_L_law) 1002 = .ok (.aload_n 2, 1) := by decide +kernel
theorem d_L_law_1003 : decode (mB M_L_law) 1003 = .ok (.invokevirtual 113, 3) := by decide +kernel
theorem d_L_law_1006 : decode (mB M_L_law) 1006 = .ok (.iload 5, 2) := by decide +kernel
theorem d_L_law_1008 : decode (mB M_L_law) 1008 = .ok (.if_icmp .eq 5, 3) := by decide +kernel
theorem d_L_law_1013 : decode (mB M_L_law) 1013 = .ok (.iload 5, 2) := by decide +kernel
theorem d_L_law_1015 : decode (mB M_L_law) 1015 = .ok (.ifCond .ne 15, 3) := by decide +kernel
theorem d_L_law_1018 : decode (mB M_L_law) 1018 = .ok (.aload_n 3, 1) := by decide +kernel
theorem d_L_law_1019 : decode (mB M_L_law) 1019 = .ok (.iconst 0, 1) := by decide +kernel
theorem d_L_law_1020 : decode (mB M_L_law) 1020 = .ok (.laload, 1) := by decide +kernel
theorem d_L_law_1021 : decode (mB M_L_law) 1021 = .ok (.iload 6, 2) := by decide +kernel
theorem d_L_law_1023 : decode (mB M_L_law) 1023 = .ok (.i2l, 1) := by decide +kernel
theorem d_L_law_1024 : decode (mB M_L_law) 1024 = .ok (.lcmp, 1) := by decide +kernel
theorem d_L_law_1025 : decode (mB M_L_law) 1025 = .ok (.ifCond .eq 5, 3) := by decide +kernel
theorem d_L_law_1030 : decode (mB M_L_law) 1030 = .ok (.goto 534, 3) := by decide +kernel
theorem k_refusal {E : mEnv} (hE : E.1.stackTraces = false) {b L k n0 : Nat} {xs : Nat → Int32} (hL : L ≤ 1536) (hk : k + 2 < L) {t u v : xT} {c c' : cT} {kk : Int32} {r : Int32} (h0 : Rh E M_L_refusal n0 [.ref 100, .int (nzF (xs (k + 1))), .ref 19] (mw t, cw c) (some (.int kk)) (mw v, cw c')) (h1 : Rt E M_X12_refusal 0 [.ref 0, .int (nzF (xs (k + 1)))] (mw v, cw c') (some (.int r)) (mw u, cw c')) (h2 : rs u 9 = kk) (h3 : kk = 0 → ro u (Int32.toNatClampNeg 0) = r.toInt64) : GoL E b L xs M_L_law n0 (961, LL k, [], (mw t, cw c)) (.inl (1564, LL k, [], (mw u, cw c'))) := by
  refine l_go0 (g_aload_n d_L_law_961 rfl (g_end rfl)) ?_
  refine l_go0 (g_aload_n d_L_law_962 rfl (g_iload d_L_law_963 rfl (g_iconst (v := 1) d_L_law_965 (by decide) (g_iadd d_L_law_966 (g_end rfl))))) ?_
  refine l_sld (j := k + 1) d_L_law_967 (ix_1 k) (by omega) hL ?_
  refine l_go0 (l_nz d_L_law_968 (by decide) d_L_law_971 d_L_law_972 (by decide) d_L_law_975) ?_
  refine l_go (g_aload_n d_L_law_976 rfl (g_callH (As := [.ref 100, .int (nzF (xs (k + 1))), .ref 19]) d_L_law_977 o_L_refusal l_L_159 ⟨Nat.le_of_ble_eq_true rfl, Nat.le_of_ble_eq_true rfl⟩ h0 rfl rfl (g_istore (L' := LL5 k kk) d_L_law_980 rfl rfl (g_end rfl)) (Nat.add_zero _))) ?_ (Nat.add_zero _)
  refine l_go0 (g_aload_n d_L_law_982 rfl (g_end rfl)) ?_
  refine l_go0 (g_aload_n d_L_law_983 rfl (g_iload d_L_law_984 rfl (g_iconst (v := 1) d_L_law_986 (by decide) (g_iadd d_L_law_987 (g_end rfl))))) ?_
  refine l_sld (j := k + 1) d_L_law_988 (ix_1 k) (by omega) hL ?_
  refine l_go0 (l_nz d_L_law_989 (by decide) d_L_law_992 d_L_law_993 (by decide) d_L_law_996) ?_
  refine l_go0 (g_callV (As := [.int (nzF (xs (k + 1)))]) d_L_law_997 o_X12_refusal l_L_161 ⟨Nat.le_of_ble_eq_true rfl, Nat.le_of_ble_eq_true rfl⟩ h1 rfl rfl rfl rfl rfl rfl (g_istore (L' := (LL6 k kk r)) d_L_law_1000 rfl rfl (g_end rfl)) (Nat.zero_add _)) ?_
  refine l_go0 (g_aload_n d_L_law_1002 rfl (g_callV (As := []) d_L_law_1003 o_X12_thrown l_L_113 ⟨Nat.le_of_ble_eq_true rfl, Nat.le_of_ble_eq_true rfl⟩ (c_m_thrown hE _ u) rfl rfl rfl rfl rfl rfl (g_iload d_L_law_1006 rfl (g_icmp_eq (tgt := 1013) d_L_law_1008 (by decide) (fun _ => g_end rfl) (fun z => absurd h2 z))) (Nat.zero_add _))) ?_
  refine GoL.of (g_iload d_L_law_1013 rfl (g_if_ne (tgt := 1030) d_L_law_1015 (by decide) (fun _ => g_goto (tgt := 1564) d_L_law_1030 (by decide) (g_drop [5, 6, 7] rfl (g_end rfl))) (fun z => g_aload_n d_L_law_1018 rfl (g_iconst (v := 0) d_L_law_1019 (by decide) (g_lald (f := ro u) d_L_law_1020 rfl (show ¬ ((0 : Int32) < 0 ∨ 1 ≤ Int32.toNatClampNeg 0) by decide) (g_iload d_L_law_1021 rfl (g_i2l d_L_law_1023 (g_lcmp_eq (tgt := 1030) d_L_law_1024 d_L_law_1025 (by decide) (fun _ => g_goto (tgt := 1564) d_L_law_1030 (by decide) (g_drop [5, 6, 7] rfl (g_end rfl))) (fun y => absurd (h3 z) y)))))))))
theorem d_L_law_1033 : decode (mB M_L_law) 1033 = .ok (.aload_n 1, 1) := by decide +kernel
theorem d_L_law_1034 : decode (mB M_L_law) 1034 = .ok (.aload_n 0, 1) := by decide +kernel
theorem d_L_law_1035 : decode (mB M_L_law) 1035 = .ok (.iload 4, 2) := by decide +kernel
theorem d_L_law_1037 : decode (mB M_L_law) 1037 = .ok (.iconst 1, 1) := by decide +kernel
theorem d_L_law_1038 : decode (mB M_L_law) 1038 = .ok (.iadd, 1) := by decide +kernel
theorem d_L_law_1039 : decode (mB M_L_law) 1039 = .ok (.iaload, 1) := by decide +kernel
theorem d_L_law_1040 : decode (mB M_L_law) 1040 = .ok (.aload_n 0, 1) := by decide +kernel
theorem d_L_law_1041 : decode (mB M_L_law) 1041 = .ok (.iload 4, 2) := by decide +kernel
theorem d_L_law_1043 : decode (mB M_L_law) 1043 = .ok (.iconst 2, 1) := by decide +kernel
theorem d_L_law_1044 : decode (mB M_L_law) 1044 = .ok (.iadd, 1) := by decide +kernel
theorem d_L_law_1045 : decode (mB M_L_law) 1045 = .ok (.iaload, 1) := by decide +kernel
theorem d_L_law_1046 : decode (mB M_L_law) 1046 = .ok (.aload_n 3, 1) := by decide +kernel
theorem d_L_law_1047 : decode (mB M_L_law) 1047 = .ok (.invokestatic 162, 3) := by decide +kernel
theorem d_L_law_1050 : decode (mB M_L_law) 1050 = .ok (.istore 5, 2) := by decide +kernel
theorem d_L_law_1052 : decode (mB M_L_law) 1052 = .ok (.aload_n 2, 1) := by decide +kernel
theorem d_L_law_1053 : decode (mB M_L_law) 1053 = .ok (.aload_n 0, 1) := by decide +kernel
theorem d_L_law_1054 : decode (mB M_L_law) 1054 = .ok (.iload 4, 2) := by decide +kernel
theorem d_L_law_1056 : decode (mB M_L_law) 1056 = .ok (.iconst 1, 1) := by decide +kernel
theorem d_L_law_1057 : decode (mB M_L_law) 1057 = .ok (.iadd, 1) := by decide +kernel
theorem d_L_law_1058 : decode (mB M_L_law) 1058 = .ok (.iaload, 1) := by decide +kernel
theorem d_L_law_1059 : decode (mB M_L_law) 1059 = .ok (.aload_n 0, 1) := by decide +kernel
theorem d_L_law_1060 : decode (mB M_L_law) 1060 = .ok (.iload 4, 2) := by decide +kernel
theorem d_L_law_1062 : decode (mB M_L_law) 1062 = .ok (.iconst 2, 1) := by decide +kernel
theorem d_L_law_1063 : decode (mB M_L_law) 1063 = .ok (.iadd, 1) := by decide +kernel
theorem d_L_law_1064 : decode (mB M_L_law) 1064 = .ok (.iaload, 1) := by decide +kernel
theorem d_L_law_1065 : decode (mB M_L_law) 1065 = .ok (.invokevirtual 164, 3) := by decide +kernel
theorem d_L_law_1068 : decode (mB M_L_law) 1068 = .ok (.istore 6, 2) := by decide +kernel
theorem d_L_law_1070 : decode (mB M_L_law) 1070 = .ok (.aload_n 2, 1) := by decide +kernel
theorem d_L_law_1071 : decode (mB M_L_law) 1071 = .ok (.invokevirtual 113, 3) := by decide +kernel
theorem d_L_law_1074 : decode (mB M_L_law) 1074 = .ok (.iload 5, 2) := by decide +kernel
theorem d_L_law_1076 : decode (mB M_L_law) 1076 = .ok (.if_icmp .eq 5, 3) := by decide +kernel
theorem d_L_law_1081 : decode (mB M_L_law) 1081 = .ok (.iload 5, 2) := by decide +kernel
theorem d_L_law_1083 : decode (mB M_L_law) 1083 = .ok (.ifCond .ne 15, 3) := by decide +kernel
theorem d_L_law_1086 : decode (mB M_L_law) 1086 = .ok (.aload_n 3, 1) := by decide +kernel
theorem d_L_law_1087 : decode (mB M_L_law) 1087 = .ok (.iconst 0, 1) := by decide +kernel
theorem d_L_law_1088 : decode (mB M_L_law) 1088 = .ok (.laload, 1) := by decide +kernel
theorem d_L_law_1089 : decode (mB M_L_law) 1089 = .ok (.iload 6, 2) := by decide +kernel
theorem d_L_law_1091 : decode (mB M_L_law) 1091 = .ok (.i2l, 1) := by decide +kernel
theorem d_L_law_1092 : decode (mB M_L_law) 1092 = .ok (.lcmp, 1) := by decide +kernel
theorem d_L_law_1093 : decode (mB M_L_law) 1093 = .ok (.ifCond .eq 5, 3) := by decide +kernel
theorem d_L_law_1098 : decode (mB M_L_law) 1098 = .ok (.goto 466, 3) := by decide +kernel
theorem k_refuses {E : mEnv} (hE : E.1.stackTraces = false) {b L k n0 : Nat} {xs : Nat → Int32} (hL : L ≤ 1536) (hk : k + 2 < L) {t u v : xT} {c c' : cT} {kk : Int32} {r : Int32} (h0 : Rh E M_L_refuses n0 [.ref 100, .int (xs (k + 1)), .int (xs (k + 2)), .ref 19] (mw t, cw c) (some (.int kk)) (mw v, cw c')) (h1 : Rt E M_X12_refuses 0 [.ref 0, .int (xs (k + 1)), .int (xs (k + 2))] (mw v, cw c') (some (.int r)) (mw u, cw c')) (h2 : rs u 9 = kk) (h3 : kk = 0 → ro u (Int32.toNatClampNeg 0) = r.toInt64) : GoL E b L xs M_L_law n0 (1033, LL k, [], (mw t, cw c)) (.inl (1564, LL k, [], (mw u, cw c'))) := by
  refine l_go0 (g_aload_n d_L_law_1033 rfl (g_end rfl)) ?_
  refine l_go0 (g_aload_n d_L_law_1034 rfl (g_iload d_L_law_1035 rfl (g_iconst (v := 1) d_L_law_1037 (by decide) (g_iadd d_L_law_1038 (g_end rfl))))) ?_
  refine l_sld (j := k + 1) d_L_law_1039 (ix_1 k) (by omega) hL ?_
  refine l_go0 (g_aload_n d_L_law_1040 rfl (g_iload d_L_law_1041 rfl (g_iconst (v := 2) d_L_law_1043 (by decide) (g_iadd d_L_law_1044 (g_end rfl))))) ?_
  refine l_sld (j := k + 2) d_L_law_1045 (ix_2 k) (by omega) hL ?_
  refine l_go (g_aload_n d_L_law_1046 rfl (g_callH (As := [.ref 100, .int (xs (k + 1)), .int (xs (k + 2)), .ref 19]) d_L_law_1047 o_L_refuses l_L_162 ⟨Nat.le_of_ble_eq_true rfl, Nat.le_of_ble_eq_true rfl⟩ h0 rfl rfl (g_istore (L' := LL5 k kk) d_L_law_1050 rfl rfl (g_end rfl)) (Nat.add_zero _))) ?_ (Nat.add_zero _)
  refine l_go0 (g_aload_n d_L_law_1052 rfl (g_end rfl)) ?_
  refine l_go0 (g_aload_n d_L_law_1053 rfl (g_iload d_L_law_1054 rfl (g_iconst (v := 1) d_L_law_1056 (by decide) (g_iadd d_L_law_1057 (g_end rfl))))) ?_
  refine l_sld (j := k + 1) d_L_law_1058 (ix_1 k) (by omega) hL ?_
  refine l_go0 (g_aload_n d_L_law_1059 rfl (g_iload d_L_law_1060 rfl (g_iconst (v := 2) d_L_law_1062 (by decide) (g_iadd d_L_law_1063 (g_end rfl))))) ?_
  refine l_sld (j := k + 2) d_L_law_1064 (ix_2 k) (by omega) hL ?_
  refine l_go0 (g_callV (As := [.int (xs (k + 1)), .int (xs (k + 2))]) d_L_law_1065 o_X12_refuses l_L_164 ⟨Nat.le_of_ble_eq_true rfl, Nat.le_of_ble_eq_true rfl⟩ h1 rfl rfl rfl rfl rfl rfl (g_istore (L' := (LL6 k kk r)) d_L_law_1068 rfl rfl (g_end rfl)) (Nat.zero_add _)) ?_
  refine l_go0 (g_aload_n d_L_law_1070 rfl (g_callV (As := []) d_L_law_1071 o_X12_thrown l_L_113 ⟨Nat.le_of_ble_eq_true rfl, Nat.le_of_ble_eq_true rfl⟩ (c_m_thrown hE _ u) rfl rfl rfl rfl rfl rfl (g_iload d_L_law_1074 rfl (g_icmp_eq (tgt := 1081) d_L_law_1076 (by decide) (fun _ => g_end rfl) (fun z => absurd h2 z))) (Nat.zero_add _))) ?_
  refine GoL.of (g_iload d_L_law_1081 rfl (g_if_ne (tgt := 1098) d_L_law_1083 (by decide) (fun _ => g_goto (tgt := 1564) d_L_law_1098 (by decide) (g_drop [5, 6, 7] rfl (g_end rfl))) (fun z => g_aload_n d_L_law_1086 rfl (g_iconst (v := 0) d_L_law_1087 (by decide) (g_lald (f := ro u) d_L_law_1088 rfl (show ¬ ((0 : Int32) < 0 ∨ 1 ≤ Int32.toNatClampNeg 0) by decide) (g_iload d_L_law_1089 rfl (g_i2l d_L_law_1091 (g_lcmp_eq (tgt := 1098) d_L_law_1092 d_L_law_1093 (by decide) (fun _ => g_goto (tgt := 1564) d_L_law_1098 (by decide) (g_drop [5, 6, 7] rfl (g_end rfl))) (fun y => absurd (h3 z) y)))))))))
