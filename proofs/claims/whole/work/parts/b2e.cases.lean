/-! the law's cases 16 to 19 (printed by gen/pb2.py) -/
theorem d_L_law_1101 : decode (mB M_L_law) 1101 = .ok (.aload_n 1, 1) := by decide +kernel
theorem d_L_law_1102 : decode (mB M_L_law) 1102 = .ok (.aload_n 0, 1) := by decide +kernel
theorem d_L_law_1103 : decode (mB M_L_law) 1103 = .ok (.iload 4, 2) := by decide +kernel
theorem d_L_law_1105 : decode (mB M_L_law) 1105 = .ok (.iconst 1, 1) := by decide +kernel
theorem d_L_law_1106 : decode (mB M_L_law) 1106 = .ok (.iadd, 1) := by decide +kernel
theorem d_L_law_1107 : decode (mB M_L_law) 1107 = .ok (.iaload, 1) := by decide +kernel
theorem d_L_law_1108 : decode (mB M_L_law) 1108 = .ok (.aload_n 0, 1) := by decide +kernel
theorem d_L_law_1109 : decode (mB M_L_law) 1109 = .ok (.iload 4, 2) := by decide +kernel
theorem d_L_law_1111 : decode (mB M_L_law) 1111 = .ok (.iconst 2, 1) := by decide +kernel
theorem d_L_law_1112 : decode (mB M_L_law) 1112 = .ok (.iadd, 1) := by decide +kernel
theorem d_L_law_1113 : decode (mB M_L_law) 1113 = .ok (.iaload, 1) := by decide +kernel
theorem d_L_law_1114 : decode (mB M_L_law) 1114 = .ok (.ifCond .eq 7, 3) := by decide +kernel
theorem d_L_law_1117 : decode (mB M_L_law) 1117 = .ok (.iconst 1, 1) := by decide +kernel
theorem d_L_law_1118 : decode (mB M_L_law) 1118 = .ok (.goto 4, 3) := by decide +kernel
theorem d_L_law_1121 : decode (mB M_L_law) 1121 = .ok (.iconst 0, 1) := by decide +kernel
theorem d_L_law_1122 : decode (mB M_L_law) 1122 = .ok (.aload_n 3, 1) := by decide +kernel
theorem d_L_law_1123 : decode (mB M_L_law) 1123 = .ok (.invokestatic 165, 3) := by decide +kernel
theorem d_L_law_1126 : decode (mB M_L_law) 1126 = .ok (.istore 5, 2) := by decide +kernel
theorem d_L_law_1128 : decode (mB M_L_law) 1128 = .ok (.aload_n 2, 1) := by decide +kernel
theorem d_L_law_1129 : decode (mB M_L_law) 1129 = .ok (.aload_n 0, 1) := by decide +kernel
theorem d_L_law_1130 : decode (mB M_L_law) 1130 = .ok (.iload 4, 2) := by decide +kernel
theorem d_L_law_1132 : decode (mB M_L_law) 1132 = .ok (.iconst 1, 1) := by decide +kernel
theorem d_L_law_1133 : decode (mB M_L_law) 1133 = .ok (.iadd, 1) := by decide +kernel
theorem d_L_law_1134 : decode (mB M_L_law) 1134 = .ok (.iaload, 1) := by decide +kernel
theorem d_L_law_1135 : decode (mB M_L_law) 1135 = .ok (.aload_n 0, 1) := by decide +kernel
theorem d_L_law_1136 : decode (mB M_L_law) 1136 = .ok (.iload 4, 2) := by decide +kernel
theorem d_L_law_1138 : decode (mB M_L_law) 1138 = .ok (.iconst 2, 1) := by decide +kernel
theorem d_L_law_1139 : decode (mB M_L_law) 1139 = .ok (.iadd, 1) := by decide +kernel
theorem d_L_law_1140 : decode (mB M_L_law) 1140 = .ok (.iaload, 1) := by decide +kernel
theorem d_L_law_1141 : decode (mB M_L_law) 1141 = .ok (.ifCond .eq 7, 3) := by decide +kernel
theorem d_L_law_1144 : decode (mB M_L_law) 1144 = .ok (.iconst 1, 1) := by decide +kernel
theorem d_L_law_1145 : decode (mB M_L_law) 1145 = .ok (.goto 4, 3) := by decide +kernel
theorem d_L_law_1148 : decode (mB M_L_law) 1148 = .ok (.iconst 0, 1) := by decide +kernel
theorem d_L_law_1149 : decode (mB M_L_law) 1149 = .ok (.invokevirtual 168, 3) := by decide +kernel
theorem d_L_law_1152 : decode (mB M_L_law) 1152 = .ok (.istore 6, 2) := by decide +kernel
theorem d_L_law_1154 : decode (mB M_L_law) 1154 = .ok (.aload_n 2, 1) := by decide +kernel
theorem d_L_law_1155 : decode (mB M_L_law) 1155 = .ok (.invokevirtual 113, 3) := by decide +kernel
theorem d_L_law_1158 : decode (mB M_L_law) 1158 = .ok (.iload 5, 2) := by decide +kernel
theorem d_L_law_1160 : decode (mB M_L_law) 1160 = .ok (.if_icmp .eq 5, 3) := by decide +kernel
theorem d_L_law_1165 : decode (mB M_L_law) 1165 = .ok (.iload 5, 2) := by decide +kernel
theorem d_L_law_1167 : decode (mB M_L_law) 1167 = .ok (.ifCond .ne 15, 3) := by decide +kernel
theorem d_L_law_1170 : decode (mB M_L_law) 1170 = .ok (.aload_n 3, 1) := by decide +kernel
theorem d_L_law_1171 : decode (mB M_L_law) 1171 = .ok (.iconst 0, 1) := by decide +kernel
theorem d_L_law_1172 : decode (mB M_L_law) 1172 = .ok (.laload, 1) := by decide +kernel
theorem d_L_law_1173 : decode (mB M_L_law) 1173 = .ok (.iload 6, 2) := by decide +kernel
theorem d_L_law_1175 : decode (mB M_L_law) 1175 = .ok (.i2l, 1) := by decide +kernel
theorem d_L_law_1176 : decode (mB M_L_law) 1176 = .ok (.lcmp, 1) := by decide +kernel
theorem d_L_law_1177 : decode (mB M_L_law) 1177 = .ok (.ifCond .eq 5, 3) := by decide +kernel
theorem d_L_law_1182 : decode (mB M_L_law) 1182 = .ok (.goto 382, 3) := by decide +kernel
theorem k_solve {E : mEnv} (hE : E.1.stackTraces = false) {b L k n0 : Nat} {xs : Nat → Int32} (hL : L ≤ 1536) (hk : k + 2 < L) {t u v : xT} {c c' : cT} {kk : Int32} {r : Int32} (h0 : Rh E M_L_solve n0 [.ref 100, .int (xs (k + 1)), .int (nzF (xs (k + 2))), .ref 19] (mw t, cw c) (some (.int kk)) (mw v, cw c')) (h1 : Rt E M_X12_solve 0 [.ref 0, .int (xs (k + 1)), .int (nzF (xs (k + 2)))] (mw v, cw c') (some (.int r)) (mw u, cw c')) (h2 : rs u 9 = kk) (h3 : kk = 0 → ro u (Int32.toNatClampNeg 0) = r.toInt64) : GoL E b L xs M_L_law n0 (1101, LL k, [], (mw t, cw c)) (.inl (1564, LL k, [], (mw u, cw c'))) := by
  refine l_go0 (g_aload_n d_L_law_1101 rfl (g_end rfl)) ?_
  refine l_go0 (g_aload_n d_L_law_1102 rfl (g_iload d_L_law_1103 rfl (g_iconst (v := 1) d_L_law_1105 (by decide) (g_iadd d_L_law_1106 (g_end rfl))))) ?_
  refine l_sld (j := k + 1) d_L_law_1107 (ix_1 k) (by omega) hL ?_
  refine l_go0 (g_aload_n d_L_law_1108 rfl (g_iload d_L_law_1109 rfl (g_iconst (v := 2) d_L_law_1111 (by decide) (g_iadd d_L_law_1112 (g_end rfl))))) ?_
  refine l_sld (j := k + 2) d_L_law_1113 (ix_2 k) (by omega) hL ?_
  refine l_go0 (l_nz d_L_law_1114 (by decide) d_L_law_1117 d_L_law_1118 (by decide) d_L_law_1121) ?_
  refine l_go (g_aload_n d_L_law_1122 rfl (g_callH (As := [.ref 100, .int (xs (k + 1)), .int (nzF (xs (k + 2))), .ref 19]) d_L_law_1123 o_L_solve l_L_165 ⟨Nat.le_of_ble_eq_true rfl, Nat.le_of_ble_eq_true rfl⟩ h0 rfl rfl (g_istore (L' := LL5 k kk) d_L_law_1126 rfl rfl (g_end rfl)) (Nat.add_zero _))) ?_ (Nat.add_zero _)
  refine l_go0 (g_aload_n d_L_law_1128 rfl (g_end rfl)) ?_
  refine l_go0 (g_aload_n d_L_law_1129 rfl (g_iload d_L_law_1130 rfl (g_iconst (v := 1) d_L_law_1132 (by decide) (g_iadd d_L_law_1133 (g_end rfl))))) ?_
  refine l_sld (j := k + 1) d_L_law_1134 (ix_1 k) (by omega) hL ?_
  refine l_go0 (g_aload_n d_L_law_1135 rfl (g_iload d_L_law_1136 rfl (g_iconst (v := 2) d_L_law_1138 (by decide) (g_iadd d_L_law_1139 (g_end rfl))))) ?_
  refine l_sld (j := k + 2) d_L_law_1140 (ix_2 k) (by omega) hL ?_
  refine l_go0 (l_nz d_L_law_1141 (by decide) d_L_law_1144 d_L_law_1145 (by decide) d_L_law_1148) ?_
  refine l_go0 (g_callV (As := [.int (xs (k + 1)), .int (nzF (xs (k + 2)))]) d_L_law_1149 o_X12_solve l_L_168 ⟨Nat.le_of_ble_eq_true rfl, Nat.le_of_ble_eq_true rfl⟩ h1 rfl rfl rfl rfl rfl rfl (g_istore (L' := (LL6 k kk r)) d_L_law_1152 rfl rfl (g_end rfl)) (Nat.zero_add _)) ?_
  refine l_go0 (g_aload_n d_L_law_1154 rfl (g_callV (As := []) d_L_law_1155 o_X12_thrown l_L_113 ⟨Nat.le_of_ble_eq_true rfl, Nat.le_of_ble_eq_true rfl⟩ (c_m_thrown hE _ u) rfl rfl rfl rfl rfl rfl (g_iload d_L_law_1158 rfl (g_icmp_eq (tgt := 1165) d_L_law_1160 (by decide) (fun _ => g_end rfl) (fun z => absurd h2 z))) (Nat.zero_add _))) ?_
  refine GoL.of (g_iload d_L_law_1165 rfl (g_if_ne (tgt := 1182) d_L_law_1167 (by decide) (fun _ => g_goto (tgt := 1564) d_L_law_1182 (by decide) (g_drop [5, 6, 7] rfl (g_end rfl))) (fun z => g_aload_n d_L_law_1170 rfl (g_iconst (v := 0) d_L_law_1171 (by decide) (g_lald (f := ro u) d_L_law_1172 rfl (show ¬ ((0 : Int32) < 0 ∨ 1 ≤ Int32.toNatClampNeg 0) by decide) (g_iload d_L_law_1173 rfl (g_i2l d_L_law_1175 (g_lcmp_eq (tgt := 1182) d_L_law_1176 d_L_law_1177 (by decide) (fun _ => g_goto (tgt := 1564) d_L_law_1182 (by decide) (g_drop [5, 6, 7] rfl (g_end rfl))) (fun y => absurd (h3 z) y)))))))))
theorem d_L_law_1185 : decode (mB M_L_law) 1185 = .ok (.aload_n 1, 1) := by decide +kernel
theorem d_L_law_1186 : decode (mB M_L_law) 1186 = .ok (.aload_n 0, 1) := by decide +kernel
theorem d_L_law_1187 : decode (mB M_L_law) 1187 = .ok (.iload 4, 2) := by decide +kernel
theorem d_L_law_1189 : decode (mB M_L_law) 1189 = .ok (.iconst 1, 1) := by decide +kernel
theorem d_L_law_1190 : decode (mB M_L_law) 1190 = .ok (.iadd, 1) := by decide +kernel
theorem d_L_law_1191 : decode (mB M_L_law) 1191 = .ok (.iaload, 1) := by decide +kernel
theorem d_L_law_1192 : decode (mB M_L_law) 1192 = .ok (.aload_n 0, 1) := by decide +kernel
theorem d_L_law_1193 : decode (mB M_L_law) 1193 = .ok (.iload 4, 2) := by decide +kernel
theorem d_L_law_1195 : decode (mB M_L_law) 1195 = .ok (.iconst 2, 1) := by decide +kernel
theorem d_L_law_1196 : decode (mB M_L_law) 1196 = .ok (.iadd, 1) := by decide +kernel
theorem d_L_law_1197 : decode (mB M_L_law) 1197 = .ok (.iaload, 1) := by decide +kernel
theorem d_L_law_1198 : decode (mB M_L_law) 1198 = .ok (.ifCond .eq 7, 3) := by decide +kernel
theorem d_L_law_1201 : decode (mB M_L_law) 1201 = .ok (.iconst 1, 1) := by decide +kernel
theorem d_L_law_1202 : decode (mB M_L_law) 1202 = .ok (.goto 4, 3) := by decide +kernel
theorem d_L_law_1205 : decode (mB M_L_law) 1205 = .ok (.iconst 0, 1) := by decide +kernel
theorem d_L_law_1206 : decode (mB M_L_law) 1206 = .ok (.aload_n 3, 1) := by decide +kernel
theorem d_L_law_1207 : decode (mB M_L_law) 1207 = .ok (.invokestatic 169, 3) := by decide +kernel
theorem d_L_law_1210 : decode (mB M_L_law) 1210 = .ok (.istore 5, 2) := by decide +kernel
theorem d_L_law_1212 : decode (mB M_L_law) 1212 = .ok (.aload_n 2, 1) := by decide +kernel
theorem d_L_law_1213 : decode (mB M_L_law) 1213 = .ok (.aload_n 0, 1) := by decide +kernel
theorem d_L_law_1214 : decode (mB M_L_law) 1214 = .ok (.iload 4, 2) := by decide +kernel
theorem d_L_law_1216 : decode (mB M_L_law) 1216 = .ok (.iconst 1, 1) := by decide +kernel
theorem d_L_law_1217 : decode (mB M_L_law) 1217 = .ok (.iadd, 1) := by decide +kernel
theorem d_L_law_1218 : decode (mB M_L_law) 1218 = .ok (.iaload, 1) := by decide +kernel
theorem d_L_law_1219 : decode (mB M_L_law) 1219 = .ok (.aload_n 0, 1) := by decide +kernel
theorem d_L_law_1220 : decode (mB M_L_law) 1220 = .ok (.iload 4, 2) := by decide +kernel
theorem d_L_law_1222 : decode (mB M_L_law) 1222 = .ok (.iconst 2, 1) := by decide +kernel
theorem d_L_law_1223 : decode (mB M_L_law) 1223 = .ok (.iadd, 1) := by decide +kernel
theorem d_L_law_1224 : decode (mB M_L_law) 1224 = .ok (.iaload, 1) := by decide +kernel
theorem d_L_law_1225 : decode (mB M_L_law) 1225 = .ok (.ifCond .eq 7, 3) := by decide +kernel
theorem d_L_law_1228 : decode (mB M_L_law) 1228 = .ok (.iconst 1, 1) := by decide +kernel
theorem d_L_law_1229 : decode (mB M_L_law) 1229 = .ok (.goto 4, 3) := by decide +kernel
theorem d_L_law_1232 : decode (mB M_L_law) 1232 = .ok (.iconst 0, 1) := by decide +kernel
theorem d_L_law_1233 : decode (mB M_L_law) 1233 = .ok (.invokevirtual 171, 3) := by decide +kernel
theorem d_L_law_1236 : decode (mB M_L_law) 1236 = .ok (.istore 6, 2) := by decide +kernel
theorem d_L_law_1238 : decode (mB M_L_law) 1238 = .ok (.aload_n 2, 1) := by decide +kernel
theorem d_L_law_1239 : decode (mB M_L_law) 1239 = .ok (.invokevirtual 113, 3) := by decide +kernel
theorem d_L_law_1242 : decode (mB M_L_law) 1242 = .ok (.iload 5, 2) := by decide +kernel
theorem d_L_law_1244 : decode (mB M_L_law) 1244 = .ok (.if_icmp .eq 5, 3) := by decide +kernel
theorem d_L_law_1249 : decode (mB M_L_law) 1249 = .ok (.iload 5, 2) := by decide +kernel
theorem d_L_law_1251 : decode (mB M_L_law) 1251 = .ok (.ifCond .ne 15, 3) := by decide +kernel
theorem d_L_law_1254 : decode (mB M_L_law) 1254 = .ok (.aload_n 3, 1) := by decide +kernel
theorem d_L_law_1255 : decode (mB M_L_law) 1255 = .ok (.iconst 0, 1) := by decide +kernel
theorem d_L_law_1256 : decode (mB M_L_law) 1256 = .ok (.laload, 1) := by decide +kernel
theorem d_L_law_1257 : decode (mB M_L_law) 1257 = .ok (.iload 6, 2) := by decide +kernel
theorem d_L_law_1259 : decode (mB M_L_law) 1259 = .ok (.i2l, 1) := by decide +kernel
theorem d_L_law_1260 : decode (mB M_L_law) 1260 = .ok (.lcmp, 1) := by decide +kernel
theorem d_L_law_1261 : decode (mB M_L_law) 1261 = .ok (.ifCond .eq 5, 3) := by decide +kernel
theorem d_L_law_1266 : decode (mB M_L_law) 1266 = .ok (.goto 298, 3) := by decide +kernel
theorem k_solution {E : mEnv} (hE : E.1.stackTraces = false) {b L k n0 : Nat} {xs : Nat → Int32} (hL : L ≤ 1536) (hk : k + 2 < L) {t u v : xT} {c c' : cT} {kk : Int32} {r : Int32} (h0 : Rh E M_L_solution n0 [.ref 100, .int (xs (k + 1)), .int (nzF (xs (k + 2))), .ref 19] (mw t, cw c) (some (.int kk)) (mw v, cw c')) (h1 : Rt E M_X12_solution 0 [.ref 0, .int (xs (k + 1)), .int (nzF (xs (k + 2)))] (mw v, cw c') (some (.int r)) (mw u, cw c')) (h2 : rs u 9 = kk) (h3 : kk = 0 → ro u (Int32.toNatClampNeg 0) = r.toInt64) : GoL E b L xs M_L_law n0 (1185, LL k, [], (mw t, cw c)) (.inl (1564, LL k, [], (mw u, cw c'))) := by
  refine l_go0 (g_aload_n d_L_law_1185 rfl (g_end rfl)) ?_
  refine l_go0 (g_aload_n d_L_law_1186 rfl (g_iload d_L_law_1187 rfl (g_iconst (v := 1) d_L_law_1189 (by decide) (g_iadd d_L_law_1190 (g_end rfl))))) ?_
  refine l_sld (j := k + 1) d_L_law_1191 (ix_1 k) (by omega) hL ?_
  refine l_go0 (g_aload_n d_L_law_1192 rfl (g_iload d_L_law_1193 rfl (g_iconst (v := 2) d_L_law_1195 (by decide) (g_iadd d_L_law_1196 (g_end rfl))))) ?_
  refine l_sld (j := k + 2) d_L_law_1197 (ix_2 k) (by omega) hL ?_
  refine l_go0 (l_nz d_L_law_1198 (by decide) d_L_law_1201 d_L_law_1202 (by decide) d_L_law_1205) ?_
  refine l_go (g_aload_n d_L_law_1206 rfl (g_callH (As := [.ref 100, .int (xs (k + 1)), .int (nzF (xs (k + 2))), .ref 19]) d_L_law_1207 o_L_solution l_L_169 ⟨Nat.le_of_ble_eq_true rfl, Nat.le_of_ble_eq_true rfl⟩ h0 rfl rfl (g_istore (L' := LL5 k kk) d_L_law_1210 rfl rfl (g_end rfl)) (Nat.add_zero _))) ?_ (Nat.add_zero _)
  refine l_go0 (g_aload_n d_L_law_1212 rfl (g_end rfl)) ?_
  refine l_go0 (g_aload_n d_L_law_1213 rfl (g_iload d_L_law_1214 rfl (g_iconst (v := 1) d_L_law_1216 (by decide) (g_iadd d_L_law_1217 (g_end rfl))))) ?_
  refine l_sld (j := k + 1) d_L_law_1218 (ix_1 k) (by omega) hL ?_
  refine l_go0 (g_aload_n d_L_law_1219 rfl (g_iload d_L_law_1220 rfl (g_iconst (v := 2) d_L_law_1222 (by decide) (g_iadd d_L_law_1223 (g_end rfl))))) ?_
  refine l_sld (j := k + 2) d_L_law_1224 (ix_2 k) (by omega) hL ?_
  refine l_go0 (l_nz d_L_law_1225 (by decide) d_L_law_1228 d_L_law_1229 (by decide) d_L_law_1232) ?_
  refine l_go0 (g_callV (As := [.int (xs (k + 1)), .int (nzF (xs (k + 2)))]) d_L_law_1233 o_X12_solution l_L_171 ⟨Nat.le_of_ble_eq_true rfl, Nat.le_of_ble_eq_true rfl⟩ h1 rfl rfl rfl rfl rfl rfl (g_istore (L' := (LL6 k kk r)) d_L_law_1236 rfl rfl (g_end rfl)) (Nat.zero_add _)) ?_
  refine l_go0 (g_aload_n d_L_law_1238 rfl (g_callV (As := []) d_L_law_1239 o_X12_thrown l_L_113 ⟨Nat.le_of_ble_eq_true rfl, Nat.le_of_ble_eq_true rfl⟩ (c_m_thrown hE _ u) rfl rfl rfl rfl rfl rfl (g_iload d_L_law_1242 rfl (g_icmp_eq (tgt := 1249) d_L_law_1244 (by decide) (fun _ => g_end rfl) (fun z => absurd h2 z))) (Nat.zero_add _))) ?_
  refine GoL.of (g_iload d_L_law_1249 rfl (g_if_ne (tgt := 1266) d_L_law_1251 (by decide) (fun _ => g_goto (tgt := 1564) d_L_law_1266 (by decide) (g_drop [5, 6, 7] rfl (g_end rfl))) (fun z => g_aload_n d_L_law_1254 rfl (g_iconst (v := 0) d_L_law_1255 (by decide) (g_lald (f := ro u) d_L_law_1256 rfl (show ¬ ((0 : Int32) < 0 ∨ 1 ≤ Int32.toNatClampNeg 0) by decide) (g_iload d_L_law_1257 rfl (g_i2l d_L_law_1259 (g_lcmp_eq (tgt := 1266) d_L_law_1260 d_L_law_1261 (by decide) (fun _ => g_goto (tgt := 1564) d_L_law_1266 (by decide) (g_drop [5, 6, 7] rfl (g_end rfl))) (fun y => absurd (h3 z) y)))))))))
theorem d_L_law_1269 : decode (mB M_L_law) 1269 = .ok (.aload_n 1, 1) := by decide +kernel
theorem d_L_law_1270 : decode (mB M_L_law) 1270 = .ok (.aload_n 0, 1) := by decide +kernel
theorem d_L_law_1271 : decode (mB M_L_law) 1271 = .ok (.iload 4, 2) := by decide +kernel
theorem d_L_law_1273 : decode (mB M_L_law) 1273 = .ok (.iconst 1, 1) := by decide +kernel
theorem d_L_law_1274 : decode (mB M_L_law) 1274 = .ok (.iadd, 1) := by decide +kernel
theorem d_L_law_1275 : decode (mB M_L_law) 1275 = .ok (.iaload, 1) := by decide +kernel
theorem d_L_law_1276 : decode (mB M_L_law) 1276 = .ok (.aload_n 3, 1) := by decide +kernel
theorem d_L_law_1277 : decode (mB M_L_law) 1277 = .ok (.invokestatic 172, 3) := by decide +kernel
theorem d_L_law_1280 : decode (mB M_L_law) 1280 = .ok (.istore 5, 2) := by decide +kernel
theorem d_L_law_1282 : decode (mB M_L_law) 1282 = .ok (.aload_n 2, 1) := by decide +kernel
theorem d_L_law_1283 : decode (mB M_L_law) 1283 = .ok (.aload_n 0, 1) := by decide +kernel
theorem d_L_law_1284 : decode (mB M_L_law) 1284 = .ok (.iload 4, 2) := by decide +kernel
theorem d_L_law_1286 : decode (mB M_L_law) 1286 = .ok (.iconst 1, 1) := by decide +kernel
theorem d_L_law_1287 : decode (mB M_L_law) 1287 = .ok (.iadd, 1) := by decide +kernel
theorem d_L_law_1288 : decode (mB M_L_law) 1288 = .ok (.iaload, 1) := by decide +kernel
theorem d_L_law_1289 : decode (mB M_L_law) 1289 = .ok (.invokevirtual 174, 3) := by decide +kernel
theorem d_L_law_1292 : decode (mB M_L_law) 1292 = .ok (.istore 6, 2) := by decide +kernel
theorem d_L_law_1294 : decode (mB M_L_law) 1294 = .ok (.aload_n 2, 1) := by decide +kernel
theorem d_L_law_1295 : decode (mB M_L_law) 1295 = .ok (.invokevirtual 113, 3) := by decide +kernel
theorem d_L_law_1298 : decode (mB M_L_law) 1298 = .ok (.iload 5, 2) := by decide +kernel
theorem d_L_law_1300 : decode (mB M_L_law) 1300 = .ok (.if_icmp .eq 5, 3) := by decide +kernel
theorem d_L_law_1305 : decode (mB M_L_law) 1305 = .ok (.iload 5, 2) := by decide +kernel
theorem d_L_law_1307 : decode (mB M_L_law) 1307 = .ok (.ifCond .ne 15, 3) := by decide +kernel
theorem d_L_law_1310 : decode (mB M_L_law) 1310 = .ok (.aload_n 3, 1) := by decide +kernel
theorem d_L_law_1311 : decode (mB M_L_law) 1311 = .ok (.iconst 0, 1) := by decide +kernel
theorem d_L_law_1312 : decode (mB M_L_law) 1312 = .ok (.laload, 1) := by decide +kernel
theorem d_L_law_1313 : decode (mB M_L_law) 1313 = .ok (.iload 6, 2) := by decide +kernel
theorem d_L_law_1315 : decode (mB M_L_law) 1315 = .ok (.i2l, 1) := by decide +kernel
theorem d_L_law_1316 : decode (mB M_L_law) 1316 = .ok (.lcmp, 1) := by decide +kernel
theorem d_L_law_1317 : decode (mB M_L_law) 1317 = .ok (.ifCond .eq 5, 3) := by decide +kernel
theorem d_L_law_1322 : decode (mB M_L_law) 1322 = .ok (.goto 242, 3) := by decide +kernel
theorem k_finish {E : mEnv} (hE : E.1.stackTraces = false) {b L k n0 : Nat} {xs : Nat → Int32} (hL : L ≤ 1536) (hk : k + 2 < L) {t u v : xT} {c c' : cT} {kk : Int32} {r : Int32} (h0 : Rh E M_L_finish n0 [.ref 100, .int (xs (k + 1)), .ref 19] (mw t, cw c) (some (.int kk)) (mw v, cw c')) (h1 : Rt E M_X12_finish 0 [.ref 0, .int (xs (k + 1))] (mw v, cw c') (some (.int r)) (mw u, cw c')) (h2 : rs u 9 = kk) (h3 : kk = 0 → ro u (Int32.toNatClampNeg 0) = r.toInt64) : GoL E b L xs M_L_law n0 (1269, LL k, [], (mw t, cw c)) (.inl (1564, LL k, [], (mw u, cw c'))) := by
  refine l_go0 (g_aload_n d_L_law_1269 rfl (g_end rfl)) ?_
  refine l_go0 (g_aload_n d_L_law_1270 rfl (g_iload d_L_law_1271 rfl (g_iconst (v := 1) d_L_law_1273 (by decide) (g_iadd d_L_law_1274 (g_end rfl))))) ?_
  refine l_sld (j := k + 1) d_L_law_1275 (ix_1 k) (by omega) hL ?_
  refine l_go (g_aload_n d_L_law_1276 rfl (g_callH (As := [.ref 100, .int (xs (k + 1)), .ref 19]) d_L_law_1277 o_L_finish l_L_172 ⟨Nat.le_of_ble_eq_true rfl, Nat.le_of_ble_eq_true rfl⟩ h0 rfl rfl (g_istore (L' := LL5 k kk) d_L_law_1280 rfl rfl (g_end rfl)) (Nat.add_zero _))) ?_ (Nat.add_zero _)
  refine l_go0 (g_aload_n d_L_law_1282 rfl (g_end rfl)) ?_
  refine l_go0 (g_aload_n d_L_law_1283 rfl (g_iload d_L_law_1284 rfl (g_iconst (v := 1) d_L_law_1286 (by decide) (g_iadd d_L_law_1287 (g_end rfl))))) ?_
  refine l_sld (j := k + 1) d_L_law_1288 (ix_1 k) (by omega) hL ?_
  refine l_go0 (g_callV (As := [.int (xs (k + 1))]) d_L_law_1289 o_X12_finish l_L_174 ⟨Nat.le_of_ble_eq_true rfl, Nat.le_of_ble_eq_true rfl⟩ h1 rfl rfl rfl rfl rfl rfl (g_istore (L' := (LL6 k kk r)) d_L_law_1292 rfl rfl (g_end rfl)) (Nat.zero_add _)) ?_
  refine l_go0 (g_aload_n d_L_law_1294 rfl (g_callV (As := []) d_L_law_1295 o_X12_thrown l_L_113 ⟨Nat.le_of_ble_eq_true rfl, Nat.le_of_ble_eq_true rfl⟩ (c_m_thrown hE _ u) rfl rfl rfl rfl rfl rfl (g_iload d_L_law_1298 rfl (g_icmp_eq (tgt := 1305) d_L_law_1300 (by decide) (fun _ => g_end rfl) (fun z => absurd h2 z))) (Nat.zero_add _))) ?_
  refine GoL.of (g_iload d_L_law_1305 rfl (g_if_ne (tgt := 1322) d_L_law_1307 (by decide) (fun _ => g_goto (tgt := 1564) d_L_law_1322 (by decide) (g_drop [5, 6, 7] rfl (g_end rfl))) (fun z => g_aload_n d_L_law_1310 rfl (g_iconst (v := 0) d_L_law_1311 (by decide) (g_lald (f := ro u) d_L_law_1312 rfl (show ¬ ((0 : Int32) < 0 ∨ 1 ≤ Int32.toNatClampNeg 0) by decide) (g_iload d_L_law_1313 rfl (g_i2l d_L_law_1315 (g_lcmp_eq (tgt := 1322) d_L_law_1316 d_L_law_1317 (by decide) (fun _ => g_goto (tgt := 1564) d_L_law_1322 (by decide) (g_drop [5, 6, 7] rfl (g_end rfl))) (fun y => absurd (h3 z) y)))))))))
theorem d_L_law_1325 : decode (mB M_L_law) 1325 = .ok (.aload_n 1, 1) := by decide +kernel
theorem d_L_law_1326 : decode (mB M_L_law) 1326 = .ok (.aload_n 0, 1) := by decide +kernel
theorem d_L_law_1327 : decode (mB M_L_law) 1327 = .ok (.iload 4, 2) := by decide +kernel
theorem d_L_law_1329 : decode (mB M_L_law) 1329 = .ok (.iconst 1, 1) := by decide +kernel
theorem d_L_law_1330 : decode (mB M_L_law) 1330 = .ok (.iadd, 1) := by decide +kernel
theorem d_L_law_1331 : decode (mB M_L_law) 1331 = .ok (.iaload, 1) := by decide +kernel
theorem d_L_law_1332 : decode (mB M_L_law) 1332 = .ok (.aload_n 3, 1) := by decide +kernel
theorem d_L_law_1333 : decode (mB M_L_law) 1333 = .ok (.invokestatic 175, 3) := by decide +kernel
theorem d_L_law_1336 : decode (mB M_L_law) 1336 = .ok (.istore 5, 2) := by decide +kernel
theorem d_L_law_1338 : decode (mB M_L_law) 1338 = .ok (.aload_n 2, 1) := by decide +kernel
theorem d_L_law_1339 : decode (mB M_L_law) 1339 = .ok (.aload_n 0, 1) := by decide +kernel
theorem d_L_law_1340 : decode (mB M_L_law) 1340 = .ok (.iload 4, 2) := by decide +kernel
theorem d_L_law_1342 : decode (mB M_L_law) 1342 = .ok (.iconst 1, 1) := by decide +kernel
theorem d_L_law_1343 : decode (mB M_L_law) 1343 = .ok (.iadd, 1) := by decide +kernel
theorem d_L_law_1344 : decode (mB M_L_law) 1344 = .ok (.iaload, 1) := by decide +kernel
theorem d_L_law_1345 : decode (mB M_L_law) 1345 = .ok (.invokevirtual 177, 3) := by decide +kernel
theorem d_L_law_1348 : decode (mB M_L_law) 1348 = .ok (.istore 6, 2) := by decide +kernel
theorem d_L_law_1350 : decode (mB M_L_law) 1350 = .ok (.aload_n 2, 1) := by decide +kernel
theorem d_L_law_1351 : decode (mB M_L_law) 1351 = .ok (.invokevirtual 113, 3) := by decide +kernel
theorem d_L_law_1354 : decode (mB M_L_law) 1354 = .ok (.iload 5, 2) := by decide +kernel
theorem d_L_law_1356 : decode (mB M_L_law) 1356 = .ok (.if_icmp .eq 5, 3) := by decide +kernel
theorem d_L_law_1361 : decode (mB M_L_law) 1361 = .ok (.iload 5, 2) := by decide +kernel
theorem d_L_law_1363 : decode (mB M_L_law) 1363 = .ok (.ifCond .ne 15, 3) := by decide +kernel
theorem d_L_law_1366 : decode (mB M_L_law) 1366 = .ok (.aload_n 3, 1) := by decide +kernel
theorem d_L_law_1367 : decode (mB M_L_law) 1367 = .ok (.iconst 0, 1) := by decide +kernel
theorem d_L_law_1368 : decode (mB M_L_law) 1368 = .ok (.laload, 1) := by decide +kernel
theorem d_L_law_1369 : decode (mB M_L_law) 1369 = .ok (.iload 6, 2) := by decide +kernel
theorem d_L_law_1371 : decode (mB M_L_law) 1371 = .ok (.i2l, 1) := by decide +kernel
theorem d_L_law_1372 : decode (mB M_L_law) 1372 = .ok (.lcmp, 1) := by decide +kernel
theorem d_L_law_1373 : decode (mB M_L_law) 1373 = .ok (.ifCond .eq 5, 3) := by decide +kernel
theorem d_L_law_1378 : decode (mB M_L_law) 1378 = .ok (.goto 186, 3) := by decide +kernel
theorem k_recorded {E : mEnv} (hE : E.1.stackTraces = false) {b L k n0 : Nat} {xs : Nat → Int32} (hL : L ≤ 1536) (hk : k + 2 < L) {t u v : xT} {c c' : cT} {kk : Int32} {r : Int32} (h0 : Rh E M_L_recorded n0 [.ref 100, .int (xs (k + 1)), .ref 19] (mw t, cw c) (some (.int kk)) (mw v, cw c')) (h1 : Rt E M_X12_recorded 0 [.ref 0, .int (xs (k + 1))] (mw v, cw c') (some (.int r)) (mw u, cw c')) (h2 : rs u 9 = kk) (h3 : kk = 0 → ro u (Int32.toNatClampNeg 0) = r.toInt64) : GoL E b L xs M_L_law n0 (1325, LL k, [], (mw t, cw c)) (.inl (1564, LL k, [], (mw u, cw c'))) := by
  refine l_go0 (g_aload_n d_L_law_1325 rfl (g_end rfl)) ?_
  refine l_go0 (g_aload_n d_L_law_1326 rfl (g_iload d_L_law_1327 rfl (g_iconst (v := 1) d_L_law_1329 (by decide) (g_iadd d_L_law_1330 (g_end rfl))))) ?_
  refine l_sld (j := k + 1) d_L_law_1331 (ix_1 k) (by omega) hL ?_
  refine l_go (g_aload_n d_L_law_1332 rfl (g_callH (As := [.ref 100, .int (xs (k + 1)), .ref 19]) d_L_law_1333 o_L_recorded l_L_175 ⟨Nat.le_of_ble_eq_true rfl, Nat.le_of_ble_eq_true rfl⟩ h0 rfl rfl (g_istore (L' := LL5 k kk) d_L_law_1336 rfl rfl (g_end rfl)) (Nat.add_zero _))) ?_ (Nat.add_zero _)
  refine l_go0 (g_aload_n d_L_law_1338 rfl (g_end rfl)) ?_
  refine l_go0 (g_aload_n d_L_law_1339 rfl (g_iload d_L_law_1340 rfl (g_iconst (v := 1) d_L_law_1342 (by decide) (g_iadd d_L_law_1343 (g_end rfl))))) ?_
  refine l_sld (j := k + 1) d_L_law_1344 (ix_1 k) (by omega) hL ?_
  refine l_go0 (g_callV (As := [.int (xs (k + 1))]) d_L_law_1345 o_X12_recorded l_L_177 ⟨Nat.le_of_ble_eq_true rfl, Nat.le_of_ble_eq_true rfl⟩ h1 rfl rfl rfl rfl rfl rfl (g_istore (L' := (LL6 k kk r)) d_L_law_1348 rfl rfl (g_end rfl)) (Nat.zero_add _)) ?_
  refine l_go0 (g_aload_n d_L_law_1350 rfl (g_callV (As := []) d_L_law_1351 o_X12_thrown l_L_113 ⟨Nat.le_of_ble_eq_true rfl, Nat.le_of_ble_eq_true rfl⟩ (c_m_thrown hE _ u) rfl rfl rfl rfl rfl rfl (g_iload d_L_law_1354 rfl (g_icmp_eq (tgt := 1361) d_L_law_1356 (by decide) (fun _ => g_end rfl) (fun z => absurd h2 z))) (Nat.zero_add _))) ?_
  refine GoL.of (g_iload d_L_law_1361 rfl (g_if_ne (tgt := 1378) d_L_law_1363 (by decide) (fun _ => g_goto (tgt := 1564) d_L_law_1378 (by decide) (g_drop [5, 6, 7] rfl (g_end rfl))) (fun z => g_aload_n d_L_law_1366 rfl (g_iconst (v := 0) d_L_law_1367 (by decide) (g_lald (f := ro u) d_L_law_1368 rfl (show ¬ ((0 : Int32) < 0 ∨ 1 ≤ Int32.toNatClampNeg 0) by decide) (g_iload d_L_law_1369 rfl (g_i2l d_L_law_1371 (g_lcmp_eq (tgt := 1378) d_L_law_1372 d_L_law_1373 (by decide) (fun _ => g_goto (tgt := 1564) d_L_law_1378 (by decide) (g_drop [5, 6, 7] rfl (g_end rfl))) (fun y => absurd (h3 z) y)))))))))
