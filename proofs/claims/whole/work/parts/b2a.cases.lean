/-! the law's cases 0 to 3 (printed by gen/pb2.py) -/
theorem d_L_law_148 : decode (mB M_L_law) 148 = .ok (.aload_n 1, 1) := by decide +kernel
theorem d_L_law_149 : decode (mB M_L_law) 149 = .ok (.aload_n 0, 1) := by decide +kernel
theorem d_L_law_150 : decode (mB M_L_law) 150 = .ok (.iload 4, 2) := by decide +kernel
theorem d_L_law_152 : decode (mB M_L_law) 152 = .ok (.iconst 1, 1) := by decide +kernel
theorem d_L_law_153 : decode (mB M_L_law) 153 = .ok (.iadd, 1) := by decide +kernel
theorem d_L_law_154 : decode (mB M_L_law) 154 = .ok (.iaload, 1) := by decide +kernel
theorem d_L_law_155 : decode (mB M_L_law) 155 = .ok (.i2c, 1) := by decide +kernel
theorem d_L_law_156 : decode (mB M_L_law) 156 = .ok (.aload_n 3, 1) := by decide +kernel
theorem d_L_law_157 : decode (mB M_L_law) 157 = .ok (.invokestatic 107, 3) := by decide +kernel
theorem d_L_law_160 : decode (mB M_L_law) 160 = .ok (.istore 5, 2) := by decide +kernel
theorem d_L_law_162 : decode (mB M_L_law) 162 = .ok (.aload_n 2, 1) := by decide +kernel
theorem d_L_law_163 : decode (mB M_L_law) 163 = .ok (.aload_n 0, 1) := by decide +kernel
theorem d_L_law_164 : decode (mB M_L_law) 164 = .ok (.iload 4, 2) := by decide +kernel
theorem d_L_law_166 : decode (mB M_L_law) 166 = .ok (.iconst 1, 1) := by decide +kernel
theorem d_L_law_167 : decode (mB M_L_law) 167 = .ok (.iadd, 1) := by decide +kernel
theorem d_L_law_168 : decode (mB M_L_law) 168 = .ok (.iaload, 1) := by decide +kernel
theorem d_L_law_169 : decode (mB M_L_law) 169 = .ok (.i2c, 1) := by decide +kernel
theorem d_L_law_170 : decode (mB M_L_law) 170 = .ok (.invokevirtual 112, 3) := by decide +kernel
theorem d_L_law_173 : decode (mB M_L_law) 173 = .ok (.istore 6, 2) := by decide +kernel
theorem d_L_law_175 : decode (mB M_L_law) 175 = .ok (.aload_n 2, 1) := by decide +kernel
theorem d_L_law_176 : decode (mB M_L_law) 176 = .ok (.invokevirtual 113, 3) := by decide +kernel
theorem d_L_law_179 : decode (mB M_L_law) 179 = .ok (.iload 5, 2) := by decide +kernel
theorem d_L_law_181 : decode (mB M_L_law) 181 = .ok (.if_icmp .eq 5, 3) := by decide +kernel
theorem d_L_law_186 : decode (mB M_L_law) 186 = .ok (.iload 5, 2) := by decide +kernel
theorem d_L_law_188 : decode (mB M_L_law) 188 = .ok (.ifCond .ne 15, 3) := by decide +kernel
theorem d_L_law_191 : decode (mB M_L_law) 191 = .ok (.aload_n 3, 1) := by decide +kernel
theorem d_L_law_192 : decode (mB M_L_law) 192 = .ok (.iconst 0, 1) := by decide +kernel
theorem d_L_law_193 : decode (mB M_L_law) 193 = .ok (.laload, 1) := by decide +kernel
theorem d_L_law_194 : decode (mB M_L_law) 194 = .ok (.iload 6, 2) := by decide +kernel
theorem d_L_law_196 : decode (mB M_L_law) 196 = .ok (.i2l, 1) := by decide +kernel
theorem d_L_law_197 : decode (mB M_L_law) 197 = .ok (.lcmp, 1) := by decide +kernel
theorem d_L_law_198 : decode (mB M_L_law) 198 = .ok (.ifCond .eq 5, 3) := by decide +kernel
theorem d_L_law_203 : decode (mB M_L_law) 203 = .ok (.goto 1361, 3) := by decide +kernel
theorem k_feed {E : mEnv} (hE : E.1.stackTraces = false) {b L k n0 : Nat} {xs : Nat → Int32} (hL : L ≤ 1536) (hk : k + 2 < L) {t u v : xT} {c c' : cT} {kk : Int32} {r : Int32} (h0 : Rh E M_L_feed n0 [.ref 100, .int (i2cF (xs (k + 1))), .ref 19] (mw t, cw c) (some (.int kk)) (mw v, cw c')) (h1 : Rt E M_X12_feed 0 [.ref 0, .int (i2cF (xs (k + 1)))] (mw v, cw c') (some (.int r)) (mw u, cw c')) (h2 : rs u 9 = kk) (h3 : kk = 0 → ro u (Int32.toNatClampNeg 0) = r.toInt64) : GoL E b L xs M_L_law n0 (148, LL k, [], (mw t, cw c)) (.inl (1564, LL k, [], (mw u, cw c'))) := by
  refine l_go0 (g_aload_n d_L_law_148 rfl (g_end rfl)) ?_
  refine l_go0 (g_aload_n d_L_law_149 rfl (g_iload d_L_law_150 rfl (g_iconst (v := 1) d_L_law_152 (by decide) (g_iadd d_L_law_153 (g_end rfl))))) ?_
  refine l_sld (j := k + 1) d_L_law_154 (ix_1 k) (by omega) hL ?_
  refine l_go0 (g_i2c d_L_law_155 (g_end rfl)) ?_
  refine l_go (g_aload_n d_L_law_156 rfl (g_callH (As := [.ref 100, .int (i2cF (xs (k + 1))), .ref 19]) d_L_law_157 o_L_feed l_L_107 ⟨Nat.le_of_ble_eq_true rfl, Nat.le_of_ble_eq_true rfl⟩ h0 rfl rfl (g_istore (L' := LL5 k kk) d_L_law_160 rfl rfl (g_end rfl)) (Nat.add_zero _))) ?_ (Nat.add_zero _)
  refine l_go0 (g_aload_n d_L_law_162 rfl (g_end rfl)) ?_
  refine l_go0 (g_aload_n d_L_law_163 rfl (g_iload d_L_law_164 rfl (g_iconst (v := 1) d_L_law_166 (by decide) (g_iadd d_L_law_167 (g_end rfl))))) ?_
  refine l_sld (j := k + 1) d_L_law_168 (ix_1 k) (by omega) hL ?_
  refine l_go0 (g_i2c d_L_law_169 (g_end rfl)) ?_
  refine l_go0 (g_callV (As := [.int (i2cF (xs (k + 1)))]) d_L_law_170 o_X12_feed l_L_112 ⟨Nat.le_of_ble_eq_true rfl, Nat.le_of_ble_eq_true rfl⟩ h1 rfl rfl rfl rfl rfl rfl (g_istore (L' := (LL6 k kk r)) d_L_law_173 rfl rfl (g_end rfl)) (Nat.zero_add _)) ?_
  refine l_go0 (g_aload_n d_L_law_175 rfl (g_callV (As := []) d_L_law_176 o_X12_thrown l_L_113 ⟨Nat.le_of_ble_eq_true rfl, Nat.le_of_ble_eq_true rfl⟩ (c_m_thrown hE _ u) rfl rfl rfl rfl rfl rfl (g_iload d_L_law_179 rfl (g_icmp_eq (tgt := 186) d_L_law_181 (by decide) (fun _ => g_end rfl) (fun z => absurd h2 z))) (Nat.zero_add _))) ?_
  refine GoL.of (g_iload d_L_law_186 rfl (g_if_ne (tgt := 203) d_L_law_188 (by decide) (fun _ => g_goto (tgt := 1564) d_L_law_203 (by decide) (g_drop [5, 6, 7] rfl (g_end rfl))) (fun z => g_aload_n d_L_law_191 rfl (g_iconst (v := 0) d_L_law_192 (by decide) (g_lald (f := ro u) d_L_law_193 rfl (show ¬ ((0 : Int32) < 0 ∨ 1 ≤ Int32.toNatClampNeg 0) by decide) (g_iload d_L_law_194 rfl (g_i2l d_L_law_196 (g_lcmp_eq (tgt := 203) d_L_law_197 d_L_law_198 (by decide) (fun _ => g_goto (tgt := 1564) d_L_law_203 (by decide) (g_drop [5, 6, 7] rfl (g_end rfl))) (fun y => absurd (h3 z) y)))))))))
theorem d_L_law_206 : decode (mB M_L_law) 206 = .ok (.aload_n 1, 1) := by decide +kernel
theorem d_L_law_207 : decode (mB M_L_law) 207 = .ok (.aload_n 3, 1) := by decide +kernel
theorem d_L_law_208 : decode (mB M_L_law) 208 = .ok (.invokestatic 116, 3) := by decide +kernel
theorem d_L_law_211 : decode (mB M_L_law) 211 = .ok (.istore 5, 2) := by decide +kernel
theorem d_L_law_213 : decode (mB M_L_law) 213 = .ok (.aload_n 2, 1) := by decide +kernel
theorem d_L_law_214 : decode (mB M_L_law) 214 = .ok (.invokevirtual 119, 3) := by decide +kernel
theorem d_L_law_217 : decode (mB M_L_law) 217 = .ok (.istore 6, 2) := by decide +kernel
theorem d_L_law_219 : decode (mB M_L_law) 219 = .ok (.aload_n 2, 1) := by decide +kernel
theorem d_L_law_220 : decode (mB M_L_law) 220 = .ok (.invokevirtual 113, 3) := by decide +kernel
theorem d_L_law_223 : decode (mB M_L_law) 223 = .ok (.iload 5, 2) := by decide +kernel
theorem d_L_law_225 : decode (mB M_L_law) 225 = .ok (.if_icmp .eq 5, 3) := by decide +kernel
theorem d_L_law_230 : decode (mB M_L_law) 230 = .ok (.iload 5, 2) := by decide +kernel
theorem d_L_law_232 : decode (mB M_L_law) 232 = .ok (.ifCond .ne 15, 3) := by decide +kernel
theorem d_L_law_235 : decode (mB M_L_law) 235 = .ok (.aload_n 3, 1) := by decide +kernel
theorem d_L_law_236 : decode (mB M_L_law) 236 = .ok (.iconst 0, 1) := by decide +kernel
theorem d_L_law_237 : decode (mB M_L_law) 237 = .ok (.laload, 1) := by decide +kernel
theorem d_L_law_238 : decode (mB M_L_law) 238 = .ok (.iload 6, 2) := by decide +kernel
theorem d_L_law_240 : decode (mB M_L_law) 240 = .ok (.i2l, 1) := by decide +kernel
theorem d_L_law_241 : decode (mB M_L_law) 241 = .ok (.lcmp, 1) := by decide +kernel
theorem d_L_law_242 : decode (mB M_L_law) 242 = .ok (.ifCond .eq 5, 3) := by decide +kernel
theorem d_L_law_247 : decode (mB M_L_law) 247 = .ok (.goto 1317, 3) := by decide +kernel
theorem k_readRoom {E : mEnv} (hE : E.1.stackTraces = false) {b L k n0 : Nat} {xs : Nat → Int32} (hL : L ≤ 1536) (hk : k + 2 < L) {t u v : xT} {c c' : cT} {kk : Int32} {r : Int32} (h0 : Rh E M_L_readRoom n0 [.ref 100, .ref 19] (mw t, cw c) (some (.int kk)) (mw v, cw c')) (h1 : Rt E M_X12_readRoom 0 [.ref 0] (mw v, cw c') (some (.int r)) (mw u, cw c')) (h2 : rs u 9 = kk) (h3 : kk = 0 → ro u (Int32.toNatClampNeg 0) = r.toInt64) : GoL E b L xs M_L_law n0 (206, LL k, [], (mw t, cw c)) (.inl (1564, LL k, [], (mw u, cw c'))) := by
  refine l_go0 (g_aload_n d_L_law_206 rfl (g_end rfl)) ?_
  refine l_go (g_aload_n d_L_law_207 rfl (g_callH (As := [.ref 100, .ref 19]) d_L_law_208 o_L_readRoom l_L_116 ⟨Nat.le_of_ble_eq_true rfl, Nat.le_of_ble_eq_true rfl⟩ h0 rfl rfl (g_istore (L' := LL5 k kk) d_L_law_211 rfl rfl (g_end rfl)) (Nat.add_zero _))) ?_ (Nat.add_zero _)
  refine l_go0 (g_aload_n d_L_law_213 rfl (g_end rfl)) ?_
  refine l_go0 (g_callV (As := []) d_L_law_214 o_X12_readRoom l_L_119 ⟨Nat.le_of_ble_eq_true rfl, Nat.le_of_ble_eq_true rfl⟩ h1 rfl rfl rfl rfl rfl rfl (g_istore (L' := (LL6 k kk r)) d_L_law_217 rfl rfl (g_end rfl)) (Nat.zero_add _)) ?_
  refine l_go0 (g_aload_n d_L_law_219 rfl (g_callV (As := []) d_L_law_220 o_X12_thrown l_L_113 ⟨Nat.le_of_ble_eq_true rfl, Nat.le_of_ble_eq_true rfl⟩ (c_m_thrown hE _ u) rfl rfl rfl rfl rfl rfl (g_iload d_L_law_223 rfl (g_icmp_eq (tgt := 230) d_L_law_225 (by decide) (fun _ => g_end rfl) (fun z => absurd h2 z))) (Nat.zero_add _))) ?_
  refine GoL.of (g_iload d_L_law_230 rfl (g_if_ne (tgt := 247) d_L_law_232 (by decide) (fun _ => g_goto (tgt := 1564) d_L_law_247 (by decide) (g_drop [5, 6, 7] rfl (g_end rfl))) (fun z => g_aload_n d_L_law_235 rfl (g_iconst (v := 0) d_L_law_236 (by decide) (g_lald (f := ro u) d_L_law_237 rfl (show ¬ ((0 : Int32) < 0 ∨ 1 ≤ Int32.toNatClampNeg 0) by decide) (g_iload d_L_law_238 rfl (g_i2l d_L_law_240 (g_lcmp_eq (tgt := 247) d_L_law_241 d_L_law_242 (by decide) (fun _ => g_goto (tgt := 1564) d_L_law_247 (by decide) (g_drop [5, 6, 7] rfl (g_end rfl))) (fun y => absurd (h3 z) y)))))))))
theorem d_L_law_250 : decode (mB M_L_law) 250 = .ok (.aload_n 1, 1) := by decide +kernel
theorem d_L_law_251 : decode (mB M_L_law) 251 = .ok (.aload_n 0, 1) := by decide +kernel
theorem d_L_law_252 : decode (mB M_L_law) 252 = .ok (.iload 4, 2) := by decide +kernel
theorem d_L_law_254 : decode (mB M_L_law) 254 = .ok (.iconst 1, 1) := by decide +kernel
theorem d_L_law_255 : decode (mB M_L_law) 255 = .ok (.iadd, 1) := by decide +kernel
theorem d_L_law_256 : decode (mB M_L_law) 256 = .ok (.iaload, 1) := by decide +kernel
theorem d_L_law_257 : decode (mB M_L_law) 257 = .ok (.aload_n 0, 1) := by decide +kernel
theorem d_L_law_258 : decode (mB M_L_law) 258 = .ok (.iload 4, 2) := by decide +kernel
theorem d_L_law_260 : decode (mB M_L_law) 260 = .ok (.iconst 2, 1) := by decide +kernel
theorem d_L_law_261 : decode (mB M_L_law) 261 = .ok (.iadd, 1) := by decide +kernel
theorem d_L_law_262 : decode (mB M_L_law) 262 = .ok (.iaload, 1) := by decide +kernel
theorem d_L_law_263 : decode (mB M_L_law) 263 = .ok (.aload_n 3, 1) := by decide +kernel
theorem d_L_law_264 : decode (mB M_L_law) 264 = .ok (.invokestatic 120, 3) := by decide +kernel
theorem d_L_law_267 : decode (mB M_L_law) 267 = .ok (.istore 5, 2) := by decide +kernel
theorem d_L_law_269 : decode (mB M_L_law) 269 = .ok (.aload_n 2, 1) := by decide +kernel
theorem d_L_law_270 : decode (mB M_L_law) 270 = .ok (.aload_n 0, 1) := by decide +kernel
theorem d_L_law_271 : decode (mB M_L_law) 271 = .ok (.iload 4, 2) := by decide +kernel
theorem d_L_law_273 : decode (mB M_L_law) 273 = .ok (.iconst 1, 1) := by decide +kernel
theorem d_L_law_274 : decode (mB M_L_law) 274 = .ok (.iadd, 1) := by decide +kernel
theorem d_L_law_275 : decode (mB M_L_law) 275 = .ok (.iaload, 1) := by decide +kernel
theorem d_L_law_276 : decode (mB M_L_law) 276 = .ok (.aload_n 0, 1) := by decide +kernel
theorem d_L_law_277 : decode (mB M_L_law) 277 = .ok (.iload 4, 2) := by decide +kernel
theorem d_L_law_279 : decode (mB M_L_law) 279 = .ok (.iconst 2, 1) := by decide +kernel
theorem d_L_law_280 : decode (mB M_L_law) 280 = .ok (.iadd, 1) := by decide +kernel
theorem d_L_law_281 : decode (mB M_L_law) 281 = .ok (.iaload, 1) := by decide +kernel
theorem d_L_law_282 : decode (mB M_L_law) 282 = .ok (.invokevirtual 123, 3) := by decide +kernel
theorem d_L_law_285 : decode (mB M_L_law) 285 = .ok (.istore 6, 2) := by decide +kernel
theorem d_L_law_287 : decode (mB M_L_law) 287 = .ok (.aload_n 2, 1) := by decide +kernel
theorem d_L_law_288 : decode (mB M_L_law) 288 = .ok (.invokevirtual 113, 3) := by decide +kernel
theorem d_L_law_291 : decode (mB M_L_law) 291 = .ok (.iload 5, 2) := by decide +kernel
theorem d_L_law_293 : decode (mB M_L_law) 293 = .ok (.if_icmp .eq 5, 3) := by decide +kernel
theorem d_L_law_298 : decode (mB M_L_law) 298 = .ok (.iload 5, 2) := by decide +kernel
theorem d_L_law_300 : decode (mB M_L_law) 300 = .ok (.ifCond .ne 15, 3) := by decide +kernel
theorem d_L_law_303 : decode (mB M_L_law) 303 = .ok (.aload_n 3, 1) := by decide +kernel
theorem d_L_law_304 : decode (mB M_L_law) 304 = .ok (.iconst 0, 1) := by decide +kernel
theorem d_L_law_305 : decode (mB M_L_law) 305 = .ok (.laload, 1) := by decide +kernel
theorem d_L_law_306 : decode (mB M_L_law) 306 = .ok (.iload 6, 2) := by decide +kernel
theorem d_L_law_308 : decode (mB M_L_law) 308 = .ok (.i2l, 1) := by decide +kernel
theorem d_L_law_309 : decode (mB M_L_law) 309 = .ok (.lcmp, 1) := by decide +kernel
theorem d_L_law_310 : decode (mB M_L_law) 310 = .ok (.ifCond .eq 5, 3) := by decide +kernel
theorem d_L_law_315 : decode (mB M_L_law) 315 = .ok (.goto 1249, 3) := by decide +kernel
theorem k_cell {E : mEnv} (hE : E.1.stackTraces = false) {b L k n0 : Nat} {xs : Nat → Int32} (hL : L ≤ 1536) (hk : k + 2 < L) {t u v : xT} {c c' : cT} {kk : Int32} {r : Int32} (h0 : Rh E M_L_cell n0 [.ref 100, .int (xs (k + 1)), .int (xs (k + 2)), .ref 19] (mw t, cw c) (some (.int kk)) (mw v, cw c')) (h1 : Rt E M_X12_cell 0 [.ref 0, .int (xs (k + 1)), .int (xs (k + 2))] (mw v, cw c') (some (.int r)) (mw u, cw c')) (h2 : rs u 9 = kk) (h3 : kk = 0 → ro u (Int32.toNatClampNeg 0) = r.toInt64) : GoL E b L xs M_L_law n0 (250, LL k, [], (mw t, cw c)) (.inl (1564, LL k, [], (mw u, cw c'))) := by
  refine l_go0 (g_aload_n d_L_law_250 rfl (g_end rfl)) ?_
  refine l_go0 (g_aload_n d_L_law_251 rfl (g_iload d_L_law_252 rfl (g_iconst (v := 1) d_L_law_254 (by decide) (g_iadd d_L_law_255 (g_end rfl))))) ?_
  refine l_sld (j := k + 1) d_L_law_256 (ix_1 k) (by omega) hL ?_
  refine l_go0 (g_aload_n d_L_law_257 rfl (g_iload d_L_law_258 rfl (g_iconst (v := 2) d_L_law_260 (by decide) (g_iadd d_L_law_261 (g_end rfl))))) ?_
  refine l_sld (j := k + 2) d_L_law_262 (ix_2 k) (by omega) hL ?_
  refine l_go (g_aload_n d_L_law_263 rfl (g_callH (As := [.ref 100, .int (xs (k + 1)), .int (xs (k + 2)), .ref 19]) d_L_law_264 o_L_cell l_L_120 ⟨Nat.le_of_ble_eq_true rfl, Nat.le_of_ble_eq_true rfl⟩ h0 rfl rfl (g_istore (L' := LL5 k kk) d_L_law_267 rfl rfl (g_end rfl)) (Nat.add_zero _))) ?_ (Nat.add_zero _)
  refine l_go0 (g_aload_n d_L_law_269 rfl (g_end rfl)) ?_
  refine l_go0 (g_aload_n d_L_law_270 rfl (g_iload d_L_law_271 rfl (g_iconst (v := 1) d_L_law_273 (by decide) (g_iadd d_L_law_274 (g_end rfl))))) ?_
  refine l_sld (j := k + 1) d_L_law_275 (ix_1 k) (by omega) hL ?_
  refine l_go0 (g_aload_n d_L_law_276 rfl (g_iload d_L_law_277 rfl (g_iconst (v := 2) d_L_law_279 (by decide) (g_iadd d_L_law_280 (g_end rfl))))) ?_
  refine l_sld (j := k + 2) d_L_law_281 (ix_2 k) (by omega) hL ?_
  refine l_go0 (g_callV (As := [.int (xs (k + 1)), .int (xs (k + 2))]) d_L_law_282 o_X12_cell l_L_123 ⟨Nat.le_of_ble_eq_true rfl, Nat.le_of_ble_eq_true rfl⟩ h1 rfl rfl rfl rfl rfl rfl (g_istore (L' := (LL6 k kk r)) d_L_law_285 rfl rfl (g_end rfl)) (Nat.zero_add _)) ?_
  refine l_go0 (g_aload_n d_L_law_287 rfl (g_callV (As := []) d_L_law_288 o_X12_thrown l_L_113 ⟨Nat.le_of_ble_eq_true rfl, Nat.le_of_ble_eq_true rfl⟩ (c_m_thrown hE _ u) rfl rfl rfl rfl rfl rfl (g_iload d_L_law_291 rfl (g_icmp_eq (tgt := 298) d_L_law_293 (by decide) (fun _ => g_end rfl) (fun z => absurd h2 z))) (Nat.zero_add _))) ?_
  refine GoL.of (g_iload d_L_law_298 rfl (g_if_ne (tgt := 315) d_L_law_300 (by decide) (fun _ => g_goto (tgt := 1564) d_L_law_315 (by decide) (g_drop [5, 6, 7] rfl (g_end rfl))) (fun z => g_aload_n d_L_law_303 rfl (g_iconst (v := 0) d_L_law_304 (by decide) (g_lald (f := ro u) d_L_law_305 rfl (show ¬ ((0 : Int32) < 0 ∨ 1 ≤ Int32.toNatClampNeg 0) by decide) (g_iload d_L_law_306 rfl (g_i2l d_L_law_308 (g_lcmp_eq (tgt := 315) d_L_law_309 d_L_law_310 (by decide) (fun _ => g_goto (tgt := 1564) d_L_law_315 (by decide) (g_drop [5, 6, 7] rfl (g_end rfl))) (fun y => absurd (h3 z) y)))))))))
theorem d_L_law_318 : decode (mB M_L_law) 318 = .ok (.aload_n 1, 1) := by decide +kernel
theorem d_L_law_319 : decode (mB M_L_law) 319 = .ok (.aload_n 0, 1) := by decide +kernel
theorem d_L_law_320 : decode (mB M_L_law) 320 = .ok (.iload 4, 2) := by decide +kernel
theorem d_L_law_322 : decode (mB M_L_law) 322 = .ok (.iconst 1, 1) := by decide +kernel
theorem d_L_law_323 : decode (mB M_L_law) 323 = .ok (.iadd, 1) := by decide +kernel
theorem d_L_law_324 : decode (mB M_L_law) 324 = .ok (.iaload, 1) := by decide +kernel
theorem d_L_law_325 : decode (mB M_L_law) 325 = .ok (.aload_n 3, 1) := by decide +kernel
theorem d_L_law_326 : decode (mB M_L_law) 326 = .ok (.invokestatic 124, 3) := by decide +kernel
theorem d_L_law_329 : decode (mB M_L_law) 329 = .ok (.istore 5, 2) := by decide +kernel
theorem d_L_law_331 : decode (mB M_L_law) 331 = .ok (.aload_n 2, 1) := by decide +kernel
theorem d_L_law_332 : decode (mB M_L_law) 332 = .ok (.aload_n 0, 1) := by decide +kernel
theorem d_L_law_333 : decode (mB M_L_law) 333 = .ok (.iload 4, 2) := by decide +kernel
theorem d_L_law_335 : decode (mB M_L_law) 335 = .ok (.iconst 1, 1) := by decide +kernel
theorem d_L_law_336 : decode (mB M_L_law) 336 = .ok (.iadd, 1) := by decide +kernel
theorem d_L_law_337 : decode (mB M_L_law) 337 = .ok (.iaload, 1) := by decide +kernel
theorem d_L_law_338 : decode (mB M_L_law) 338 = .ok (.invokevirtual 127, 3) := by decide +kernel
theorem d_L_law_341 : decode (mB M_L_law) 341 = .ok (.lstore 6, 2) := by decide +kernel
theorem d_L_law_343 : decode (mB M_L_law) 343 = .ok (.aload_n 2, 1) := by decide +kernel
theorem d_L_law_344 : decode (mB M_L_law) 344 = .ok (.invokevirtual 113, 3) := by decide +kernel
theorem d_L_law_347 : decode (mB M_L_law) 347 = .ok (.iload 5, 2) := by decide +kernel
theorem d_L_law_349 : decode (mB M_L_law) 349 = .ok (.if_icmp .eq 5, 3) := by decide +kernel
theorem d_L_law_354 : decode (mB M_L_law) 354 = .ok (.iload 5, 2) := by decide +kernel
theorem d_L_law_356 : decode (mB M_L_law) 356 = .ok (.ifCond .ne 14, 3) := by decide +kernel
theorem d_L_law_359 : decode (mB M_L_law) 359 = .ok (.aload_n 3, 1) := by decide +kernel
theorem d_L_law_360 : decode (mB M_L_law) 360 = .ok (.iconst 0, 1) := by decide +kernel
theorem d_L_law_361 : decode (mB M_L_law) 361 = .ok (.laload, 1) := by decide +kernel
theorem d_L_law_362 : decode (mB M_L_law) 362 = .ok (.lload 6, 2) := by decide +kernel
theorem d_L_law_364 : decode (mB M_L_law) 364 = .ok (.lcmp, 1) := by decide +kernel
theorem d_L_law_365 : decode (mB M_L_law) 365 = .ok (.ifCond .eq 5, 3) := by decide +kernel
theorem d_L_law_370 : decode (mB M_L_law) 370 = .ok (.goto 1194, 3) := by decide +kernel
theorem k_cells {E : mEnv} (hE : E.1.stackTraces = false) {b L k n0 : Nat} {xs : Nat → Int32} (hL : L ≤ 1536) (hk : k + 2 < L) {t u v : xT} {c c' : cT} {kk : Int32} {r : Int64} (h0 : Rh E M_L_cells n0 [.ref 100, .int (xs (k + 1)), .ref 19] (mw t, cw c) (some (.int kk)) (mw v, cw c')) (h1 : Rt E M_X12_cells 0 [.ref 0, .int (xs (k + 1))] (mw v, cw c') (some (.long r)) (mw u, cw c')) (h2 : rs u 9 = kk) (h3 : kk = 0 → ro u (Int32.toNatClampNeg 0) = r) : GoL E b L xs M_L_law n0 (318, LL k, [], (mw t, cw c)) (.inl (1564, LL k, [], (mw u, cw c'))) := by
  refine l_go0 (g_aload_n d_L_law_318 rfl (g_end rfl)) ?_
  refine l_go0 (g_aload_n d_L_law_319 rfl (g_iload d_L_law_320 rfl (g_iconst (v := 1) d_L_law_322 (by decide) (g_iadd d_L_law_323 (g_end rfl))))) ?_
  refine l_sld (j := k + 1) d_L_law_324 (ix_1 k) (by omega) hL ?_
  refine l_go (g_aload_n d_L_law_325 rfl (g_callH (As := [.ref 100, .int (xs (k + 1)), .ref 19]) d_L_law_326 o_L_cells l_L_124 ⟨Nat.le_of_ble_eq_true rfl, Nat.le_of_ble_eq_true rfl⟩ h0 rfl rfl (g_istore (L' := LL5 k kk) d_L_law_329 rfl rfl (g_end rfl)) (Nat.add_zero _))) ?_ (Nat.add_zero _)
  refine l_go0 (g_aload_n d_L_law_331 rfl (g_end rfl)) ?_
  refine l_go0 (g_aload_n d_L_law_332 rfl (g_iload d_L_law_333 rfl (g_iconst (v := 1) d_L_law_335 (by decide) (g_iadd d_L_law_336 (g_end rfl))))) ?_
  refine l_sld (j := k + 1) d_L_law_337 (ix_1 k) (by omega) hL ?_
  refine l_go0 (g_callV (As := [.int (xs (k + 1))]) d_L_law_338 o_X12_cells l_L_127 ⟨Nat.le_of_ble_eq_true rfl, Nat.le_of_ble_eq_true rfl⟩ h1 rfl rfl rfl rfl rfl rfl (g_lstore (L' := (LLJ k kk r)) d_L_law_341 rfl rfl (g_end rfl)) (Nat.zero_add _)) ?_
  refine l_go0 (g_aload_n d_L_law_343 rfl (g_callV (As := []) d_L_law_344 o_X12_thrown l_L_113 ⟨Nat.le_of_ble_eq_true rfl, Nat.le_of_ble_eq_true rfl⟩ (c_m_thrown hE _ u) rfl rfl rfl rfl rfl rfl (g_iload d_L_law_347 rfl (g_icmp_eq (tgt := 354) d_L_law_349 (by decide) (fun _ => g_end rfl) (fun z => absurd h2 z))) (Nat.zero_add _))) ?_
  refine GoL.of (g_iload d_L_law_354 rfl (g_if_ne (tgt := 370) d_L_law_356 (by decide) (fun _ => g_goto (tgt := 1564) d_L_law_370 (by decide) (g_drop [5, 6, 7] rfl (g_end rfl))) (fun z => g_aload_n d_L_law_359 rfl (g_iconst (v := 0) d_L_law_360 (by decide) (g_lald (f := ro u) d_L_law_361 rfl (show ¬ ((0 : Int32) < 0 ∨ 1 ≤ Int32.toNatClampNeg 0) by decide) (g_lload d_L_law_362 rfl (g_lcmp_eq (tgt := 370) d_L_law_364 d_L_law_365 (by decide) (fun _ => g_goto (tgt := 1564) d_L_law_370 (by decide) (g_drop [5, 6, 7] rfl (g_end rfl))) (fun y => absurd (h3 z) y))))))))
