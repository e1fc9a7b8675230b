/-! the law's helpers: what they answer (printed by gen/pb0.py) -/
/-- a virtual call that throws, caught by the row x of this method's table; the handler's first step puts it away into the local i -/
theorem g_catchW {E : mEnv} {y z : mM} {w w' : mW} {pc n n1 : Nat} {L : List (Option Value)} {st As : List Value} {G : mG} {X : String} {ix r ci : Nat} {fs : List Value} {q : vw_C} (d : decode (mB y) pc = .ok (.invokevirtual ix, 3)) (hz : mOkV z As.length) (hlk : mLk y ix z) (hft : mFit y z) (hR : Rx E z (.ref r :: As) w X w')
    (hm : mget w r = some (.inr (ci, fs))) (hq : vwCl[ci]? = some q) (hcls : q.1 = (mN z).cls) (hcat : Nat.ble ((st.map fun v => v.category).sum) 8 = true) {st9 : List Value} (h9 : As.reverse ++ .ref r :: st = st9)
    (pre : List ExceptionTableEntry) (x : ExceptionTableEntry) (suf : List ExceptionTableEntry) (hhh : mHH y ≠ []) (hsplit : tableOf (mHH y) = pre ++ x :: suf) (hpass : ∀ z ∈ pre, mPass y X pc z) (hx : covers x pc = true) (h0 : x.catchType ≠ 0) (hlink : Cond.classLink (mN y).cls x.catchType X ∈ mTBL) (hcast : (X, X) ∈ mCas)
    {i : Nat} (d2 : decode (mB y) x.handlerPc = .ok (.astore i, 2)) (hn : Nat.ble (i + 1) L.length = true) {L' : List (Option Value)} (hL' : (mst L i (.int 0)).set i none = L') (k : Go E y n (x.handlerPc + 2, L', [], w') G) (hn1 : 1 + n = n1) : Go E y n1 (pc, L, st9, w) G := by
  intro ad p e R s m args below meth c A C cells slots QQ hc hs hT H locs ls hw hl
  subst h9; subst hn1; subst hL'
  show W p E.1 e R s m args below meth c H locs cells slots QQ (F0 m pc ls ((As.reverse ++ .ref r :: st).map (mcV ad)))
  rw [mStk]
  have hM := hR ad H.size
  have cw : CallW R s args (mN y).cls (mN z).cls ix (mN z) (mB z) (mL z) (mT z) (mWs z) (mRm z 1) 1 6 As.length :=
    cwV As.length C.2.2.2.2.2.1 (mTBL_good fun w0 h0 => by
      unfold wsV at h0
      rcases List.mem_append.mp h0 with h0 | h0
      · simp only [List.mem_cons, List.not_mem_nil, or_false] at h0
        rcases h0 with rfl | rfl | rfl | rfl
        · exact hlk
        · exact hz.2.1
        · exact hz.2.2
        · exact hz.1.2.1
      · exact mWs_in hz.1 w0 h0) rfl rfl rfl ⟨rfl, hz.1.2.2.1.1, hz.1.2.2.1.2, hz.1.2.2.2⟩ ⟨Nat.le_trans hft.1 C.2.2.2.2.2.2.2.1, Nat.le_trans hft.2 C.2.2.2.2.2.2.2.2.1⟩
  have hrun := vx_runV (p := p) (e := e) (below := below) (meth := meth) (H := H) (locs := locs) (cells := cells) (slots := slots) (As := As.map (mcV ad)) (rest := st.map (mcV ad)) (g := F0 m pc ls ((As.map (mcV ad)).reverse ++ .ref (ad r) :: st.map (mcV ad))) (mFix C) hM cw
    ⟨mPre.blind, by rw [← hcls]; exact mRecv C hw hm hq, fun U hU hW => ⟨rfl, mPre.of C hw hU hW⟩⟩ rfl (by rw [List.length_map]) hl.1 rfl (mRoom hcat) d ⟨by omega, by omega⟩
  refine mRun_x C hw hrun (fun H1 locs1 q9 ce hd h1 h2 h3 => ?_)
  obtain ⟨-, -, -, k4, -, k6, -⟩ := C.2.2.2.2.2.2.2.2.2.2.1
  refine vx_catch C.2.2.2.2.1 pre x suf ((C.2.2.2.2.2.2.2.2.2.2.2.2.2 hhh).trans hsplit) (fun z9 hz9 => ?_) hx h0 (C.2.2.2.2.2.1 _ hlink) (va_Nw.use rfl (k6 _ hcast)) h1 h2 h3 ?_
  · rcases hpass z9 hz9 with h | ⟨h4, nm, h5, h6⟩
    · exact Or.inl h
    · exact Or.inr ⟨h4, nm, C.2.2.2.2.2.1 _ h5, k4 _ h6⟩
  · refine lv_astore (lv := mLv ad L) C.1 C.2.1 d2 hl.has (by have := Nat.le_of_ble_eq_true hn; have : L.length = mL y := hl.2.2.1; omega) rfl (fun ls' h => ?_)
    have hl' : mLs ad (mL y) ls' ((mst L i (.int 0)).set i none) := by
      refine ⟨h.1, h.2.1, by rw [List.length_set, mst_len]; exact hl.2.2.1, fun j u hj => ?_⟩
      by_cases hji : i = j
      · subst hji
        rw [List.getElem?_set] at hj
        simp only [if_true] at hj
        split at hj <;> simp at hj
      · rw [List.getElem?_set_ne hji] at hj
        rcases mst_get hj with ⟨g1, g2⟩ | ⟨g1, g2, g3, g4⟩
        · exact absurd g1.symm hji
        · refine h.2.2 (j, mcV ad u) (List.mem_cons_of_mem _ (List.mem_filter.mpr ⟨mLv_mem g4, ?_⟩))
          have e1 : (j == i) = false := by simp [g1]
          have e2 : (j + 1 == i && (mcV ad u).category == 2) = false := by
            rw [mcV_cat]
            simp only [Bool.and_eq_false_iff, beq_eq_false_iff_ne]
            by_cases q : j + 1 = i
            · exact Or.inr fun z => g3 ⟨q, z⟩
            · exact Or.inl q
          show (!(j == i) && !(j + 1 == i && (mcV ad u).category == 2)) = true
          rw [e1, e2]; rfl
    refine k ad p e R s m args below meth c A C (cells + 1) (slots + 6) QQ (by omega) (by omega) ?_ H1 locs1 ls' hd hl'
    rw [show cells + 1 + n = cells + (1 + n) by omega, show slots + 6 + 6 * n = slots + 6 * (1 + n) by omega]
    exact hT
theorem kl_IAE : Cond.classLink RL 13 xIAE ∈ mTBL := mTBL_of (tb_2 _ (List.mem_of_getElem? (i := 127) rfl)) rfl
theorem kl_ISE : Cond.classLink RL 15 xISE ∈ mTBL := mTBL_of (tb_2 _ (List.mem_of_getElem? (i := 128) rfl)) rfl
theorem kl_AE : Cond.classLink RL 21 xAE ∈ mTBL := mTBL_of (tb_2 _ (List.mem_of_getElem? (i := 227) rfl)) rfl
theorem kl_IOOBE : Cond.classLink RL 27 xIOOBE ∈ mTBL := mTBL_of (tb_3 _ (List.mem_of_getElem? (i := 167) rfl)) rfl
theorem kl_NSEE : Cond.classLink RL 41 xNSEE ∈ mTBL := mTBL_of (tb_4 _ (List.mem_of_getElem? (i := 54) rfl)) rfl
theorem kl_UOE : Cond.classLink RL 56 xUOE ∈ mTBL := mTBL_of (tb_4 _ (List.mem_of_getElem? (i := 177) rfl)) rfl
theorem d_L_feed_0 : decode (mB M_L_feed) 0 = .ok (.aload_n 2, 1) := by decide +kernel
theorem d_L_feed_1 : decode (mB M_L_feed) 1 = .ok (.iconst 0, 1) := by decide +kernel
theorem d_L_feed_2 : decode (mB M_L_feed) 2 = .ok (.aload_n 0, 1) := by decide +kernel
theorem d_L_feed_3 : decode (mB M_L_feed) 3 = .ok (.iload_n 1, 1) := by decide +kernel
theorem d_L_feed_4 : decode (mB M_L_feed) 4 = .ok (.invokevirtual 7, 3) := by decide +kernel
theorem d_L_feed_7 : decode (mB M_L_feed) 7 = .ok (.i2l, 1) := by decide +kernel
theorem d_L_feed_8 : decode (mB M_L_feed) 8 = .ok (.lastore, 1) := by decide +kernel
theorem d_L_feed_9 : decode (mB M_L_feed) 9 = .ok (.goto 9, 3) := by decide +kernel
theorem d_L_feed_12 : decode (mB M_L_feed) 12 = .ok (.astore_n 3, 1) := by decide +kernel
theorem d_L_feed_13 : decode (mB M_L_feed) 13 = .ok (.iconst 1, 1) := by decide +kernel
theorem d_L_feed_14 : decode (mB M_L_feed) 14 = .ok (.ireturn, 1) := by decide +kernel
theorem d_L_feed_15 : decode (mB M_L_feed) 15 = .ok (.astore_n 3, 1) := by decide +kernel
theorem d_L_feed_16 : decode (mB M_L_feed) 16 = .ok (.iconst 2, 1) := by decide +kernel
theorem d_L_feed_17 : decode (mB M_L_feed) 17 = .ok (.ireturn, 1) := by decide +kernel
theorem d_L_feed_18 : decode (mB M_L_feed) 18 = .ok (.iconst 0, 1) := by decide +kernel
theorem d_L_feed_19 : decode (mB M_L_feed) 19 = .ok (.ireturn, 1) := by decide +kernel
theorem hA_feed {E : mEnv} (hE : E.1.stackTraces = false) {t : xT} {c c' : cT} {a0 : Int32} {v : Int32} (hc : Rt E M_X11_feed 0 [.ref 100, .int a0] (mw t, cw c) (some (.int v)) (mw t, cw c')) : Rh E M_L_feed 0 [.ref 100, .int a0, .ref 19] (mw t, cw c) (some (.int 0)) (mw (wo t (vp_updL (ro t) 0 v.toInt64)), cw c') := by
  refine Rh.of hE pn_L (Nat.le_of_ble_eq_true rfl) ?_
  refine g_eq (S' := (0, [some (.ref 100), some (.int a0), some (.ref 19), none], [], (mw t, cw c))) rfl ?_
  refine g_aload_n d_L_feed_0 rfl ?_
  refine g_iconst (v := 0) d_L_feed_1 (by decide) ?_
  refine g_aload_n d_L_feed_2 rfl ?_
  refine g_iload_n d_L_feed_3 rfl ?_
  refine g_callV (As := [.int a0]) d_L_feed_4 o_X11_feed l_L_7 ⟨Nat.le_of_ble_eq_true rfl, Nat.le_of_ble_eq_true rfl⟩ hc rfl rfl rfl rfl rfl rfl ?_ (Nat.zero_add _)
  refine g_i2l d_L_feed_7 ?_
  refine g_last (f := ro t) (w' := (mw (wo t (vp_updL (ro t) 0 v.toInt64)), cw c')) d_L_feed_8 rfl (show ¬ ((0 : Int32) < 0 ∨ 1 ≤ Int32.toNatClampNeg 0) by decide) rfl ?_
  refine g_goto (tgt := 18) d_L_feed_9 (by decide) ?_
  refine g_iconst (v := 0) d_L_feed_18 (by decide) ?_
  exact g_retI d_L_feed_19 rfl rfl rfl
theorem hT_feed_1 {E : mEnv} (hE : E.1.stackTraces = false) {t : xT} {c c' : cT} {a0 : Int32} (hc : Rx E M_X11_feed [.ref 100, .int a0] (mw t, cw c) xIAE (mw t, cw c')) : Rh E M_L_feed 1 [.ref 100, .int a0, .ref 19] (mw t, cw c) (some (.int 1)) (mw t, cw c') := by
  refine Rh.of hE pn_L (Nat.le_of_ble_eq_true rfl) ?_
  refine g_eq (S' := (0, [some (.ref 100), some (.int a0), some (.ref 19), none], [], (mw t, cw c))) rfl ?_
  refine g_aload_n d_L_feed_0 rfl ?_
  refine g_iconst (v := 0) d_L_feed_1 (by decide) ?_
  refine g_aload_n d_L_feed_2 rfl ?_
  refine g_iload_n d_L_feed_3 rfl ?_
  refine g_catchV (n := 0) (L' := [some (.ref 100), some (.int a0), some (.ref 19), none]) (As := [.int a0]) d_L_feed_4 o_X11_feed l_L_7 ⟨Nat.le_of_ble_eq_true rfl, Nat.le_of_ble_eq_true rfl⟩ hc rfl rfl rfl rfl rfl [] ⟨0, 9, 12, 13⟩ [⟨0, 9, 15, 15⟩] (List.cons_ne_nil _ _) rfl (fun _ q => absurd q List.not_mem_nil) rfl (by decide) kl_IAE (List.mem_of_getElem? (i := 1) rfl) d_L_feed_12 rfl rfl ?_ rfl
  refine g_iconst (v := 1) d_L_feed_13 (by decide) ?_
  exact g_retI d_L_feed_14 rfl rfl rfl
theorem hT_feed_2 {E : mEnv} (hE : E.1.stackTraces = false) {t : xT} {c c' : cT} {a0 : Int32} (hc : Rx E M_X11_feed [.ref 100, .int a0] (mw t, cw c) xISE (mw t, cw c')) : Rh E M_L_feed 1 [.ref 100, .int a0, .ref 19] (mw t, cw c) (some (.int 2)) (mw t, cw c') := by
  refine Rh.of hE pn_L (Nat.le_of_ble_eq_true rfl) ?_
  refine g_eq (S' := (0, [some (.ref 100), some (.int a0), some (.ref 19), none], [], (mw t, cw c))) rfl ?_
  refine g_aload_n d_L_feed_0 rfl ?_
  refine g_iconst (v := 0) d_L_feed_1 (by decide) ?_
  refine g_aload_n d_L_feed_2 rfl ?_
  refine g_iload_n d_L_feed_3 rfl ?_
  refine g_catchV (n := 0) (L' := [some (.ref 100), some (.int a0), some (.ref 19), none]) (As := [.int a0]) d_L_feed_4 o_X11_feed l_L_7 ⟨Nat.le_of_ble_eq_true rfl, Nat.le_of_ble_eq_true rfl⟩ hc rfl rfl rfl rfl rfl [⟨0, 9, 12, 13⟩] ⟨0, 9, 15, 15⟩ [] (List.cons_ne_nil _ _) rfl (List.forall_mem_cons.mpr ⟨Or.inr ⟨by decide, xIAE, kl_IAE, List.mem_of_getElem? (i := 11) rfl⟩, fun _ q => absurd q List.not_mem_nil⟩) rfl (by decide) kl_ISE (List.mem_of_getElem? (i := 2) rfl) d_L_feed_15 rfl rfl ?_ rfl
  refine g_iconst (v := 2) d_L_feed_16 (by decide) ?_
  exact g_retI d_L_feed_17 rfl rfl rfl
theorem d_L_readRoom_0 : decode (mB M_L_readRoom) 0 = .ok (.aload_n 1, 1) := by decide +kernel
theorem d_L_readRoom_1 : decode (mB M_L_readRoom) 1 = .ok (.iconst 0, 1) := by decide +kernel
theorem d_L_readRoom_2 : decode (mB M_L_readRoom) 2 = .ok (.aload_n 0, 1) := by decide +kernel
theorem d_L_readRoom_3 : decode (mB M_L_readRoom) 3 = .ok (.invokevirtual 17, 3) := by decide +kernel
theorem d_L_readRoom_6 : decode (mB M_L_readRoom) 6 = .ok (.i2l, 1) := by decide +kernel
theorem d_L_readRoom_7 : decode (mB M_L_readRoom) 7 = .ok (.lastore, 1) := by decide +kernel
theorem d_L_readRoom_8 : decode (mB M_L_readRoom) 8 = .ok (.goto 6, 3) := by decide +kernel
theorem d_L_readRoom_11 : decode (mB M_L_readRoom) 11 = .ok (.astore_n 2, 1) := by decide +kernel
theorem d_L_readRoom_12 : decode (mB M_L_readRoom) 12 = .ok (.iconst 1, 1) := by decide +kernel
theorem d_L_readRoom_13 : decode (mB M_L_readRoom) 13 = .ok (.ireturn, 1) := by decide +kernel
theorem d_L_readRoom_14 : decode (mB M_L_readRoom) 14 = .ok (.iconst 0, 1) := by decide +kernel
theorem d_L_readRoom_15 : decode (mB M_L_readRoom) 15 = .ok (.ireturn, 1) := by decide +kernel
theorem hA_readRoom {E : mEnv} (hE : E.1.stackTraces = false) {t : xT} {c c' : cT} {v : Int32} (hc : Rt E M_X11_readRoom 0 [.ref 100] (mw t, cw c) (some (.int v)) (mw t, cw c')) : Rh E M_L_readRoom 0 [.ref 100, .ref 19] (mw t, cw c) (some (.int 0)) (mw (wo t (vp_updL (ro t) 0 v.toInt64)), cw c') := by
  refine Rh.of hE pn_L (Nat.le_of_ble_eq_true rfl) ?_
  refine g_eq (S' := (0, [some (.ref 100), some (.ref 19), none], [], (mw t, cw c))) rfl ?_
  refine g_aload_n d_L_readRoom_0 rfl ?_
  refine g_iconst (v := 0) d_L_readRoom_1 (by decide) ?_
  refine g_aload_n d_L_readRoom_2 rfl ?_
  refine g_callV (As := []) d_L_readRoom_3 o_X11_readRoom l_L_17 ⟨Nat.le_of_ble_eq_true rfl, Nat.le_of_ble_eq_true rfl⟩ hc rfl rfl rfl rfl rfl rfl ?_ (Nat.zero_add _)
  refine g_i2l d_L_readRoom_6 ?_
  refine g_last (f := ro t) (w' := (mw (wo t (vp_updL (ro t) 0 v.toInt64)), cw c')) d_L_readRoom_7 rfl (show ¬ ((0 : Int32) < 0 ∨ 1 ≤ Int32.toNatClampNeg 0) by decide) rfl ?_
  refine g_goto (tgt := 14) d_L_readRoom_8 (by decide) ?_
  refine g_iconst (v := 0) d_L_readRoom_14 (by decide) ?_
  exact g_retI d_L_readRoom_15 rfl rfl rfl
theorem hT_readRoom_1 {E : mEnv} (hE : E.1.stackTraces = false) {t : xT} {c c' : cT} (hc : Rx E M_X11_readRoom [.ref 100] (mw t, cw c) xAE (mw t, cw c')) : Rh E M_L_readRoom 1 [.ref 100, .ref 19] (mw t, cw c) (some (.int 1)) (mw t, cw c') := by
  refine Rh.of hE pn_L (Nat.le_of_ble_eq_true rfl) ?_
  refine g_eq (S' := (0, [some (.ref 100), some (.ref 19), none], [], (mw t, cw c))) rfl ?_
  refine g_aload_n d_L_readRoom_0 rfl ?_
  refine g_iconst (v := 0) d_L_readRoom_1 (by decide) ?_
  refine g_aload_n d_L_readRoom_2 rfl ?_
  refine g_catchV (n := 0) (L' := [some (.ref 100), some (.ref 19), none]) (As := []) d_L_readRoom_3 o_X11_readRoom l_L_17 ⟨Nat.le_of_ble_eq_true rfl, Nat.le_of_ble_eq_true rfl⟩ hc rfl rfl rfl rfl rfl [] ⟨0, 8, 11, 21⟩ [] (List.cons_ne_nil _ _) rfl (fun _ q => absurd q List.not_mem_nil) rfl (by decide) kl_AE (List.mem_of_getElem? (i := 0) rfl) d_L_readRoom_11 rfl rfl ?_ rfl
  refine g_iconst (v := 1) d_L_readRoom_12 (by decide) ?_
  exact g_retI d_L_readRoom_13 rfl rfl rfl
theorem d_L_cell_0 : decode (mB M_L_cell) 0 = .ok (.aload_n 3, 1) := by decide +kernel
theorem d_L_cell_1 : decode (mB M_L_cell) 1 = .ok (.iconst 0, 1) := by decide +kernel
theorem d_L_cell_2 : decode (mB M_L_cell) 2 = .ok (.aload_n 0, 1) := by decide +kernel
theorem d_L_cell_3 : decode (mB M_L_cell) 3 = .ok (.iload_n 1, 1) := by decide +kernel
theorem d_L_cell_4 : decode (mB M_L_cell) 4 = .ok (.iload_n 2, 1) := by decide +kernel
theorem d_L_cell_5 : decode (mB M_L_cell) 5 = .ok (.invokevirtual 23, 3) := by decide +kernel
theorem d_L_cell_8 : decode (mB M_L_cell) 8 = .ok (.i2l, 1) := by decide +kernel
theorem d_L_cell_9 : decode (mB M_L_cell) 9 = .ok (.lastore, 1) := by decide +kernel
theorem d_L_cell_10 : decode (mB M_L_cell) 10 = .ok (.goto 11, 3) := by decide +kernel
theorem d_L_cell_13 : decode (mB M_L_cell) 13 = .ok (.astore 4, 2) := by decide +kernel
theorem d_L_cell_15 : decode (mB M_L_cell) 15 = .ok (.iconst 1, 1) := by decide +kernel
theorem d_L_cell_16 : decode (mB M_L_cell) 16 = .ok (.ireturn, 1) := by decide +kernel
theorem d_L_cell_17 : decode (mB M_L_cell) 17 = .ok (.astore 4, 2) := by decide +kernel
theorem d_L_cell_19 : decode (mB M_L_cell) 19 = .ok (.iconst 2, 1) := by decide +kernel
theorem d_L_cell_20 : decode (mB M_L_cell) 20 = .ok (.ireturn, 1) := by decide +kernel
theorem d_L_cell_21 : decode (mB M_L_cell) 21 = .ok (.iconst 0, 1) := by decide +kernel
theorem d_L_cell_22 : decode (mB M_L_cell) 22 = .ok (.ireturn, 1) := by decide +kernel
theorem hA_cell {E : mEnv} (hE : E.1.stackTraces = false) {t : xT} {c c' : cT} {a0 a1 : Int32} {v : Int32} (hc : Rt E M_X11_cell 0 [.ref 100, .int a0, .int a1] (mw t, cw c) (some (.int v)) (mw t, cw c')) : Rh E M_L_cell 0 [.ref 100, .int a0, .int a1, .ref 19] (mw t, cw c) (some (.int 0)) (mw (wo t (vp_updL (ro t) 0 v.toInt64)), cw c') := by
  refine Rh.of hE pn_L (Nat.le_of_ble_eq_true rfl) ?_
  refine g_eq (S' := (0, [some (.ref 100), some (.int a0), some (.int a1), some (.ref 19), none], [], (mw t, cw c))) rfl ?_
  refine g_aload_n d_L_cell_0 rfl ?_
  refine g_iconst (v := 0) d_L_cell_1 (by decide) ?_
  refine g_aload_n d_L_cell_2 rfl ?_
  refine g_iload_n d_L_cell_3 rfl ?_
  refine g_iload_n d_L_cell_4 rfl ?_
  refine g_callV (As := [.int a0, .int a1]) d_L_cell_5 o_X11_cell l_L_23 ⟨Nat.le_of_ble_eq_true rfl, Nat.le_of_ble_eq_true rfl⟩ hc rfl rfl rfl rfl rfl rfl ?_ (Nat.zero_add _)
  refine g_i2l d_L_cell_8 ?_
  refine g_last (f := ro t) (w' := (mw (wo t (vp_updL (ro t) 0 v.toInt64)), cw c')) d_L_cell_9 rfl (show ¬ ((0 : Int32) < 0 ∨ 1 ≤ Int32.toNatClampNeg 0) by decide) rfl ?_
  refine g_goto (tgt := 21) d_L_cell_10 (by decide) ?_
  refine g_iconst (v := 0) d_L_cell_21 (by decide) ?_
  exact g_retI d_L_cell_22 rfl rfl rfl
theorem hT_cell_1 {E : mEnv} (hE : E.1.stackTraces = false) {t : xT} {c c' : cT} {a0 a1 : Int32} (hc : Rx E M_X11_cell [.ref 100, .int a0, .int a1] (mw t, cw c) xISE (mw t, cw c')) : Rh E M_L_cell 1 [.ref 100, .int a0, .int a1, .ref 19] (mw t, cw c) (some (.int 1)) (mw t, cw c') := by
  refine Rh.of hE pn_L (Nat.le_of_ble_eq_true rfl) ?_
  refine g_eq (S' := (0, [some (.ref 100), some (.int a0), some (.int a1), some (.ref 19), none], [], (mw t, cw c))) rfl ?_
  refine g_aload_n d_L_cell_0 rfl ?_
  refine g_iconst (v := 0) d_L_cell_1 (by decide) ?_
  refine g_aload_n d_L_cell_2 rfl ?_
  refine g_iload_n d_L_cell_3 rfl ?_
  refine g_iload_n d_L_cell_4 rfl ?_
  refine g_catchW (n := 0) (L' := [some (.ref 100), some (.int a0), some (.int a1), some (.ref 19), none]) (As := [.int a0, .int a1]) d_L_cell_5 o_X11_cell l_L_23 ⟨Nat.le_of_ble_eq_true rfl, Nat.le_of_ble_eq_true rfl⟩ hc rfl rfl rfl rfl rfl [] ⟨0, 10, 13, 15⟩ [⟨0, 10, 17, 27⟩] (List.cons_ne_nil _ _) rfl (fun _ q => absurd q List.not_mem_nil) rfl (by decide) kl_ISE (List.mem_of_getElem? (i := 2) rfl) d_L_cell_13 rfl rfl ?_ rfl
  refine g_iconst (v := 1) d_L_cell_15 (by decide) ?_
  exact g_retI d_L_cell_16 rfl rfl rfl
theorem hT_cell_2 {E : mEnv} (hE : E.1.stackTraces = false) {t : xT} {c c' : cT} {a0 a1 : Int32} (hc : Rx E M_X11_cell [.ref 100, .int a0, .int a1] (mw t, cw c) xIOOBE (mw t, cw c')) : Rh E M_L_cell 1 [.ref 100, .int a0, .int a1, .ref 19] (mw t, cw c) (some (.int 2)) (mw t, cw c') := by
  refine Rh.of hE pn_L (Nat.le_of_ble_eq_true rfl) ?_
  refine g_eq (S' := (0, [some (.ref 100), some (.int a0), some (.int a1), some (.ref 19), none], [], (mw t, cw c))) rfl ?_
  refine g_aload_n d_L_cell_0 rfl ?_
  refine g_iconst (v := 0) d_L_cell_1 (by decide) ?_
  refine g_aload_n d_L_cell_2 rfl ?_
  refine g_iload_n d_L_cell_3 rfl ?_
  refine g_iload_n d_L_cell_4 rfl ?_
  refine g_catchW (n := 0) (L' := [some (.ref 100), some (.int a0), some (.int a1), some (.ref 19), none]) (As := [.int a0, .int a1]) d_L_cell_5 o_X11_cell l_L_23 ⟨Nat.le_of_ble_eq_true rfl, Nat.le_of_ble_eq_true rfl⟩ hc rfl rfl rfl rfl rfl [⟨0, 10, 13, 15⟩] ⟨0, 10, 17, 27⟩ [] (List.cons_ne_nil _ _) rfl (List.forall_mem_cons.mpr ⟨Or.inr ⟨by decide, xISE, kl_ISE, List.mem_of_getElem? (i := 17) rfl⟩, fun _ q => absurd q List.not_mem_nil⟩) rfl (by decide) kl_IOOBE (List.mem_of_getElem? (i := 3) rfl) d_L_cell_17 rfl rfl ?_ rfl
  refine g_iconst (v := 2) d_L_cell_19 (by decide) ?_
  exact g_retI d_L_cell_20 rfl rfl rfl
theorem d_L_cells_0 : decode (mB M_L_cells) 0 = .ok (.aload_n 2, 1) := by decide +kernel
theorem d_L_cells_1 : decode (mB M_L_cells) 1 = .ok (.iconst 0, 1) := by decide +kernel
theorem d_L_cells_2 : decode (mB M_L_cells) 2 = .ok (.aload_n 0, 1) := by decide +kernel
theorem d_L_cells_3 : decode (mB M_L_cells) 3 = .ok (.iload_n 1, 1) := by decide +kernel
theorem d_L_cells_4 : decode (mB M_L_cells) 4 = .ok (.invokevirtual 29, 3) := by decide +kernel
theorem d_L_cells_7 : decode (mB M_L_cells) 7 = .ok (.lastore, 1) := by decide +kernel
theorem d_L_cells_8 : decode (mB M_L_cells) 8 = .ok (.goto 9, 3) := by decide +kernel
theorem d_L_cells_11 : decode (mB M_L_cells) 11 = .ok (.astore_n 3, 1) := by decide +kernel
theorem d_L_cells_12 : decode (mB M_L_cells) 12 = .ok (.iconst 1, 1) := by decide +kernel
theorem d_L_cells_13 : decode (mB M_L_cells) 13 = .ok (.ireturn, 1) := by decide +kernel
theorem d_L_cells_14 : decode (mB M_L_cells) 14 = .ok (.astore_n 3, 1) := by decide +kernel
theorem d_L_cells_15 : decode (mB M_L_cells) 15 = .ok (.iconst 2, 1) := by decide +kernel
theorem d_L_cells_16 : decode (mB M_L_cells) 16 = .ok (.ireturn, 1) := by decide +kernel
theorem d_L_cells_17 : decode (mB M_L_cells) 17 = .ok (.iconst 0, 1) := by decide +kernel
theorem d_L_cells_18 : decode (mB M_L_cells) 18 = .ok (.ireturn, 1) := by decide +kernel
theorem hA_cells {E : mEnv} (hE : E.1.stackTraces = false) {t : xT} {c c' : cT} {a0 : Int32} {v : Int64} (hc : Rt E M_X11_cells 0 [.ref 100, .int a0] (mw t, cw c) (some (.long v)) (mw t, cw c')) : Rh E M_L_cells 0 [.ref 100, .int a0, .ref 19] (mw t, cw c) (some (.int 0)) (mw (wo t (vp_updL (ro t) 0 v)), cw c') := by
  refine Rh.of hE pn_L (Nat.le_of_ble_eq_true rfl) ?_
  refine g_eq (S' := (0, [some (.ref 100), some (.int a0), some (.ref 19), none], [], (mw t, cw c))) rfl ?_
  refine g_aload_n d_L_cells_0 rfl ?_
  refine g_iconst (v := 0) d_L_cells_1 (by decide) ?_
  refine g_aload_n d_L_cells_2 rfl ?_
  refine g_iload_n d_L_cells_3 rfl ?_
  refine g_callV (As := [.int a0]) d_L_cells_4 o_X11_cells l_L_29 ⟨Nat.le_of_ble_eq_true rfl, Nat.le_of_ble_eq_true rfl⟩ hc rfl rfl rfl rfl rfl rfl ?_ (Nat.zero_add _)
  refine g_last (f := ro t) (w' := (mw (wo t (vp_updL (ro t) 0 v)), cw c')) d_L_cells_7 rfl (show ¬ ((0 : Int32) < 0 ∨ 1 ≤ Int32.toNatClampNeg 0) by decide) rfl ?_
  refine g_goto (tgt := 17) d_L_cells_8 (by decide) ?_
  refine g_iconst (v := 0) d_L_cells_17 (by decide) ?_
  exact g_retI d_L_cells_18 rfl rfl rfl
theorem hT_cells_1 {E : mEnv} (hE : E.1.stackTraces = false) {t : xT} {c c' : cT} {a0 : Int32} (hc : Rx E M_X11_cells [.ref 100, .int a0] (mw t, cw c) xISE (mw t, cw c')) : Rh E M_L_cells 1 [.ref 100, .int a0, .ref 19] (mw t, cw c) (some (.int 1)) (mw t, cw c') := by
  refine Rh.of hE pn_L (Nat.le_of_ble_eq_true rfl) ?_
  refine g_eq (S' := (0, [some (.ref 100), some (.int a0), some (.ref 19), none], [], (mw t, cw c))) rfl ?_
  refine g_aload_n d_L_cells_0 rfl ?_
  refine g_iconst (v := 0) d_L_cells_1 (by decide) ?_
  refine g_aload_n d_L_cells_2 rfl ?_
  refine g_iload_n d_L_cells_3 rfl ?_
  refine g_catchV (n := 0) (L' := [some (.ref 100), some (.int a0), some (.ref 19), none]) (As := [.int a0]) d_L_cells_4 o_X11_cells l_L_29 ⟨Nat.le_of_ble_eq_true rfl, Nat.le_of_ble_eq_true rfl⟩ hc rfl rfl rfl rfl rfl [] ⟨0, 8, 11, 15⟩ [⟨0, 8, 14, 13⟩] (List.cons_ne_nil _ _) rfl (fun _ q => absurd q List.not_mem_nil) rfl (by decide) kl_ISE (List.mem_of_getElem? (i := 2) rfl) d_L_cells_11 rfl rfl ?_ rfl
  refine g_iconst (v := 1) d_L_cells_12 (by decide) ?_
  exact g_retI d_L_cells_13 rfl rfl rfl
theorem hT_cells_2 {E : mEnv} (hE : E.1.stackTraces = false) {t : xT} {c c' : cT} {a0 : Int32} (hc : Rx E M_X11_cells [.ref 100, .int a0] (mw t, cw c) xIAE (mw t, cw c')) : Rh E M_L_cells 1 [.ref 100, .int a0, .ref 19] (mw t, cw c) (some (.int 2)) (mw t, cw c') := by
  refine Rh.of hE pn_L (Nat.le_of_ble_eq_true rfl) ?_
  refine g_eq (S' := (0, [some (.ref 100), some (.int a0), some (.ref 19), none], [], (mw t, cw c))) rfl ?_
  refine g_aload_n d_L_cells_0 rfl ?_
  refine g_iconst (v := 0) d_L_cells_1 (by decide) ?_
  refine g_aload_n d_L_cells_2 rfl ?_
  refine g_iload_n d_L_cells_3 rfl ?_
  refine g_catchV (n := 0) (L' := [some (.ref 100), some (.int a0), some (.ref 19), none]) (As := [.int a0]) d_L_cells_4 o_X11_cells l_L_29 ⟨Nat.le_of_ble_eq_true rfl, Nat.le_of_ble_eq_true rfl⟩ hc rfl rfl rfl rfl rfl [⟨0, 8, 11, 15⟩] ⟨0, 8, 14, 13⟩ [] (List.cons_ne_nil _ _) rfl (List.forall_mem_cons.mpr ⟨Or.inr ⟨by decide, xISE, kl_ISE, List.mem_of_getElem? (i := 6) rfl⟩, fun _ q => absurd q List.not_mem_nil⟩) rfl (by decide) kl_IAE (List.mem_of_getElem? (i := 1) rfl) d_L_cells_14 rfl rfl ?_ rfl
  refine g_iconst (v := 2) d_L_cells_15 (by decide) ?_
  exact g_retI d_L_cells_16 rfl rfl rfl
theorem d_L_count_0 : decode (mB M_L_count) 0 = .ok (.aload_n 2, 1) := by decide +kernel
theorem d_L_count_1 : decode (mB M_L_count) 1 = .ok (.iconst 0, 1) := by decide +kernel
theorem d_L_count_2 : decode (mB M_L_count) 2 = .ok (.aload_n 0, 1) := by decide +kernel
theorem d_L_count_3 : decode (mB M_L_count) 3 = .ok (.iload_n 1, 1) := by decide +kernel
theorem d_L_count_4 : decode (mB M_L_count) 4 = .ok (.invokevirtual 33, 3) := by decide +kernel
theorem d_L_count_7 : decode (mB M_L_count) 7 = .ok (.i2l, 1) := by decide +kernel
theorem d_L_count_8 : decode (mB M_L_count) 8 = .ok (.lastore, 1) := by decide +kernel
theorem d_L_count_9 : decode (mB M_L_count) 9 = .ok (.goto 6, 3) := by decide +kernel
theorem d_L_count_12 : decode (mB M_L_count) 12 = .ok (.astore_n 3, 1) := by decide +kernel
theorem d_L_count_13 : decode (mB M_L_count) 13 = .ok (.iconst 1, 1) := by decide +kernel
theorem d_L_count_14 : decode (mB M_L_count) 14 = .ok (.ireturn, 1) := by decide +kernel
theorem d_L_count_15 : decode (mB M_L_count) 15 = .ok (.iconst 0, 1) := by decide +kernel
theorem d_L_count_16 : decode (mB M_L_count) 16 = .ok (.ireturn, 1) := by decide +kernel
theorem hA_count {E : mEnv} (hE : E.1.stackTraces = false) {t : xT} {c c' : cT} {a0 : Int32} {v : Int32} (hc : Rt E M_X11_count 0 [.ref 100, .int a0] (mw t, cw c) (some (.int v)) (mw t, cw c')) : Rh E M_L_count 0 [.ref 100, .int a0, .ref 19] (mw t, cw c) (some (.int 0)) (mw (wo t (vp_updL (ro t) 0 v.toInt64)), cw c') := by
  refine Rh.of hE pn_L (Nat.le_of_ble_eq_true rfl) ?_
  refine g_eq (S' := (0, [some (.ref 100), some (.int a0), some (.ref 19), none], [], (mw t, cw c))) rfl ?_
  refine g_aload_n d_L_count_0 rfl ?_
  refine g_iconst (v := 0) d_L_count_1 (by decide) ?_
  refine g_aload_n d_L_count_2 rfl ?_
  refine g_iload_n d_L_count_3 rfl ?_
  refine g_callV (As := [.int a0]) d_L_count_4 o_X11_count l_L_33 ⟨Nat.le_of_ble_eq_true rfl, Nat.le_of_ble_eq_true rfl⟩ hc rfl rfl rfl rfl rfl rfl ?_ (Nat.zero_add _)
  refine g_i2l d_L_count_7 ?_
  refine g_last (f := ro t) (w' := (mw (wo t (vp_updL (ro t) 0 v.toInt64)), cw c')) d_L_count_8 rfl (show ¬ ((0 : Int32) < 0 ∨ 1 ≤ Int32.toNatClampNeg 0) by decide) rfl ?_
  refine g_goto (tgt := 15) d_L_count_9 (by decide) ?_
  refine g_iconst (v := 0) d_L_count_15 (by decide) ?_
  exact g_retI d_L_count_16 rfl rfl rfl
theorem hT_count_1 {E : mEnv} (hE : E.1.stackTraces = false) {t : xT} {c c' : cT} {a0 : Int32} (hc : Rx E M_X11_count [.ref 100, .int a0] (mw t, cw c) xIAE (mw t, cw c')) : Rh E M_L_count 1 [.ref 100, .int a0, .ref 19] (mw t, cw c) (some (.int 1)) (mw t, cw c') := by
  refine Rh.of hE pn_L (Nat.le_of_ble_eq_true rfl) ?_
  refine g_eq (S' := (0, [some (.ref 100), some (.int a0), some (.ref 19), none], [], (mw t, cw c))) rfl ?_
  refine g_aload_n d_L_count_0 rfl ?_
  refine g_iconst (v := 0) d_L_count_1 (by decide) ?_
  refine g_aload_n d_L_count_2 rfl ?_
  refine g_iload_n d_L_count_3 rfl ?_
  refine g_catchV (n := 0) (L' := [some (.ref 100), some (.int a0), some (.ref 19), none]) (As := [.int a0]) d_L_count_4 o_X11_count l_L_33 ⟨Nat.le_of_ble_eq_true rfl, Nat.le_of_ble_eq_true rfl⟩ hc rfl rfl rfl rfl rfl [] ⟨0, 9, 12, 13⟩ [] (List.cons_ne_nil _ _) rfl (fun _ q => absurd q List.not_mem_nil) rfl (by decide) kl_IAE (List.mem_of_getElem? (i := 1) rfl) d_L_count_12 rfl rfl ?_ rfl
  refine g_iconst (v := 1) d_L_count_13 (by decide) ?_
  exact g_retI d_L_count_14 rfl rfl rfl
theorem d_L_distance_0 : decode (mB M_L_distance) 0 = .ok (.aload_n 3, 1) := by decide +kernel
theorem d_L_distance_1 : decode (mB M_L_distance) 1 = .ok (.iconst 0, 1) := by decide +kernel
theorem d_L_distance_2 : decode (mB M_L_distance) 2 = .ok (.aload_n 0, 1) := by decide +kernel
theorem d_L_distance_3 : decode (mB M_L_distance) 3 = .ok (.iload_n 1, 1) := by decide +kernel
theorem d_L_distance_4 : decode (mB M_L_distance) 4 = .ok (.iload_n 2, 1) := by decide +kernel
theorem d_L_distance_5 : decode (mB M_L_distance) 5 = .ok (.invokevirtual 37, 3) := by decide +kernel
theorem d_L_distance_8 : decode (mB M_L_distance) 8 = .ok (.i2l, 1) := by decide +kernel
theorem d_L_distance_9 : decode (mB M_L_distance) 9 = .ok (.lastore, 1) := by decide +kernel
theorem d_L_distance_10 : decode (mB M_L_distance) 10 = .ok (.goto 15, 3) := by decide +kernel
theorem d_L_distance_13 : decode (mB M_L_distance) 13 = .ok (.astore 4, 2) := by decide +kernel
theorem d_L_distance_15 : decode (mB M_L_distance) 15 = .ok (.iconst 1, 1) := by decide +kernel
theorem d_L_distance_16 : decode (mB M_L_distance) 16 = .ok (.ireturn, 1) := by decide +kernel
theorem d_L_distance_17 : decode (mB M_L_distance) 17 = .ok (.astore 4, 2) := by decide +kernel
theorem d_L_distance_19 : decode (mB M_L_distance) 19 = .ok (.iconst 2, 1) := by decide +kernel
theorem d_L_distance_20 : decode (mB M_L_distance) 20 = .ok (.ireturn, 1) := by decide +kernel
theorem d_L_distance_21 : decode (mB M_L_distance) 21 = .ok (.astore 4, 2) := by decide +kernel
theorem d_L_distance_23 : decode (mB M_L_distance) 23 = .ok (.iconst 3, 1) := by decide +kernel
theorem d_L_distance_24 : decode (mB M_L_distance) 24 = .ok (.ireturn, 1) := by decide +kernel
theorem d_L_distance_25 : decode (mB M_L_distance) 25 = .ok (.iconst 0, 1) := by decide +kernel
theorem d_L_distance_26 : decode (mB M_L_distance) 26 = .ok (.ireturn, 1) := by decide +kernel
theorem hA_distance {E : mEnv} (hE : E.1.stackTraces = false) {t : xT} {c c' : cT} {a0 a1 : Int32} {v : Int32} (hc : Rt E M_X11_distance 0 [.ref 100, .int a0, .int a1] (mw t, cw c) (some (.int v)) (mw t, cw c')) : Rh E M_L_distance 0 [.ref 100, .int a0, .int a1, .ref 19] (mw t, cw c) (some (.int 0)) (mw (wo t (vp_updL (ro t) 0 v.toInt64)), cw c') := by
  refine Rh.of hE pn_L (Nat.le_of_ble_eq_true rfl) ?_
  refine g_eq (S' := (0, [some (.ref 100), some (.int a0), some (.int a1), some (.ref 19), none], [], (mw t, cw c))) rfl ?_
  refine g_aload_n d_L_distance_0 rfl ?_
  refine g_iconst (v := 0) d_L_distance_1 (by decide) ?_
  refine g_aload_n d_L_distance_2 rfl ?_
  refine g_iload_n d_L_distance_3 rfl ?_
  refine g_iload_n d_L_distance_4 rfl ?_
  refine g_callV (As := [.int a0, .int a1]) d_L_distance_5 o_X11_distance l_L_37 ⟨Nat.le_of_ble_eq_true rfl, Nat.le_of_ble_eq_true rfl⟩ hc rfl rfl rfl rfl rfl rfl ?_ (Nat.zero_add _)
  refine g_i2l d_L_distance_8 ?_
  refine g_last (f := ro t) (w' := (mw (wo t (vp_updL (ro t) 0 v.toInt64)), cw c')) d_L_distance_9 rfl (show ¬ ((0 : Int32) < 0 ∨ 1 ≤ Int32.toNatClampNeg 0) by decide) rfl ?_
  refine g_goto (tgt := 25) d_L_distance_10 (by decide) ?_
  refine g_iconst (v := 0) d_L_distance_25 (by decide) ?_
  exact g_retI d_L_distance_26 rfl rfl rfl
theorem hT_distance_1 {E : mEnv} (hE : E.1.stackTraces = false) {t : xT} {c c' : cT} {a0 a1 : Int32} (hc : Rx E M_X11_distance [.ref 100, .int a0, .int a1] (mw t, cw c) xISE (mw t, cw c')) : Rh E M_L_distance 1 [.ref 100, .int a0, .int a1, .ref 19] (mw t, cw c) (some (.int 1)) (mw t, cw c') := by
  refine Rh.of hE pn_L (Nat.le_of_ble_eq_true rfl) ?_
  refine g_eq (S' := (0, [some (.ref 100), some (.int a0), some (.int a1), some (.ref 19), none], [], (mw t, cw c))) rfl ?_
  refine g_aload_n d_L_distance_0 rfl ?_
  refine g_iconst (v := 0) d_L_distance_1 (by decide) ?_
  refine g_aload_n d_L_distance_2 rfl ?_
  refine g_iload_n d_L_distance_3 rfl ?_
  refine g_iload_n d_L_distance_4 rfl ?_
  refine g_catchW (n := 0) (L' := [some (.ref 100), some (.int a0), some (.int a1), some (.ref 19), none]) (As := [.int a0, .int a1]) d_L_distance_5 o_X11_distance l_L_37 ⟨Nat.le_of_ble_eq_true rfl, Nat.le_of_ble_eq_true rfl⟩ hc rfl rfl rfl rfl rfl [] ⟨0, 10, 13, 15⟩ [⟨0, 10, 17, 27⟩, ⟨0, 10, 21, 41⟩] (List.cons_ne_nil _ _) rfl (fun _ q => absurd q List.not_mem_nil) rfl (by decide) kl_ISE (List.mem_of_getElem? (i := 2) rfl) d_L_distance_13 rfl rfl ?_ rfl
  refine g_iconst (v := 1) d_L_distance_15 (by decide) ?_
  exact g_retI d_L_distance_16 rfl rfl rfl
theorem hT_distance_2 {E : mEnv} (hE : E.1.stackTraces = false) {t : xT} {c c' : cT} {a0 a1 : Int32} (hc : Rx E M_X11_distance [.ref 100, .int a0, .int a1] (mw t, cw c) xIOOBE (mw t, cw c')) : Rh E M_L_distance 1 [.ref 100, .int a0, .int a1, .ref 19] (mw t, cw c) (some (.int 2)) (mw t, cw c') := by
  refine Rh.of hE pn_L (Nat.le_of_ble_eq_true rfl) ?_
  refine g_eq (S' := (0, [some (.ref 100), some (.int a0), some (.int a1), some (.ref 19), none], [], (mw t, cw c))) rfl ?_
  refine g_aload_n d_L_distance_0 rfl ?_
  refine g_iconst (v := 0) d_L_distance_1 (by decide) ?_
  refine g_aload_n d_L_distance_2 rfl ?_
  refine g_iload_n d_L_distance_3 rfl ?_
  refine g_iload_n d_L_distance_4 rfl ?_
  refine g_catchW (n := 0) (L' := [some (.ref 100), some (.int a0), some (.int a1), some (.ref 19), none]) (As := [.int a0, .int a1]) d_L_distance_5 o_X11_distance l_L_37 ⟨Nat.le_of_ble_eq_true rfl, Nat.le_of_ble_eq_true rfl⟩ hc rfl rfl rfl rfl rfl [⟨0, 10, 13, 15⟩] ⟨0, 10, 17, 27⟩ [⟨0, 10, 21, 41⟩] (List.cons_ne_nil _ _) rfl (List.forall_mem_cons.mpr ⟨Or.inr ⟨by decide, xISE, kl_ISE, List.mem_of_getElem? (i := 17) rfl⟩, fun _ q => absurd q List.not_mem_nil⟩) rfl (by decide) kl_IOOBE (List.mem_of_getElem? (i := 3) rfl) d_L_distance_17 rfl rfl ?_ rfl
  refine g_iconst (v := 2) d_L_distance_19 (by decide) ?_
  exact g_retI d_L_distance_20 rfl rfl rfl
theorem hT_distance_3 {E : mEnv} (hE : E.1.stackTraces = false) {t : xT} {c c' : cT} {a0 a1 : Int32} (hc : Rx E M_X11_distance [.ref 100, .int a0, .int a1] (mw t, cw c) xNSEE (mw t, cw c')) : Rh E M_L_distance 1 [.ref 100, .int a0, .int a1, .ref 19] (mw t, cw c) (some (.int 3)) (mw t, cw c') := by
  refine Rh.of hE pn_L (Nat.le_of_ble_eq_true rfl) ?_
  refine g_eq (S' := (0, [some (.ref 100), some (.int a0), some (.int a1), some (.ref 19), none], [], (mw t, cw c))) rfl ?_
  refine g_aload_n d_L_distance_0 rfl ?_
  refine g_iconst (v := 0) d_L_distance_1 (by decide) ?_
  refine g_aload_n d_L_distance_2 rfl ?_
  refine g_iload_n d_L_distance_3 rfl ?_
  refine g_iload_n d_L_distance_4 rfl ?_
  refine g_catchW (n := 0) (L' := [some (.ref 100), some (.int a0), some (.int a1), some (.ref 19), none]) (As := [.int a0, .int a1]) d_L_distance_5 o_X11_distance l_L_37 ⟨Nat.le_of_ble_eq_true rfl, Nat.le_of_ble_eq_true rfl⟩ hc rfl rfl rfl rfl rfl [⟨0, 10, 13, 15⟩, ⟨0, 10, 17, 27⟩] ⟨0, 10, 21, 41⟩ [] (List.cons_ne_nil _ _) rfl (List.forall_mem_cons.mpr ⟨Or.inr ⟨by decide, xISE, kl_ISE, List.mem_of_getElem? (i := 27) rfl⟩, List.forall_mem_cons.mpr ⟨Or.inr ⟨by decide, xIOOBE, kl_IOOBE, List.mem_of_getElem? (i := 28) rfl⟩, fun _ q => absurd q List.not_mem_nil⟩⟩) rfl (by decide) kl_NSEE (List.mem_of_getElem? (i := 5) rfl) d_L_distance_21 rfl rfl ?_ rfl
  refine g_iconst (v := 3) d_L_distance_23 (by decide) ?_
  exact g_retI d_L_distance_24 rfl rfl rfl
theorem d_L_bound_0 : decode (mB M_L_bound) 0 = .ok (.aload_n 1, 1) := by decide +kernel
theorem d_L_bound_1 : decode (mB M_L_bound) 1 = .ok (.iconst 0, 1) := by decide +kernel
theorem d_L_bound_2 : decode (mB M_L_bound) 2 = .ok (.aload_n 0, 1) := by decide +kernel
theorem d_L_bound_3 : decode (mB M_L_bound) 3 = .ok (.invokevirtual 43, 3) := by decide +kernel
theorem d_L_bound_6 : decode (mB M_L_bound) 6 = .ok (.i2l, 1) := by decide +kernel
theorem d_L_bound_7 : decode (mB M_L_bound) 7 = .ok (.lastore, 1) := by decide +kernel
theorem d_L_bound_8 : decode (mB M_L_bound) 8 = .ok (.goto 9, 3) := by decide +kernel
theorem d_L_bound_11 : decode (mB M_L_bound) 11 = .ok (.astore_n 2, 1) := by decide +kernel
theorem d_L_bound_12 : decode (mB M_L_bound) 12 = .ok (.iconst 1, 1) := by decide +kernel
theorem d_L_bound_13 : decode (mB M_L_bound) 13 = .ok (.ireturn, 1) := by decide +kernel
theorem d_L_bound_14 : decode (mB M_L_bound) 14 = .ok (.astore_n 2, 1) := by decide +kernel
theorem d_L_bound_15 : decode (mB M_L_bound) 15 = .ok (.iconst 2, 1) := by decide +kernel
theorem d_L_bound_16 : decode (mB M_L_bound) 16 = .ok (.ireturn, 1) := by decide +kernel
theorem d_L_bound_17 : decode (mB M_L_bound) 17 = .ok (.iconst 0, 1) := by decide +kernel
theorem d_L_bound_18 : decode (mB M_L_bound) 18 = .ok (.ireturn, 1) := by decide +kernel
theorem hA_bound {E : mEnv} (hE : E.1.stackTraces = false) {t : xT} {c c' : cT} {v : Int32} (hc : Rt E M_X11_bound 0 [.ref 100] (mw t, cw c) (some (.int v)) (mw t, cw c')) : Rh E M_L_bound 0 [.ref 100, .ref 19] (mw t, cw c) (some (.int 0)) (mw (wo t (vp_updL (ro t) 0 v.toInt64)), cw c') := by
  refine Rh.of hE pn_L (Nat.le_of_ble_eq_true rfl) ?_
  refine g_eq (S' := (0, [some (.ref 100), some (.ref 19), none], [], (mw t, cw c))) rfl ?_
  refine g_aload_n d_L_bound_0 rfl ?_
  refine g_iconst (v := 0) d_L_bound_1 (by decide) ?_
  refine g_aload_n d_L_bound_2 rfl ?_
  refine g_callV (As := []) d_L_bound_3 o_X11_bound l_L_43 ⟨Nat.le_of_ble_eq_true rfl, Nat.le_of_ble_eq_true rfl⟩ hc rfl rfl rfl rfl rfl rfl ?_ (Nat.zero_add _)
  refine g_i2l d_L_bound_6 ?_
  refine g_last (f := ro t) (w' := (mw (wo t (vp_updL (ro t) 0 v.toInt64)), cw c')) d_L_bound_7 rfl (show ¬ ((0 : Int32) < 0 ∨ 1 ≤ Int32.toNatClampNeg 0) by decide) rfl ?_
  refine g_goto (tgt := 17) d_L_bound_8 (by decide) ?_
  refine g_iconst (v := 0) d_L_bound_17 (by decide) ?_
  exact g_retI d_L_bound_18 rfl rfl rfl
theorem hT_bound_1 {E : mEnv} (hE : E.1.stackTraces = false) {t : xT} {c c' : cT} (hc : Rx E M_X11_bound [.ref 100] (mw t, cw c) xISE (mw t, cw c')) : Rh E M_L_bound 1 [.ref 100, .ref 19] (mw t, cw c) (some (.int 1)) (mw t, cw c') := by
  refine Rh.of hE pn_L (Nat.le_of_ble_eq_true rfl) ?_
  refine g_eq (S' := (0, [some (.ref 100), some (.ref 19), none], [], (mw t, cw c))) rfl ?_
  refine g_aload_n d_L_bound_0 rfl ?_
  refine g_iconst (v := 0) d_L_bound_1 (by decide) ?_
  refine g_aload_n d_L_bound_2 rfl ?_
  refine g_catchV (n := 0) (L' := [some (.ref 100), some (.ref 19), none]) (As := []) d_L_bound_3 o_X11_bound l_L_43 ⟨Nat.le_of_ble_eq_true rfl, Nat.le_of_ble_eq_true rfl⟩ hc rfl rfl rfl rfl rfl [] ⟨0, 8, 11, 15⟩ [⟨0, 8, 14, 41⟩] (List.cons_ne_nil _ _) rfl (fun _ q => absurd q List.not_mem_nil) rfl (by decide) kl_ISE (List.mem_of_getElem? (i := 2) rfl) d_L_bound_11 rfl rfl ?_ rfl
  refine g_iconst (v := 1) d_L_bound_12 (by decide) ?_
  exact g_retI d_L_bound_13 rfl rfl rfl
theorem hT_bound_2 {E : mEnv} (hE : E.1.stackTraces = false) {t : xT} {c c' : cT} (hc : Rx E M_X11_bound [.ref 100] (mw t, cw c) xNSEE (mw t, cw c')) : Rh E M_L_bound 1 [.ref 100, .ref 19] (mw t, cw c) (some (.int 2)) (mw t, cw c') := by
  refine Rh.of hE pn_L (Nat.le_of_ble_eq_true rfl) ?_
  refine g_eq (S' := (0, [some (.ref 100), some (.ref 19), none], [], (mw t, cw c))) rfl ?_
  refine g_aload_n d_L_bound_0 rfl ?_
  refine g_iconst (v := 0) d_L_bound_1 (by decide) ?_
  refine g_aload_n d_L_bound_2 rfl ?_
  refine g_catchV (n := 0) (L' := [some (.ref 100), some (.ref 19), none]) (As := []) d_L_bound_3 o_X11_bound l_L_43 ⟨Nat.le_of_ble_eq_true rfl, Nat.le_of_ble_eq_true rfl⟩ hc rfl rfl rfl rfl rfl [⟨0, 8, 11, 15⟩] ⟨0, 8, 14, 41⟩ [] (List.cons_ne_nil _ _) rfl (List.forall_mem_cons.mpr ⟨Or.inr ⟨by decide, xISE, kl_ISE, List.mem_of_getElem? (i := 27) rfl⟩, fun _ q => absurd q List.not_mem_nil⟩) rfl (by decide) kl_NSEE (List.mem_of_getElem? (i := 5) rfl) d_L_bound_14 rfl rfl ?_ rfl
  refine g_iconst (v := 2) d_L_bound_15 (by decide) ?_
  exact g_retI d_L_bound_16 rfl rfl rfl
theorem d_L_stuck_0 : decode (mB M_L_stuck) 0 = .ok (.aload_n 2, 1) := by decide +kernel
theorem d_L_stuck_1 : decode (mB M_L_stuck) 1 = .ok (.iconst 0, 1) := by decide +kernel
theorem d_L_stuck_2 : decode (mB M_L_stuck) 2 = .ok (.aload_n 0, 1) := by decide +kernel
theorem d_L_stuck_3 : decode (mB M_L_stuck) 3 = .ok (.iload_n 1, 1) := by decide +kernel
theorem d_L_stuck_4 : decode (mB M_L_stuck) 4 = .ok (.invokevirtual 46, 3) := by decide +kernel
theorem d_L_stuck_7 : decode (mB M_L_stuck) 7 = .ok (.i2l, 1) := by decide +kernel
theorem d_L_stuck_8 : decode (mB M_L_stuck) 8 = .ok (.lastore, 1) := by decide +kernel
theorem d_L_stuck_9 : decode (mB M_L_stuck) 9 = .ok (.goto 6, 3) := by decide +kernel
theorem d_L_stuck_12 : decode (mB M_L_stuck) 12 = .ok (.astore_n 3, 1) := by decide +kernel
theorem d_L_stuck_13 : decode (mB M_L_stuck) 13 = .ok (.iconst 1, 1) := by decide +kernel
theorem d_L_stuck_14 : decode (mB M_L_stuck) 14 = .ok (.ireturn, 1) := by decide +kernel
theorem d_L_stuck_15 : decode (mB M_L_stuck) 15 = .ok (.iconst 0, 1) := by decide +kernel
theorem d_L_stuck_16 : decode (mB M_L_stuck) 16 = .ok (.ireturn, 1) := by decide +kernel
theorem hA_stuck {E : mEnv} (hE : E.1.stackTraces = false) {t : xT} {c c' : cT} {a0 : Int32} {v : Int32} (hc : Rt E M_X11_stuck 0 [.ref 100, .int a0] (mw t, cw c) (some (.int v)) (mw t, cw c')) : Rh E M_L_stuck 0 [.ref 100, .int a0, .ref 19] (mw t, cw c) (some (.int 0)) (mw (wo t (vp_updL (ro t) 0 v.toInt64)), cw c') := by
  refine Rh.of hE pn_L (Nat.le_of_ble_eq_true rfl) ?_
  refine g_eq (S' := (0, [some (.ref 100), some (.int a0), some (.ref 19), none], [], (mw t, cw c))) rfl ?_
  refine g_aload_n d_L_stuck_0 rfl ?_
  refine g_iconst (v := 0) d_L_stuck_1 (by decide) ?_
  refine g_aload_n d_L_stuck_2 rfl ?_
  refine g_iload_n d_L_stuck_3 rfl ?_
  refine g_callV (As := [.int a0]) d_L_stuck_4 o_X11_stuck l_L_46 ⟨Nat.le_of_ble_eq_true rfl, Nat.le_of_ble_eq_true rfl⟩ hc rfl rfl rfl rfl rfl rfl ?_ (Nat.zero_add _)
  refine g_i2l d_L_stuck_7 ?_
  refine g_last (f := ro t) (w' := (mw (wo t (vp_updL (ro t) 0 v.toInt64)), cw c')) d_L_stuck_8 rfl (show ¬ ((0 : Int32) < 0 ∨ 1 ≤ Int32.toNatClampNeg 0) by decide) rfl ?_
  refine g_goto (tgt := 15) d_L_stuck_9 (by decide) ?_
  refine g_iconst (v := 0) d_L_stuck_15 (by decide) ?_
  exact g_retI d_L_stuck_16 rfl rfl rfl
theorem hT_stuck_1 {E : mEnv} (hE : E.1.stackTraces = false) {t : xT} {c c' : cT} {a0 : Int32} (hc : Rx E M_X11_stuck [.ref 100, .int a0] (mw t, cw c) xISE (mw t, cw c')) : Rh E M_L_stuck 1 [.ref 100, .int a0, .ref 19] (mw t, cw c) (some (.int 1)) (mw t, cw c') := by
  refine Rh.of hE pn_L (Nat.le_of_ble_eq_true rfl) ?_
  refine g_eq (S' := (0, [some (.ref 100), some (.int a0), some (.ref 19), none], [], (mw t, cw c))) rfl ?_
  refine g_aload_n d_L_stuck_0 rfl ?_
  refine g_iconst (v := 0) d_L_stuck_1 (by decide) ?_
  refine g_aload_n d_L_stuck_2 rfl ?_
  refine g_iload_n d_L_stuck_3 rfl ?_
  refine g_catchV (n := 0) (L' := [some (.ref 100), some (.int a0), some (.ref 19), none]) (As := [.int a0]) d_L_stuck_4 o_X11_stuck l_L_46 ⟨Nat.le_of_ble_eq_true rfl, Nat.le_of_ble_eq_true rfl⟩ hc rfl rfl rfl rfl rfl [] ⟨0, 9, 12, 15⟩ [] (List.cons_ne_nil _ _) rfl (fun _ q => absurd q List.not_mem_nil) rfl (by decide) kl_ISE (List.mem_of_getElem? (i := 2) rfl) d_L_stuck_12 rfl rfl ?_ rfl
  refine g_iconst (v := 1) d_L_stuck_13 (by decide) ?_
  exact g_retI d_L_stuck_14 rfl rfl rfl
theorem d_L_goalRoom_0 : decode (mB M_L_goalRoom) 0 = .ok (.aload_n 3, 1) := by decide +kernel
theorem d_L_goalRoom_1 : decode (mB M_L_goalRoom) 1 = .ok (.iconst 0, 1) := by decide +kernel
theorem d_L_goalRoom_2 : decode (mB M_L_goalRoom) 2 = .ok (.aload_n 0, 1) := by decide +kernel
theorem d_L_goalRoom_3 : decode (mB M_L_goalRoom) 3 = .ok (.iload_n 1, 1) := by decide +kernel
theorem d_L_goalRoom_4 : decode (mB M_L_goalRoom) 4 = .ok (.iload_n 2, 1) := by decide +kernel
theorem d_L_goalRoom_5 : decode (mB M_L_goalRoom) 5 = .ok (.invokevirtual 50, 3) := by decide +kernel
theorem d_L_goalRoom_8 : decode (mB M_L_goalRoom) 8 = .ok (.i2l, 1) := by decide +kernel
theorem d_L_goalRoom_9 : decode (mB M_L_goalRoom) 9 = .ok (.lastore, 1) := by decide +kernel
theorem d_L_goalRoom_10 : decode (mB M_L_goalRoom) 10 = .ok (.goto 11, 3) := by decide +kernel
theorem d_L_goalRoom_13 : decode (mB M_L_goalRoom) 13 = .ok (.astore 4, 2) := by decide +kernel
theorem d_L_goalRoom_15 : decode (mB M_L_goalRoom) 15 = .ok (.iconst 1, 1) := by decide +kernel
theorem d_L_goalRoom_16 : decode (mB M_L_goalRoom) 16 = .ok (.ireturn, 1) := by decide +kernel
theorem d_L_goalRoom_17 : decode (mB M_L_goalRoom) 17 = .ok (.astore 4, 2) := by decide +kernel
theorem d_L_goalRoom_19 : decode (mB M_L_goalRoom) 19 = .ok (.iconst 2, 1) := by decide +kernel
theorem d_L_goalRoom_20 : decode (mB M_L_goalRoom) 20 = .ok (.ireturn, 1) := by decide +kernel
theorem d_L_goalRoom_21 : decode (mB M_L_goalRoom) 21 = .ok (.iconst 0, 1) := by decide +kernel
theorem d_L_goalRoom_22 : decode (mB M_L_goalRoom) 22 = .ok (.ireturn, 1) := by decide +kernel
theorem hA_goalRoom {E : mEnv} (hE : E.1.stackTraces = false) {t : xT} {c c' : cT} {a0 a1 : Int32} {v : Int32} (hc : Rt E M_X11_goalRoom 0 [.ref 100, .int a0, .int a1] (mw t, cw c) (some (.int v)) (mw t, cw c')) : Rh E M_L_goalRoom 0 [.ref 100, .int a0, .int a1, .ref 19] (mw t, cw c) (some (.int 0)) (mw (wo t (vp_updL (ro t) 0 v.toInt64)), cw c') := by
  refine Rh.of hE pn_L (Nat.le_of_ble_eq_true rfl) ?_
  refine g_eq (S' := (0, [some (.ref 100), some (.int a0), some (.int a1), some (.ref 19), none], [], (mw t, cw c))) rfl ?_
  refine g_aload_n d_L_goalRoom_0 rfl ?_
  refine g_iconst (v := 0) d_L_goalRoom_1 (by decide) ?_
  refine g_aload_n d_L_goalRoom_2 rfl ?_
  refine g_iload_n d_L_goalRoom_3 rfl ?_
  refine g_iload_n d_L_goalRoom_4 rfl ?_
  refine g_callV (As := [.int a0, .int a1]) d_L_goalRoom_5 o_X11_goalRoom l_L_50 ⟨Nat.le_of_ble_eq_true rfl, Nat.le_of_ble_eq_true rfl⟩ hc rfl rfl rfl rfl rfl rfl ?_ (Nat.zero_add _)
  refine g_i2l d_L_goalRoom_8 ?_
  refine g_last (f := ro t) (w' := (mw (wo t (vp_updL (ro t) 0 v.toInt64)), cw c')) d_L_goalRoom_9 rfl (show ¬ ((0 : Int32) < 0 ∨ 1 ≤ Int32.toNatClampNeg 0) by decide) rfl ?_
  refine g_goto (tgt := 21) d_L_goalRoom_10 (by decide) ?_
  refine g_iconst (v := 0) d_L_goalRoom_21 (by decide) ?_
  exact g_retI d_L_goalRoom_22 rfl rfl rfl
theorem hT_goalRoom_1 {E : mEnv} (hE : E.1.stackTraces = false) {t : xT} {c c' : cT} {a0 a1 : Int32} (hc : Rx E M_X11_goalRoom [.ref 100, .int a0, .int a1] (mw t, cw c) xISE (mw t, cw c')) : Rh E M_L_goalRoom 1 [.ref 100, .int a0, .int a1, .ref 19] (mw t, cw c) (some (.int 1)) (mw t, cw c') := by
  refine Rh.of hE pn_L (Nat.le_of_ble_eq_true rfl) ?_
  refine g_eq (S' := (0, [some (.ref 100), some (.int a0), some (.int a1), some (.ref 19), none], [], (mw t, cw c))) rfl ?_
  refine g_aload_n d_L_goalRoom_0 rfl ?_
  refine g_iconst (v := 0) d_L_goalRoom_1 (by decide) ?_
  refine g_aload_n d_L_goalRoom_2 rfl ?_
  refine g_iload_n d_L_goalRoom_3 rfl ?_
  refine g_iload_n d_L_goalRoom_4 rfl ?_
  refine g_catchW (n := 0) (L' := [some (.ref 100), some (.int a0), some (.int a1), some (.ref 19), none]) (As := [.int a0, .int a1]) d_L_goalRoom_5 o_X11_goalRoom l_L_50 ⟨Nat.le_of_ble_eq_true rfl, Nat.le_of_ble_eq_true rfl⟩ hc rfl rfl rfl rfl rfl [] ⟨0, 10, 13, 15⟩ [⟨0, 10, 17, 41⟩] (List.cons_ne_nil _ _) rfl (fun _ q => absurd q List.not_mem_nil) rfl (by decide) kl_ISE (List.mem_of_getElem? (i := 2) rfl) d_L_goalRoom_13 rfl rfl ?_ rfl
  refine g_iconst (v := 1) d_L_goalRoom_15 (by decide) ?_
  exact g_retI d_L_goalRoom_16 rfl rfl rfl
theorem hT_goalRoom_2 {E : mEnv} (hE : E.1.stackTraces = false) {t : xT} {c c' : cT} {a0 a1 : Int32} (hc : Rx E M_X11_goalRoom [.ref 100, .int a0, .int a1] (mw t, cw c) xNSEE (mw t, cw c')) : Rh E M_L_goalRoom 1 [.ref 100, .int a0, .int a1, .ref 19] (mw t, cw c) (some (.int 2)) (mw t, cw c') := by
  refine Rh.of hE pn_L (Nat.le_of_ble_eq_true rfl) ?_
  refine g_eq (S' := (0, [some (.ref 100), some (.int a0), some (.int a1), some (.ref 19), none], [], (mw t, cw c))) rfl ?_
  refine g_aload_n d_L_goalRoom_0 rfl ?_
  refine g_iconst (v := 0) d_L_goalRoom_1 (by decide) ?_
  refine g_aload_n d_L_goalRoom_2 rfl ?_
  refine g_iload_n d_L_goalRoom_3 rfl ?_
  refine g_iload_n d_L_goalRoom_4 rfl ?_
  refine g_catchW (n := 0) (L' := [some (.ref 100), some (.int a0), some (.int a1), some (.ref 19), none]) (As := [.int a0, .int a1]) d_L_goalRoom_5 o_X11_goalRoom l_L_50 ⟨Nat.le_of_ble_eq_true rfl, Nat.le_of_ble_eq_true rfl⟩ hc rfl rfl rfl rfl rfl [⟨0, 10, 13, 15⟩] ⟨0, 10, 17, 41⟩ [] (List.cons_ne_nil _ _) rfl (List.forall_mem_cons.mpr ⟨Or.inr ⟨by decide, xISE, kl_ISE, List.mem_of_getElem? (i := 27) rfl⟩, fun _ q => absurd q List.not_mem_nil⟩) rfl (by decide) kl_NSEE (List.mem_of_getElem? (i := 5) rfl) d_L_goalRoom_17 rfl rfl ?_ rfl
  refine g_iconst (v := 2) d_L_goalRoom_19 (by decide) ?_
  exact g_retI d_L_goalRoom_20 rfl rfl rfl
theorem d_L_step_0 : decode (mB M_L_step) 0 = .ok (.aload_n 2, 1) := by decide +kernel
theorem d_L_step_1 : decode (mB M_L_step) 1 = .ok (.iconst 0, 1) := by decide +kernel
theorem d_L_step_2 : decode (mB M_L_step) 2 = .ok (.aload_n 0, 1) := by decide +kernel
theorem d_L_step_3 : decode (mB M_L_step) 3 = .ok (.iload_n 1, 1) := by decide +kernel
theorem d_L_step_4 : decode (mB M_L_step) 4 = .ok (.invokevirtual 53, 3) := by decide +kernel
theorem d_L_step_7 : decode (mB M_L_step) 7 = .ok (.i2l, 1) := by decide +kernel
theorem d_L_step_8 : decode (mB M_L_step) 8 = .ok (.lastore, 1) := by decide +kernel
theorem d_L_step_9 : decode (mB M_L_step) 9 = .ok (.goto 12, 3) := by decide +kernel
theorem d_L_step_12 : decode (mB M_L_step) 12 = .ok (.astore_n 3, 1) := by decide +kernel
theorem d_L_step_13 : decode (mB M_L_step) 13 = .ok (.iconst 1, 1) := by decide +kernel
theorem d_L_step_14 : decode (mB M_L_step) 14 = .ok (.ireturn, 1) := by decide +kernel
theorem d_L_step_15 : decode (mB M_L_step) 15 = .ok (.astore_n 3, 1) := by decide +kernel
theorem d_L_step_16 : decode (mB M_L_step) 16 = .ok (.iconst 2, 1) := by decide +kernel
theorem d_L_step_17 : decode (mB M_L_step) 17 = .ok (.ireturn, 1) := by decide +kernel
theorem d_L_step_18 : decode (mB M_L_step) 18 = .ok (.astore_n 3, 1) := by decide +kernel
theorem d_L_step_19 : decode (mB M_L_step) 19 = .ok (.iconst 3, 1) := by decide +kernel
theorem d_L_step_20 : decode (mB M_L_step) 20 = .ok (.ireturn, 1) := by decide +kernel
theorem d_L_step_21 : decode (mB M_L_step) 21 = .ok (.iconst 0, 1) := by decide +kernel
theorem d_L_step_22 : decode (mB M_L_step) 22 = .ok (.ireturn, 1) := by decide +kernel
theorem hA_step {E : mEnv} (hE : E.1.stackTraces = false) {t : xT} {c c' : cT} {a0 : Int32} {v : Int32} (hc : Rt E M_X11_step 0 [.ref 100, .int a0] (mw t, cw c) (some (.int v)) (mw t, cw c')) : Rh E M_L_step 0 [.ref 100, .int a0, .ref 19] (mw t, cw c) (some (.int 0)) (mw (wo t (vp_updL (ro t) 0 v.toInt64)), cw c') := by
  refine Rh.of hE pn_L (Nat.le_of_ble_eq_true rfl) ?_
  refine g_eq (S' := (0, [some (.ref 100), some (.int a0), some (.ref 19), none], [], (mw t, cw c))) rfl ?_
  refine g_aload_n d_L_step_0 rfl ?_
  refine g_iconst (v := 0) d_L_step_1 (by decide) ?_
  refine g_aload_n d_L_step_2 rfl ?_
  refine g_iload_n d_L_step_3 rfl ?_
  refine g_callV (As := [.int a0]) d_L_step_4 o_X11_step l_L_53 ⟨Nat.le_of_ble_eq_true rfl, Nat.le_of_ble_eq_true rfl⟩ hc rfl rfl rfl rfl rfl rfl ?_ (Nat.zero_add _)
  refine g_i2l d_L_step_7 ?_
  refine g_last (f := ro t) (w' := (mw (wo t (vp_updL (ro t) 0 v.toInt64)), cw c')) d_L_step_8 rfl (show ¬ ((0 : Int32) < 0 ∨ 1 ≤ Int32.toNatClampNeg 0) by decide) rfl ?_
  refine g_goto (tgt := 21) d_L_step_9 (by decide) ?_
  refine g_iconst (v := 0) d_L_step_21 (by decide) ?_
  exact g_retI d_L_step_22 rfl rfl rfl
theorem hT_step_1 {E : mEnv} (hE : E.1.stackTraces = false) {t : xT} {c c' : cT} {a0 : Int32} (hc : Rx E M_X11_step [.ref 100, .int a0] (mw t, cw c) xIAE (mw t, cw c')) : Rh E M_L_step 1 [.ref 100, .int a0, .ref 19] (mw t, cw c) (some (.int 1)) (mw t, cw c') := by
  refine Rh.of hE pn_L (Nat.le_of_ble_eq_true rfl) ?_
  refine g_eq (S' := (0, [some (.ref 100), some (.int a0), some (.ref 19), none], [], (mw t, cw c))) rfl ?_
  refine g_aload_n d_L_step_0 rfl ?_
  refine g_iconst (v := 0) d_L_step_1 (by decide) ?_
  refine g_aload_n d_L_step_2 rfl ?_
  refine g_iload_n d_L_step_3 rfl ?_
  refine g_catchV (n := 0) (L' := [some (.ref 100), some (.int a0), some (.ref 19), none]) (As := [.int a0]) d_L_step_4 o_X11_step l_L_53 ⟨Nat.le_of_ble_eq_true rfl, Nat.le_of_ble_eq_true rfl⟩ hc rfl rfl rfl rfl rfl [] ⟨0, 9, 12, 13⟩ [⟨0, 9, 15, 15⟩, ⟨0, 9, 18, 56⟩] (List.cons_ne_nil _ _) rfl (fun _ q => absurd q List.not_mem_nil) rfl (by decide) kl_IAE (List.mem_of_getElem? (i := 1) rfl) d_L_step_12 rfl rfl ?_ rfl
  refine g_iconst (v := 1) d_L_step_13 (by decide) ?_
  exact g_retI d_L_step_14 rfl rfl rfl
theorem hT_step_2 {E : mEnv} (hE : E.1.stackTraces = false) {t : xT} {c c' : cT} {a0 : Int32} (hc : Rx E M_X11_step [.ref 100, .int a0] (mw t, cw c) xISE (mw t, cw c')) : Rh E M_L_step 1 [.ref 100, .int a0, .ref 19] (mw t, cw c) (some (.int 2)) (mw t, cw c') := by
  refine Rh.of hE pn_L (Nat.le_of_ble_eq_true rfl) ?_
  refine g_eq (S' := (0, [some (.ref 100), some (.int a0), some (.ref 19), none], [], (mw t, cw c))) rfl ?_
  refine g_aload_n d_L_step_0 rfl ?_
  refine g_iconst (v := 0) d_L_step_1 (by decide) ?_
  refine g_aload_n d_L_step_2 rfl ?_
  refine g_iload_n d_L_step_3 rfl ?_
  refine g_catchV (n := 0) (L' := [some (.ref 100), some (.int a0), some (.ref 19), none]) (As := [.int a0]) d_L_step_4 o_X11_step l_L_53 ⟨Nat.le_of_ble_eq_true rfl, Nat.le_of_ble_eq_true rfl⟩ hc rfl rfl rfl rfl rfl [⟨0, 9, 12, 13⟩] ⟨0, 9, 15, 15⟩ [⟨0, 9, 18, 56⟩] (List.cons_ne_nil _ _) rfl (List.forall_mem_cons.mpr ⟨Or.inr ⟨by decide, xIAE, kl_IAE, List.mem_of_getElem? (i := 11) rfl⟩, fun _ q => absurd q List.not_mem_nil⟩) rfl (by decide) kl_ISE (List.mem_of_getElem? (i := 2) rfl) d_L_step_15 rfl rfl ?_ rfl
  refine g_iconst (v := 2) d_L_step_16 (by decide) ?_
  exact g_retI d_L_step_17 rfl rfl rfl
theorem hT_step_3 {E : mEnv} (hE : E.1.stackTraces = false) {t : xT} {c c' : cT} {a0 : Int32} (hc : Rx E M_X11_step [.ref 100, .int a0] (mw t, cw c) xUOE (mw t, cw c')) : Rh E M_L_step 1 [.ref 100, .int a0, .ref 19] (mw t, cw c) (some (.int 3)) (mw t, cw c') := by
  refine Rh.of hE pn_L (Nat.le_of_ble_eq_true rfl) ?_
  refine g_eq (S' := (0, [some (.ref 100), some (.int a0), some (.ref 19), none], [], (mw t, cw c))) rfl ?_
  refine g_aload_n d_L_step_0 rfl ?_
  refine g_iconst (v := 0) d_L_step_1 (by decide) ?_
  refine g_aload_n d_L_step_2 rfl ?_
  refine g_iload_n d_L_step_3 rfl ?_
  refine g_catchV (n := 0) (L' := [some (.ref 100), some (.int a0), some (.ref 19), none]) (As := [.int a0]) d_L_step_4 o_X11_step l_L_53 ⟨Nat.le_of_ble_eq_true rfl, Nat.le_of_ble_eq_true rfl⟩ hc rfl rfl rfl rfl rfl [⟨0, 9, 12, 13⟩, ⟨0, 9, 15, 15⟩] ⟨0, 9, 18, 56⟩ [] (List.cons_ne_nil _ _) rfl (List.forall_mem_cons.mpr ⟨Or.inr ⟨by decide, xIAE, kl_IAE, List.mem_of_getElem? (i := 21) rfl⟩, List.forall_mem_cons.mpr ⟨Or.inr ⟨by decide, xISE, kl_ISE, List.mem_of_getElem? (i := 22) rfl⟩, fun _ q => absurd q List.not_mem_nil⟩⟩) rfl (by decide) kl_UOE (List.mem_of_getElem? (i := 4) rfl) d_L_step_18 rfl rfl ?_ rfl
  refine g_iconst (v := 3) d_L_step_19 (by decide) ?_
  exact g_retI d_L_step_20 rfl rfl rfl
theorem d_L_push_0 : decode (mB M_L_push) 0 = .ok (.aload_n 3, 1) := by decide +kernel
theorem d_L_push_1 : decode (mB M_L_push) 1 = .ok (.iconst 0, 1) := by decide +kernel
theorem d_L_push_2 : decode (mB M_L_push) 2 = .ok (.aload_n 0, 1) := by decide +kernel
theorem d_L_push_3 : decode (mB M_L_push) 3 = .ok (.iload_n 1, 1) := by decide +kernel
theorem d_L_push_4 : decode (mB M_L_push) 4 = .ok (.iload_n 2, 1) := by decide +kernel
theorem d_L_push_5 : decode (mB M_L_push) 5 = .ok (.invokevirtual 58, 3) := by decide +kernel
theorem d_L_push_8 : decode (mB M_L_push) 8 = .ok (.i2l, 1) := by decide +kernel
theorem d_L_push_9 : decode (mB M_L_push) 9 = .ok (.lastore, 1) := by decide +kernel
theorem d_L_push_10 : decode (mB M_L_push) 10 = .ok (.goto 23, 3) := by decide +kernel
theorem d_L_push_13 : decode (mB M_L_push) 13 = .ok (.astore 4, 2) := by decide +kernel
theorem d_L_push_15 : decode (mB M_L_push) 15 = .ok (.iconst 1, 1) := by decide +kernel
theorem d_L_push_16 : decode (mB M_L_push) 16 = .ok (.ireturn, 1) := by decide +kernel
theorem d_L_push_17 : decode (mB M_L_push) 17 = .ok (.astore 4, 2) := by decide +kernel
theorem d_L_push_19 : decode (mB M_L_push) 19 = .ok (.iconst 2, 1) := by decide +kernel
theorem d_L_push_20 : decode (mB M_L_push) 20 = .ok (.ireturn, 1) := by decide +kernel
theorem d_L_push_21 : decode (mB M_L_push) 21 = .ok (.astore 4, 2) := by decide +kernel
theorem d_L_push_23 : decode (mB M_L_push) 23 = .ok (.iconst 3, 1) := by decide +kernel
theorem d_L_push_24 : decode (mB M_L_push) 24 = .ok (.ireturn, 1) := by decide +kernel
theorem d_L_push_25 : decode (mB M_L_push) 25 = .ok (.astore 4, 2) := by decide +kernel
theorem d_L_push_27 : decode (mB M_L_push) 27 = .ok (.iconst 4, 1) := by decide +kernel
theorem d_L_push_28 : decode (mB M_L_push) 28 = .ok (.ireturn, 1) := by decide +kernel
theorem d_L_push_29 : decode (mB M_L_push) 29 = .ok (.astore 4, 2) := by decide +kernel
theorem d_L_push_31 : decode (mB M_L_push) 31 = .ok (.iconst 5, 1) := by decide +kernel
theorem d_L_push_32 : decode (mB M_L_push) 32 = .ok (.ireturn, 1) := by decide +kernel
theorem d_L_push_33 : decode (mB M_L_push) 33 = .ok (.iconst 0, 1) := by decide +kernel
theorem d_L_push_34 : decode (mB M_L_push) 34 = .ok (.ireturn, 1) := by decide +kernel
theorem hA_push {E : mEnv} (hE : E.1.stackTraces = false) {t : xT} {c c' : cT} {a0 a1 : Int32} {v : Int32} (hc : Rt E M_X11_push 0 [.ref 100, .int a0, .int a1] (mw t, cw c) (some (.int v)) (mw t, cw c')) : Rh E M_L_push 0 [.ref 100, .int a0, .int a1, .ref 19] (mw t, cw c) (some (.int 0)) (mw (wo t (vp_updL (ro t) 0 v.toInt64)), cw c') := by
  refine Rh.of hE pn_L (Nat.le_of_ble_eq_true rfl) ?_
  refine g_eq (S' := (0, [some (.ref 100), some (.int a0), some (.int a1), some (.ref 19), none], [], (mw t, cw c))) rfl ?_
  refine g_aload_n d_L_push_0 rfl ?_
  refine g_iconst (v := 0) d_L_push_1 (by decide) ?_
  refine g_aload_n d_L_push_2 rfl ?_
  refine g_iload_n d_L_push_3 rfl ?_
  refine g_iload_n d_L_push_4 rfl ?_
  refine g_callV (As := [.int a0, .int a1]) d_L_push_5 o_X11_push l_L_58 ⟨Nat.le_of_ble_eq_true rfl, Nat.le_of_ble_eq_true rfl⟩ hc rfl rfl rfl rfl rfl rfl ?_ (Nat.zero_add _)
  refine g_i2l d_L_push_8 ?_
  refine g_last (f := ro t) (w' := (mw (wo t (vp_updL (ro t) 0 v.toInt64)), cw c')) d_L_push_9 rfl (show ¬ ((0 : Int32) < 0 ∨ 1 ≤ Int32.toNatClampNeg 0) by decide) rfl ?_
  refine g_goto (tgt := 33) d_L_push_10 (by decide) ?_
  refine g_iconst (v := 0) d_L_push_33 (by decide) ?_
  exact g_retI d_L_push_34 rfl rfl rfl
theorem hT_push_1 {E : mEnv} (hE : E.1.stackTraces = false) {t : xT} {c c' : cT} {a0 a1 : Int32} (hc : Rx E M_X11_push [.ref 100, .int a0, .int a1] (mw t, cw c) xIAE (mw t, cw c')) : Rh E M_L_push 1 [.ref 100, .int a0, .int a1, .ref 19] (mw t, cw c) (some (.int 1)) (mw t, cw c') := by
  refine Rh.of hE pn_L (Nat.le_of_ble_eq_true rfl) ?_
  refine g_eq (S' := (0, [some (.ref 100), some (.int a0), some (.int a1), some (.ref 19), none], [], (mw t, cw c))) rfl ?_
  refine g_aload_n d_L_push_0 rfl ?_
  refine g_iconst (v := 0) d_L_push_1 (by decide) ?_
  refine g_aload_n d_L_push_2 rfl ?_
  refine g_iload_n d_L_push_3 rfl ?_
  refine g_iload_n d_L_push_4 rfl ?_
  refine g_catchW (n := 0) (L' := [some (.ref 100), some (.int a0), some (.int a1), some (.ref 19), none]) (As := [.int a0, .int a1]) d_L_push_5 o_X11_push l_L_58 ⟨Nat.le_of_ble_eq_true rfl, Nat.le_of_ble_eq_true rfl⟩ hc rfl rfl rfl rfl rfl [] ⟨0, 10, 13, 13⟩ [⟨0, 10, 17, 15⟩, ⟨0, 10, 21, 27⟩, ⟨0, 10, 25, 56⟩, ⟨0, 10, 29, 21⟩] (List.cons_ne_nil _ _) rfl (fun _ q => absurd q List.not_mem_nil) rfl (by decide) kl_IAE (List.mem_of_getElem? (i := 1) rfl) d_L_push_13 rfl rfl ?_ rfl
  refine g_iconst (v := 1) d_L_push_15 (by decide) ?_
  exact g_retI d_L_push_16 rfl rfl rfl
theorem hT_push_2 {E : mEnv} (hE : E.1.stackTraces = false) {t : xT} {c c' : cT} {a0 a1 : Int32} (hc : Rx E M_X11_push [.ref 100, .int a0, .int a1] (mw t, cw c) xISE (mw t, cw c')) : Rh E M_L_push 1 [.ref 100, .int a0, .int a1, .ref 19] (mw t, cw c) (some (.int 2)) (mw t, cw c') := by
  refine Rh.of hE pn_L (Nat.le_of_ble_eq_true rfl) ?_
  refine g_eq (S' := (0, [some (.ref 100), some (.int a0), some (.int a1), some (.ref 19), none], [], (mw t, cw c))) rfl ?_
  refine g_aload_n d_L_push_0 rfl ?_
  refine g_iconst (v := 0) d_L_push_1 (by decide) ?_
  refine g_aload_n d_L_push_2 rfl ?_
  refine g_iload_n d_L_push_3 rfl ?_
  refine g_iload_n d_L_push_4 rfl ?_
  refine g_catchW (n := 0) (L' := [some (.ref 100), some (.int a0), some (.int a1), some (.ref 19), none]) (As := [.int a0, .int a1]) d_L_push_5 o_X11_push l_L_58 ⟨Nat.le_of_ble_eq_true rfl, Nat.le_of_ble_eq_true rfl⟩ hc rfl rfl rfl rfl rfl [⟨0, 10, 13, 13⟩] ⟨0, 10, 17, 15⟩ [⟨0, 10, 21, 27⟩, ⟨0, 10, 25, 56⟩, ⟨0, 10, 29, 21⟩] (List.cons_ne_nil _ _) rfl (List.forall_mem_cons.mpr ⟨Or.inr ⟨by decide, xIAE, kl_IAE, List.mem_of_getElem? (i := 11) rfl⟩, fun _ q => absurd q List.not_mem_nil⟩) rfl (by decide) kl_ISE (List.mem_of_getElem? (i := 2) rfl) d_L_push_17 rfl rfl ?_ rfl
  refine g_iconst (v := 2) d_L_push_19 (by decide) ?_
  exact g_retI d_L_push_20 rfl rfl rfl
theorem hT_push_3 {E : mEnv} (hE : E.1.stackTraces = false) {t : xT} {c c' : cT} {a0 a1 : Int32} (hc : Rx E M_X11_push [.ref 100, .int a0, .int a1] (mw t, cw c) xIOOBE (mw t, cw c')) : Rh E M_L_push 1 [.ref 100, .int a0, .int a1, .ref 19] (mw t, cw c) (some (.int 3)) (mw t, cw c') := by
  refine Rh.of hE pn_L (Nat.le_of_ble_eq_true rfl) ?_
  refine g_eq (S' := (0, [some (.ref 100), some (.int a0), some (.int a1), some (.ref 19), none], [], (mw t, cw c))) rfl ?_
  refine g_aload_n d_L_push_0 rfl ?_
  refine g_iconst (v := 0) d_L_push_1 (by decide) ?_
  refine g_aload_n d_L_push_2 rfl ?_
  refine g_iload_n d_L_push_3 rfl ?_
  refine g_iload_n d_L_push_4 rfl ?_
  refine g_catchW (n := 0) (L' := [some (.ref 100), some (.int a0), some (.int a1), some (.ref 19), none]) (As := [.int a0, .int a1]) d_L_push_5 o_X11_push l_L_58 ⟨Nat.le_of_ble_eq_true rfl, Nat.le_of_ble_eq_true rfl⟩ hc rfl rfl rfl rfl rfl [⟨0, 10, 13, 13⟩, ⟨0, 10, 17, 15⟩] ⟨0, 10, 21, 27⟩ [⟨0, 10, 25, 56⟩, ⟨0, 10, 29, 21⟩] (List.cons_ne_nil _ _) rfl (List.forall_mem_cons.mpr ⟨Or.inr ⟨by decide, xIAE, kl_IAE, List.mem_of_getElem? (i := 16) rfl⟩, List.forall_mem_cons.mpr ⟨Or.inr ⟨by decide, xISE, kl_ISE, List.mem_of_getElem? (i := 17) rfl⟩, fun _ q => absurd q List.not_mem_nil⟩⟩) rfl (by decide) kl_IOOBE (List.mem_of_getElem? (i := 3) rfl) d_L_push_21 rfl rfl ?_ rfl
  refine g_iconst (v := 3) d_L_push_23 (by decide) ?_
  exact g_retI d_L_push_24 rfl rfl rfl
theorem hT_push_4 {E : mEnv} (hE : E.1.stackTraces = false) {t : xT} {c c' : cT} {a0 a1 : Int32} (hc : Rx E M_X11_push [.ref 100, .int a0, .int a1] (mw t, cw c) xUOE (mw t, cw c')) : Rh E M_L_push 1 [.ref 100, .int a0, .int a1, .ref 19] (mw t, cw c) (some (.int 4)) (mw t, cw c') := by
  refine Rh.of hE pn_L (Nat.le_of_ble_eq_true rfl) ?_
  refine g_eq (S' := (0, [some (.ref 100), some (.int a0), some (.int a1), some (.ref 19), none], [], (mw t, cw c))) rfl ?_
  refine g_aload_n d_L_push_0 rfl ?_
  refine g_iconst (v := 0) d_L_push_1 (by decide) ?_
  refine g_aload_n d_L_push_2 rfl ?_
  refine g_iload_n d_L_push_3 rfl ?_
  refine g_iload_n d_L_push_4 rfl ?_
  refine g_catchW (n := 0) (L' := [some (.ref 100), some (.int a0), some (.int a1), some (.ref 19), none]) (As := [.int a0, .int a1]) d_L_push_5 o_X11_push l_L_58 ⟨Nat.le_of_ble_eq_true rfl, Nat.le_of_ble_eq_true rfl⟩ hc rfl rfl rfl rfl rfl [⟨0, 10, 13, 13⟩, ⟨0, 10, 17, 15⟩, ⟨0, 10, 21, 27⟩] ⟨0, 10, 25, 56⟩ [⟨0, 10, 29, 21⟩] (List.cons_ne_nil _ _) rfl (List.forall_mem_cons.mpr ⟨Or.inr ⟨by decide, xIAE, kl_IAE, List.mem_of_getElem? (i := 21) rfl⟩, List.forall_mem_cons.mpr ⟨Or.inr ⟨by decide, xISE, kl_ISE, List.mem_of_getElem? (i := 22) rfl⟩, List.forall_mem_cons.mpr ⟨Or.inr ⟨by decide, xIOOBE, kl_IOOBE, List.mem_of_getElem? (i := 23) rfl⟩, fun _ q => absurd q List.not_mem_nil⟩⟩⟩) rfl (by decide) kl_UOE (List.mem_of_getElem? (i := 4) rfl) d_L_push_25 rfl rfl ?_ rfl
  refine g_iconst (v := 4) d_L_push_27 (by decide) ?_
  exact g_retI d_L_push_28 rfl rfl rfl
theorem hT_push_5 {E : mEnv} (hE : E.1.stackTraces = false) {t : xT} {c c' : cT} {a0 a1 : Int32} (hc : Rx E M_X11_push [.ref 100, .int a0, .int a1] (mw t, cw c) xAE (mw t, cw c')) : Rh E M_L_push 1 [.ref 100, .int a0, .int a1, .ref 19] (mw t, cw c) (some (.int 5)) (mw t, cw c') := by
  refine Rh.of hE pn_L (Nat.le_of_ble_eq_true rfl) ?_
  refine g_eq (S' := (0, [some (.ref 100), some (.int a0), some (.int a1), some (.ref 19), none], [], (mw t, cw c))) rfl ?_
  refine g_aload_n d_L_push_0 rfl ?_
  refine g_iconst (v := 0) d_L_push_1 (by decide) ?_
  refine g_aload_n d_L_push_2 rfl ?_
  refine g_iload_n d_L_push_3 rfl ?_
  refine g_iload_n d_L_push_4 rfl ?_
  refine g_catchW (n := 0) (L' := [some (.ref 100), some (.int a0), some (.int a1), some (.ref 19), none]) (As := [.int a0, .int a1]) d_L_push_5 o_X11_push l_L_58 ⟨Nat.le_of_ble_eq_true rfl, Nat.le_of_ble_eq_true rfl⟩ hc rfl rfl rfl rfl rfl [⟨0, 10, 13, 13⟩, ⟨0, 10, 17, 15⟩, ⟨0, 10, 21, 27⟩, ⟨0, 10, 25, 56⟩] ⟨0, 10, 29, 21⟩ [] (List.cons_ne_nil _ _) rfl (List.forall_mem_cons.mpr ⟨Or.inr ⟨by decide, xIAE, kl_IAE, List.mem_of_getElem? (i := 0) rfl⟩, List.forall_mem_cons.mpr ⟨Or.inr ⟨by decide, xISE, kl_ISE, List.mem_of_getElem? (i := 1) rfl⟩, List.forall_mem_cons.mpr ⟨Or.inr ⟨by decide, xIOOBE, kl_IOOBE, List.mem_of_getElem? (i := 2) rfl⟩, List.forall_mem_cons.mpr ⟨Or.inr ⟨by decide, xUOE, kl_UOE, List.mem_of_getElem? (i := 3) rfl⟩, fun _ q => absurd q List.not_mem_nil⟩⟩⟩⟩) rfl (by decide) kl_AE (List.mem_of_getElem? (i := 0) rfl) d_L_push_29 rfl rfl ?_ rfl
  refine g_iconst (v := 5) d_L_push_31 (by decide) ?_
  exact g_retI d_L_push_32 rfl rfl rfl
theorem d_L_longPush_0 : decode (mB M_L_longPush) 0 = .ok (.aload_n 3, 1) := by decide +kernel
theorem d_L_longPush_1 : decode (mB M_L_longPush) 1 = .ok (.iconst 0, 1) := by decide +kernel
theorem d_L_longPush_2 : decode (mB M_L_longPush) 2 = .ok (.aload_n 0, 1) := by decide +kernel
theorem d_L_longPush_3 : decode (mB M_L_longPush) 3 = .ok (.iload_n 1, 1) := by decide +kernel
theorem d_L_longPush_4 : decode (mB M_L_longPush) 4 = .ok (.iload_n 2, 1) := by decide +kernel
theorem d_L_longPush_5 : decode (mB M_L_longPush) 5 = .ok (.invokevirtual 61, 3) := by decide +kernel
theorem d_L_longPush_8 : decode (mB M_L_longPush) 8 = .ok (.i2l, 1) := by decide +kernel
theorem d_L_longPush_9 : decode (mB M_L_longPush) 9 = .ok (.lastore, 1) := by decide +kernel
theorem d_L_longPush_10 : decode (mB M_L_longPush) 10 = .ok (.goto 23, 3) := by decide +kernel
theorem d_L_longPush_13 : decode (mB M_L_longPush) 13 = .ok (.astore 4, 2) := by decide +kernel
theorem d_L_longPush_15 : decode (mB M_L_longPush) 15 = .ok (.iconst 1, 1) := by decide +kernel
theorem d_L_longPush_16 : decode (mB M_L_longPush) 16 = .ok (.ireturn, 1) := by decide +kernel
theorem d_L_longPush_17 : decode (mB M_L_longPush) 17 = .ok (.astore 4, 2) := by decide +kernel
theorem d_L_longPush_19 : decode (mB M_L_longPush) 19 = .ok (.iconst 2, 1) := by decide +kernel
theorem d_L_longPush_20 : decode (mB M_L_longPush) 20 = .ok (.ireturn, 1) := by decide +kernel
theorem d_L_longPush_21 : decode (mB M_L_longPush) 21 = .ok (.astore 4, 2) := by decide +kernel
theorem d_L_longPush_23 : decode (mB M_L_longPush) 23 = .ok (.iconst 3, 1) := by decide +kernel
theorem d_L_longPush_24 : decode (mB M_L_longPush) 24 = .ok (.ireturn, 1) := by decide +kernel
theorem d_L_longPush_25 : decode (mB M_L_longPush) 25 = .ok (.astore 4, 2) := by decide +kernel
theorem d_L_longPush_27 : decode (mB M_L_longPush) 27 = .ok (.iconst 4, 1) := by decide +kernel
theorem d_L_longPush_28 : decode (mB M_L_longPush) 28 = .ok (.ireturn, 1) := by decide +kernel
theorem d_L_longPush_29 : decode (mB M_L_longPush) 29 = .ok (.astore 4, 2) := by decide +kernel
theorem d_L_longPush_31 : decode (mB M_L_longPush) 31 = .ok (.iconst 5, 1) := by decide +kernel
theorem d_L_longPush_32 : decode (mB M_L_longPush) 32 = .ok (.ireturn, 1) := by decide +kernel
theorem d_L_longPush_33 : decode (mB M_L_longPush) 33 = .ok (.iconst 0, 1) := by decide +kernel
theorem d_L_longPush_34 : decode (mB M_L_longPush) 34 = .ok (.ireturn, 1) := by decide +kernel
theorem hA_longPush {E : mEnv} (hE : E.1.stackTraces = false) {t : xT} {c c' : cT} {a0 a1 : Int32} {v : Int32} (hc : Rt E M_X11_longPush 0 [.ref 100, .int a0, .int a1] (mw t, cw c) (some (.int v)) (mw t, cw c')) : Rh E M_L_longPush 0 [.ref 100, .int a0, .int a1, .ref 19] (mw t, cw c) (some (.int 0)) (mw (wo t (vp_updL (ro t) 0 v.toInt64)), cw c') := by
  refine Rh.of hE pn_L (Nat.le_of_ble_eq_true rfl) ?_
  refine g_eq (S' := (0, [some (.ref 100), some (.int a0), some (.int a1), some (.ref 19), none], [], (mw t, cw c))) rfl ?_
  refine g_aload_n d_L_longPush_0 rfl ?_
  refine g_iconst (v := 0) d_L_longPush_1 (by decide) ?_
  refine g_aload_n d_L_longPush_2 rfl ?_
  refine g_iload_n d_L_longPush_3 rfl ?_
  refine g_iload_n d_L_longPush_4 rfl ?_
  refine g_callV (As := [.int a0, .int a1]) d_L_longPush_5 o_X11_longPush l_L_61 ⟨Nat.le_of_ble_eq_true rfl, Nat.le_of_ble_eq_true rfl⟩ hc rfl rfl rfl rfl rfl rfl ?_ (Nat.zero_add _)
  refine g_i2l d_L_longPush_8 ?_
  refine g_last (f := ro t) (w' := (mw (wo t (vp_updL (ro t) 0 v.toInt64)), cw c')) d_L_longPush_9 rfl (show ¬ ((0 : Int32) < 0 ∨ 1 ≤ Int32.toNatClampNeg 0) by decide) rfl ?_
  refine g_goto (tgt := 33) d_L_longPush_10 (by decide) ?_
  refine g_iconst (v := 0) d_L_longPush_33 (by decide) ?_
  exact g_retI d_L_longPush_34 rfl rfl rfl
theorem hT_longPush_1 {E : mEnv} (hE : E.1.stackTraces = false) {t : xT} {c c' : cT} {a0 a1 : Int32} (hc : Rx E M_X11_longPush [.ref 100, .int a0, .int a1] (mw t, cw c) xIAE (mw t, cw c')) : Rh E M_L_longPush 1 [.ref 100, .int a0, .int a1, .ref 19] (mw t, cw c) (some (.int 1)) (mw t, cw c') := by
  refine Rh.of hE pn_L (Nat.le_of_ble_eq_true rfl) ?_
  refine g_eq (S' := (0, [some (.ref 100), some (.int a0), some (.int a1), some (.ref 19), none], [], (mw t, cw c))) rfl ?_
  refine g_aload_n d_L_longPush_0 rfl ?_
  refine g_iconst (v := 0) d_L_longPush_1 (by decide) ?_
  refine g_aload_n d_L_longPush_2 rfl ?_
  refine g_iload_n d_L_longPush_3 rfl ?_
  refine g_iload_n d_L_longPush_4 rfl ?_
  refine g_catchW (n := 0) (L' := [some (.ref 100), some (.int a0), some (.int a1), some (.ref 19), none]) (As := [.int a0, .int a1]) d_L_longPush_5 o_X11_longPush l_L_61 ⟨Nat.le_of_ble_eq_true rfl, Nat.le_of_ble_eq_true rfl⟩ hc rfl rfl rfl rfl rfl [] ⟨0, 10, 13, 13⟩ [⟨0, 10, 17, 15⟩, ⟨0, 10, 21, 27⟩, ⟨0, 10, 25, 56⟩, ⟨0, 10, 29, 21⟩] (List.cons_ne_nil _ _) rfl (fun _ q => absurd q List.not_mem_nil) rfl (by decide) kl_IAE (List.mem_of_getElem? (i := 1) rfl) d_L_longPush_13 rfl rfl ?_ rfl
  refine g_iconst (v := 1) d_L_longPush_15 (by decide) ?_
  exact g_retI d_L_longPush_16 rfl rfl rfl
theorem hT_longPush_2 {E : mEnv} (hE : E.1.stackTraces = false) {t : xT} {c c' : cT} {a0 a1 : Int32} (hc : Rx E M_X11_longPush [.ref 100, .int a0, .int a1] (mw t, cw c) xISE (mw t, cw c')) : Rh E M_L_longPush 1 [.ref 100, .int a0, .int a1, .ref 19] (mw t, cw c) (some (.int 2)) (mw t, cw c') := by
  refine Rh.of hE pn_L (Nat.le_of_ble_eq_true rfl) ?_
  refine g_eq (S' := (0, [some (.ref 100), some (.int a0), some (.int a1), some (.ref 19), none], [], (mw t, cw c))) rfl ?_
  refine g_aload_n d_L_longPush_0 rfl ?_
  refine g_iconst (v := 0) d_L_longPush_1 (by decide) ?_
  refine g_aload_n d_L_longPush_2 rfl ?_
  refine g_iload_n d_L_longPush_3 rfl ?_
  refine g_iload_n d_L_longPush_4 rfl ?_
  refine g_catchW (n := 0) (L' := [some (.ref 100), some (.int a0), some (.int a1), some (.ref 19), none]) (As := [.int a0, .int a1]) d_L_longPush_5 o_X11_longPush l_L_61 ⟨Nat.le_of_ble_eq_true rfl, Nat.le_of_ble_eq_true rfl⟩ hc rfl rfl rfl rfl rfl [⟨0, 10, 13, 13⟩] ⟨0, 10, 17, 15⟩ [⟨0, 10, 21, 27⟩, ⟨0, 10, 25, 56⟩, ⟨0, 10, 29, 21⟩] (List.cons_ne_nil _ _) rfl (List.forall_mem_cons.mpr ⟨Or.inr ⟨by decide, xIAE, kl_IAE, List.mem_of_getElem? (i := 11) rfl⟩, fun _ q => absurd q List.not_mem_nil⟩) rfl (by decide) kl_ISE (List.mem_of_getElem? (i := 2) rfl) d_L_longPush_17 rfl rfl ?_ rfl
  refine g_iconst (v := 2) d_L_longPush_19 (by decide) ?_
  exact g_retI d_L_longPush_20 rfl rfl rfl
theorem hT_longPush_3 {E : mEnv} (hE : E.1.stackTraces = false) {t : xT} {c c' : cT} {a0 a1 : Int32} (hc : Rx E M_X11_longPush [.ref 100, .int a0, .int a1] (mw t, cw c) xIOOBE (mw t, cw c')) : Rh E M_L_longPush 1 [.ref 100, .int a0, .int a1, .ref 19] (mw t, cw c) (some (.int 3)) (mw t, cw c') := by
  refine Rh.of hE pn_L (Nat.le_of_ble_eq_true rfl) ?_
  refine g_eq (S' := (0, [some (.ref 100), some (.int a0), some (.int a1), some (.ref 19), none], [], (mw t, cw c))) rfl ?_
  refine g_aload_n d_L_longPush_0 rfl ?_
  refine g_iconst (v := 0) d_L_longPush_1 (by decide) ?_
  refine g_aload_n d_L_longPush_2 rfl ?_
  refine g_iload_n d_L_longPush_3 rfl ?_
  refine g_iload_n d_L_longPush_4 rfl ?_
  refine g_catchW (n := 0) (L' := [some (.ref 100), some (.int a0), some (.int a1), some (.ref 19), none]) (As := [.int a0, .int a1]) d_L_longPush_5 o_X11_longPush l_L_61 ⟨Nat.le_of_ble_eq_true rfl, Nat.le_of_ble_eq_true rfl⟩ hc rfl rfl rfl rfl rfl [⟨0, 10, 13, 13⟩, ⟨0, 10, 17, 15⟩] ⟨0, 10, 21, 27⟩ [⟨0, 10, 25, 56⟩, ⟨0, 10, 29, 21⟩] (List.cons_ne_nil _ _) rfl (List.forall_mem_cons.mpr ⟨Or.inr ⟨by decide, xIAE, kl_IAE, List.mem_of_getElem? (i := 16) rfl⟩, List.forall_mem_cons.mpr ⟨Or.inr ⟨by decide, xISE, kl_ISE, List.mem_of_getElem? (i := 17) rfl⟩, fun _ q => absurd q List.not_mem_nil⟩⟩) rfl (by decide) kl_IOOBE (List.mem_of_getElem? (i := 3) rfl) d_L_longPush_21 rfl rfl ?_ rfl
  refine g_iconst (v := 3) d_L_longPush_23 (by decide) ?_
  exact g_retI d_L_longPush_24 rfl rfl rfl
theorem hT_longPush_4 {E : mEnv} (hE : E.1.stackTraces = false) {t : xT} {c c' : cT} {a0 a1 : Int32} (hc : Rx E M_X11_longPush [.ref 100, .int a0, .int a1] (mw t, cw c) xUOE (mw t, cw c')) : Rh E M_L_longPush 1 [.ref 100, .int a0, .int a1, .ref 19] (mw t, cw c) (some (.int 4)) (mw t, cw c') := by
  refine Rh.of hE pn_L (Nat.le_of_ble_eq_true rfl) ?_
  refine g_eq (S' := (0, [some (.ref 100), some (.int a0), some (.int a1), some (.ref 19), none], [], (mw t, cw c))) rfl ?_
  refine g_aload_n d_L_longPush_0 rfl ?_
  refine g_iconst (v := 0) d_L_longPush_1 (by decide) ?_
  refine g_aload_n d_L_longPush_2 rfl ?_
  refine g_iload_n d_L_longPush_3 rfl ?_
  refine g_iload_n d_L_longPush_4 rfl ?_
  refine g_catchW (n := 0) (L' := [some (.ref 100), some (.int a0), some (.int a1), some (.ref 19), none]) (As := [.int a0, .int a1]) d_L_longPush_5 o_X11_longPush l_L_61 ⟨Nat.le_of_ble_eq_true rfl, Nat.le_of_ble_eq_true rfl⟩ hc rfl rfl rfl rfl rfl [⟨0, 10, 13, 13⟩, ⟨0, 10, 17, 15⟩, ⟨0, 10, 21, 27⟩] ⟨0, 10, 25, 56⟩ [⟨0, 10, 29, 21⟩] (List.cons_ne_nil _ _) rfl (List.forall_mem_cons.mpr ⟨Or.inr ⟨by decide, xIAE, kl_IAE, List.mem_of_getElem? (i := 21) rfl⟩, List.forall_mem_cons.mpr ⟨Or.inr ⟨by decide, xISE, kl_ISE, List.mem_of_getElem? (i := 22) rfl⟩, List.forall_mem_cons.mpr ⟨Or.inr ⟨by decide, xIOOBE, kl_IOOBE, List.mem_of_getElem? (i := 23) rfl⟩, fun _ q => absurd q List.not_mem_nil⟩⟩⟩) rfl (by decide) kl_UOE (List.mem_of_getElem? (i := 4) rfl) d_L_longPush_25 rfl rfl ?_ rfl
  refine g_iconst (v := 4) d_L_longPush_27 (by decide) ?_
  exact g_retI d_L_longPush_28 rfl rfl rfl
theorem hT_longPush_5 {E : mEnv} (hE : E.1.stackTraces = false) {t : xT} {c c' : cT} {a0 a1 : Int32} (hc : Rx E M_X11_longPush [.ref 100, .int a0, .int a1] (mw t, cw c) xAE (mw t, cw c')) : Rh E M_L_longPush 1 [.ref 100, .int a0, .int a1, .ref 19] (mw t, cw c) (some (.int 5)) (mw t, cw c') := by
  refine Rh.of hE pn_L (Nat.le_of_ble_eq_true rfl) ?_
  refine g_eq (S' := (0, [some (.ref 100), some (.int a0), some (.int a1), some (.ref 19), none], [], (mw t, cw c))) rfl ?_
  refine g_aload_n d_L_longPush_0 rfl ?_
  refine g_iconst (v := 0) d_L_longPush_1 (by decide) ?_
  refine g_aload_n d_L_longPush_2 rfl ?_
  refine g_iload_n d_L_longPush_3 rfl ?_
  refine g_iload_n d_L_longPush_4 rfl ?_
  refine g_catchW (n := 0) (L' := [some (.ref 100), some (.int a0), some (.int a1), some (.ref 19), none]) (As := [.int a0, .int a1]) d_L_longPush_5 o_X11_longPush l_L_61 ⟨Nat.le_of_ble_eq_true rfl, Nat.le_of_ble_eq_true rfl⟩ hc rfl rfl rfl rfl rfl [⟨0, 10, 13, 13⟩, ⟨0, 10, 17, 15⟩, ⟨0, 10, 21, 27⟩, ⟨0, 10, 25, 56⟩] ⟨0, 10, 29, 21⟩ [] (List.cons_ne_nil _ _) rfl (List.forall_mem_cons.mpr ⟨Or.inr ⟨by decide, xIAE, kl_IAE, List.mem_of_getElem? (i := 0) rfl⟩, List.forall_mem_cons.mpr ⟨Or.inr ⟨by decide, xISE, kl_ISE, List.mem_of_getElem? (i := 1) rfl⟩, List.forall_mem_cons.mpr ⟨Or.inr ⟨by decide, xIOOBE, kl_IOOBE, List.mem_of_getElem? (i := 2) rfl⟩, List.forall_mem_cons.mpr ⟨Or.inr ⟨by decide, xUOE, kl_UOE, List.mem_of_getElem? (i := 3) rfl⟩, fun _ q => absurd q List.not_mem_nil⟩⟩⟩⟩) rfl (by decide) kl_AE (List.mem_of_getElem? (i := 0) rfl) d_L_longPush_29 rfl rfl ?_ rfl
  refine g_iconst (v := 5) d_L_longPush_31 (by decide) ?_
  exact g_retI d_L_longPush_32 rfl rfl rfl
theorem d_L_play_0 : decode (mB M_L_play) 0 = .ok (.aload_n 1, 1) := by decide +kernel
theorem d_L_play_1 : decode (mB M_L_play) 1 = .ok (.iconst 0, 1) := by decide +kernel
theorem d_L_play_2 : decode (mB M_L_play) 2 = .ok (.aload_n 0, 1) := by decide +kernel
theorem d_L_play_3 : decode (mB M_L_play) 3 = .ok (.invokevirtual 64, 3) := by decide +kernel
theorem d_L_play_6 : decode (mB M_L_play) 6 = .ok (.i2l, 1) := by decide +kernel
theorem d_L_play_7 : decode (mB M_L_play) 7 = .ok (.lastore, 1) := by decide +kernel
theorem d_L_play_8 : decode (mB M_L_play) 8 = .ok (.goto 12, 3) := by decide +kernel
theorem d_L_play_11 : decode (mB M_L_play) 11 = .ok (.astore_n 2, 1) := by decide +kernel
theorem d_L_play_12 : decode (mB M_L_play) 12 = .ok (.iconst 1, 1) := by decide +kernel
theorem d_L_play_13 : decode (mB M_L_play) 13 = .ok (.ireturn, 1) := by decide +kernel
theorem d_L_play_14 : decode (mB M_L_play) 14 = .ok (.astore_n 2, 1) := by decide +kernel
theorem d_L_play_15 : decode (mB M_L_play) 15 = .ok (.iconst 2, 1) := by decide +kernel
theorem d_L_play_16 : decode (mB M_L_play) 16 = .ok (.ireturn, 1) := by decide +kernel
theorem d_L_play_17 : decode (mB M_L_play) 17 = .ok (.astore_n 2, 1) := by decide +kernel
theorem d_L_play_18 : decode (mB M_L_play) 18 = .ok (.iconst 3, 1) := by decide +kernel
theorem d_L_play_19 : decode (mB M_L_play) 19 = .ok (.ireturn, 1) := by decide +kernel
theorem d_L_play_20 : decode (mB M_L_play) 20 = .ok (.iconst 0, 1) := by decide +kernel
theorem d_L_play_21 : decode (mB M_L_play) 21 = .ok (.ireturn, 1) := by decide +kernel
theorem hA_play {E : mEnv} (hE : E.1.stackTraces = false) {t : xT} {c c' : cT} {v : Int32} (hc : Rt E M_X11_play 0 [.ref 100] (mw t, cw c) (some (.int v)) (mw t, cw c')) : Rh E M_L_play 0 [.ref 100, .ref 19] (mw t, cw c) (some (.int 0)) (mw (wo t (vp_updL (ro t) 0 v.toInt64)), cw c') := by
  refine Rh.of hE pn_L (Nat.le_of_ble_eq_true rfl) ?_
  refine g_eq (S' := (0, [some (.ref 100), some (.ref 19), none], [], (mw t, cw c))) rfl ?_
  refine g_aload_n d_L_play_0 rfl ?_
  refine g_iconst (v := 0) d_L_play_1 (by decide) ?_
  refine g_aload_n d_L_play_2 rfl ?_
  refine g_callV (As := []) d_L_play_3 o_X11_play l_L_64 ⟨Nat.le_of_ble_eq_true rfl, Nat.le_of_ble_eq_true rfl⟩ hc rfl rfl rfl rfl rfl rfl ?_ (Nat.zero_add _)
  refine g_i2l d_L_play_6 ?_
  refine g_last (f := ro t) (w' := (mw (wo t (vp_updL (ro t) 0 v.toInt64)), cw c')) d_L_play_7 rfl (show ¬ ((0 : Int32) < 0 ∨ 1 ≤ Int32.toNatClampNeg 0) by decide) rfl ?_
  refine g_goto (tgt := 20) d_L_play_8 (by decide) ?_
  refine g_iconst (v := 0) d_L_play_20 (by decide) ?_
  exact g_retI d_L_play_21 rfl rfl rfl
theorem hT_play_1 {E : mEnv} (hE : E.1.stackTraces = false) {t : xT} {c c' : cT} (hc : Rx E M_X11_play [.ref 100] (mw t, cw c) xISE (mw t, cw c')) : Rh E M_L_play 1 [.ref 100, .ref 19] (mw t, cw c) (some (.int 1)) (mw t, cw c') := by
  refine Rh.of hE pn_L (Nat.le_of_ble_eq_true rfl) ?_
  refine g_eq (S' := (0, [some (.ref 100), some (.ref 19), none], [], (mw t, cw c))) rfl ?_
  refine g_aload_n d_L_play_0 rfl ?_
  refine g_iconst (v := 0) d_L_play_1 (by decide) ?_
  refine g_aload_n d_L_play_2 rfl ?_
  refine g_catchV (n := 0) (L' := [some (.ref 100), some (.ref 19), none]) (As := []) d_L_play_3 o_X11_play l_L_64 ⟨Nat.le_of_ble_eq_true rfl, Nat.le_of_ble_eq_true rfl⟩ hc rfl rfl rfl rfl rfl [] ⟨0, 8, 11, 15⟩ [⟨0, 8, 14, 56⟩, ⟨0, 8, 17, 21⟩] (List.cons_ne_nil _ _) rfl (fun _ q => absurd q List.not_mem_nil) rfl (by decide) kl_ISE (List.mem_of_getElem? (i := 2) rfl) d_L_play_11 rfl rfl ?_ rfl
  refine g_iconst (v := 1) d_L_play_12 (by decide) ?_
  exact g_retI d_L_play_13 rfl rfl rfl
theorem hT_play_2 {E : mEnv} (hE : E.1.stackTraces = false) {t : xT} {c c' : cT} (hc : Rx E M_X11_play [.ref 100] (mw t, cw c) xUOE (mw t, cw c')) : Rh E M_L_play 1 [.ref 100, .ref 19] (mw t, cw c) (some (.int 2)) (mw t, cw c') := by
  refine Rh.of hE pn_L (Nat.le_of_ble_eq_true rfl) ?_
  refine g_eq (S' := (0, [some (.ref 100), some (.ref 19), none], [], (mw t, cw c))) rfl ?_
  refine g_aload_n d_L_play_0 rfl ?_
  refine g_iconst (v := 0) d_L_play_1 (by decide) ?_
  refine g_aload_n d_L_play_2 rfl ?_
  refine g_catchV (n := 0) (L' := [some (.ref 100), some (.ref 19), none]) (As := []) d_L_play_3 o_X11_play l_L_64 ⟨Nat.le_of_ble_eq_true rfl, Nat.le_of_ble_eq_true rfl⟩ hc rfl rfl rfl rfl rfl [⟨0, 8, 11, 15⟩] ⟨0, 8, 14, 56⟩ [⟨0, 8, 17, 21⟩] (List.cons_ne_nil _ _) rfl (List.forall_mem_cons.mpr ⟨Or.inr ⟨by decide, xISE, kl_ISE, List.mem_of_getElem? (i := 22) rfl⟩, fun _ q => absurd q List.not_mem_nil⟩) rfl (by decide) kl_UOE (List.mem_of_getElem? (i := 4) rfl) d_L_play_14 rfl rfl ?_ rfl
  refine g_iconst (v := 2) d_L_play_15 (by decide) ?_
  exact g_retI d_L_play_16 rfl rfl rfl
theorem hT_play_3 {E : mEnv} (hE : E.1.stackTraces = false) {t : xT} {c c' : cT} (hc : Rx E M_X11_play [.ref 100] (mw t, cw c) xAE (mw t, cw c')) : Rh E M_L_play 1 [.ref 100, .ref 19] (mw t, cw c) (some (.int 3)) (mw t, cw c') := by
  refine Rh.of hE pn_L (Nat.le_of_ble_eq_true rfl) ?_
  refine g_eq (S' := (0, [some (.ref 100), some (.ref 19), none], [], (mw t, cw c))) rfl ?_
  refine g_aload_n d_L_play_0 rfl ?_
  refine g_iconst (v := 0) d_L_play_1 (by decide) ?_
  refine g_aload_n d_L_play_2 rfl ?_
  refine g_catchV (n := 0) (L' := [some (.ref 100), some (.ref 19), none]) (As := []) d_L_play_3 o_X11_play l_L_64 ⟨Nat.le_of_ble_eq_true rfl, Nat.le_of_ble_eq_true rfl⟩ hc rfl rfl rfl rfl rfl [⟨0, 8, 11, 15⟩, ⟨0, 8, 14, 56⟩] ⟨0, 8, 17, 21⟩ [] (List.cons_ne_nil _ _) rfl (List.forall_mem_cons.mpr ⟨Or.inr ⟨by decide, xISE, kl_ISE, List.mem_of_getElem? (i := 1) rfl⟩, List.forall_mem_cons.mpr ⟨Or.inr ⟨by decide, xUOE, kl_UOE, List.mem_of_getElem? (i := 3) rfl⟩, fun _ q => absurd q List.not_mem_nil⟩⟩) rfl (by decide) kl_AE (List.mem_of_getElem? (i := 0) rfl) d_L_play_17 rfl rfl ?_ rfl
  refine g_iconst (v := 3) d_L_play_18 (by decide) ?_
  exact g_retI d_L_play_19 rfl rfl rfl
theorem d_L_refused_0 : decode (mB M_L_refused) 0 = .ok (.aload_n 1, 1) := by decide +kernel
theorem d_L_refused_1 : decode (mB M_L_refused) 1 = .ok (.iconst 0, 1) := by decide +kernel
theorem d_L_refused_2 : decode (mB M_L_refused) 2 = .ok (.aload_n 0, 1) := by decide +kernel
theorem d_L_refused_3 : decode (mB M_L_refused) 3 = .ok (.invokevirtual 67, 3) := by decide +kernel
theorem d_L_refused_6 : decode (mB M_L_refused) 6 = .ok (.i2l, 1) := by decide +kernel
theorem d_L_refused_7 : decode (mB M_L_refused) 7 = .ok (.lastore, 1) := by decide +kernel
theorem d_L_refused_8 : decode (mB M_L_refused) 8 = .ok (.goto 6, 3) := by decide +kernel
theorem d_L_refused_11 : decode (mB M_L_refused) 11 = .ok (.astore_n 2, 1) := by decide +kernel
theorem d_L_refused_12 : decode (mB M_L_refused) 12 = .ok (.iconst 1, 1) := by decide +kernel
theorem d_L_refused_13 : decode (mB M_L_refused) 13 = .ok (.ireturn, 1) := by decide +kernel
theorem d_L_refused_14 : decode (mB M_L_refused) 14 = .ok (.iconst 0, 1) := by decide +kernel
theorem d_L_refused_15 : decode (mB M_L_refused) 15 = .ok (.ireturn, 1) := by decide +kernel
theorem hA_refused {E : mEnv} (hE : E.1.stackTraces = false) {t : xT} {c c' : cT} {v : Int32} (hc : Rt E M_X11_refused 0 [.ref 100] (mw t, cw c) (some (.int v)) (mw t, cw c')) : Rh E M_L_refused 0 [.ref 100, .ref 19] (mw t, cw c) (some (.int 0)) (mw (wo t (vp_updL (ro t) 0 v.toInt64)), cw c') := by
  refine Rh.of hE pn_L (Nat.le_of_ble_eq_true rfl) ?_
  refine g_eq (S' := (0, [some (.ref 100), some (.ref 19), none], [], (mw t, cw c))) rfl ?_
  refine g_aload_n d_L_refused_0 rfl ?_
  refine g_iconst (v := 0) d_L_refused_1 (by decide) ?_
  refine g_aload_n d_L_refused_2 rfl ?_
  refine g_callV (As := []) d_L_refused_3 o_X11_refused l_L_67 ⟨Nat.le_of_ble_eq_true rfl, Nat.le_of_ble_eq_true rfl⟩ hc rfl rfl rfl rfl rfl rfl ?_ (Nat.zero_add _)
  refine g_i2l d_L_refused_6 ?_
  refine g_last (f := ro t) (w' := (mw (wo t (vp_updL (ro t) 0 v.toInt64)), cw c')) d_L_refused_7 rfl (show ¬ ((0 : Int32) < 0 ∨ 1 ≤ Int32.toNatClampNeg 0) by decide) rfl ?_
  refine g_goto (tgt := 14) d_L_refused_8 (by decide) ?_
  refine g_iconst (v := 0) d_L_refused_14 (by decide) ?_
  exact g_retI d_L_refused_15 rfl rfl rfl
theorem hT_refused_1 {E : mEnv} (hE : E.1.stackTraces = false) {t : xT} {c c' : cT} (hc : Rx E M_X11_refused [.ref 100] (mw t, cw c) xNSEE (mw t, cw c')) : Rh E M_L_refused 1 [.ref 100, .ref 19] (mw t, cw c) (some (.int 1)) (mw t, cw c') := by
  refine Rh.of hE pn_L (Nat.le_of_ble_eq_true rfl) ?_
  refine g_eq (S' := (0, [some (.ref 100), some (.ref 19), none], [], (mw t, cw c))) rfl ?_
  refine g_aload_n d_L_refused_0 rfl ?_
  refine g_iconst (v := 0) d_L_refused_1 (by decide) ?_
  refine g_aload_n d_L_refused_2 rfl ?_
  refine g_catchV (n := 0) (L' := [some (.ref 100), some (.ref 19), none]) (As := []) d_L_refused_3 o_X11_refused l_L_67 ⟨Nat.le_of_ble_eq_true rfl, Nat.le_of_ble_eq_true rfl⟩ hc rfl rfl rfl rfl rfl [] ⟨0, 8, 11, 41⟩ [] (List.cons_ne_nil _ _) rfl (fun _ q => absurd q List.not_mem_nil) rfl (by decide) kl_NSEE (List.mem_of_getElem? (i := 5) rfl) d_L_refused_11 rfl rfl ?_ rfl
  refine g_iconst (v := 1) d_L_refused_12 (by decide) ?_
  exact g_retI d_L_refused_13 rfl rfl rfl
theorem d_L_refusal_0 : decode (mB M_L_refusal) 0 = .ok (.aload_n 2, 1) := by decide +kernel
theorem d_L_refusal_1 : decode (mB M_L_refusal) 1 = .ok (.iconst 0, 1) := by decide +kernel
theorem d_L_refusal_2 : decode (mB M_L_refusal) 2 = .ok (.aload_n 0, 1) := by decide +kernel
theorem d_L_refusal_3 : decode (mB M_L_refusal) 3 = .ok (.iload_n 1, 1) := by decide +kernel
theorem d_L_refusal_4 : decode (mB M_L_refusal) 4 = .ok (.invokevirtual 70, 3) := by decide +kernel
theorem d_L_refusal_7 : decode (mB M_L_refusal) 7 = .ok (.i2l, 1) := by decide +kernel
theorem d_L_refusal_8 : decode (mB M_L_refusal) 8 = .ok (.lastore, 1) := by decide +kernel
theorem d_L_refusal_9 : decode (mB M_L_refusal) 9 = .ok (.goto 6, 3) := by decide +kernel
theorem d_L_refusal_12 : decode (mB M_L_refusal) 12 = .ok (.astore_n 3, 1) := by decide +kernel
theorem d_L_refusal_13 : decode (mB M_L_refusal) 13 = .ok (.iconst 1, 1) := by decide +kernel
theorem d_L_refusal_14 : decode (mB M_L_refusal) 14 = .ok (.ireturn, 1) := by decide +kernel
theorem d_L_refusal_15 : decode (mB M_L_refusal) 15 = .ok (.iconst 0, 1) := by decide +kernel
theorem d_L_refusal_16 : decode (mB M_L_refusal) 16 = .ok (.ireturn, 1) := by decide +kernel
theorem hA_refusal {E : mEnv} (hE : E.1.stackTraces = false) {t : xT} {c c' : cT} {a0 : Int32} {v : Int32} (hc : Rt E M_X11_refusal 0 [.ref 100, .int a0] (mw t, cw c) (some (.int v)) (mw t, cw c')) : Rh E M_L_refusal 0 [.ref 100, .int a0, .ref 19] (mw t, cw c) (some (.int 0)) (mw (wo t (vp_updL (ro t) 0 v.toInt64)), cw c') := by
  refine Rh.of hE pn_L (Nat.le_of_ble_eq_true rfl) ?_
  refine g_eq (S' := (0, [some (.ref 100), some (.int a0), some (.ref 19), none], [], (mw t, cw c))) rfl ?_
  refine g_aload_n d_L_refusal_0 rfl ?_
  refine g_iconst (v := 0) d_L_refusal_1 (by decide) ?_
  refine g_aload_n d_L_refusal_2 rfl ?_
  refine g_iload_n d_L_refusal_3 rfl ?_
  refine g_callV (As := [.int a0]) d_L_refusal_4 o_X11_refusal l_L_70 ⟨Nat.le_of_ble_eq_true rfl, Nat.le_of_ble_eq_true rfl⟩ hc rfl rfl rfl rfl rfl rfl ?_ (Nat.zero_add _)
  refine g_i2l d_L_refusal_7 ?_
  refine g_last (f := ro t) (w' := (mw (wo t (vp_updL (ro t) 0 v.toInt64)), cw c')) d_L_refusal_8 rfl (show ¬ ((0 : Int32) < 0 ∨ 1 ≤ Int32.toNatClampNeg 0) by decide) rfl ?_
  refine g_goto (tgt := 15) d_L_refusal_9 (by decide) ?_
  refine g_iconst (v := 0) d_L_refusal_15 (by decide) ?_
  exact g_retI d_L_refusal_16 rfl rfl rfl
theorem hT_refusal_1 {E : mEnv} (hE : E.1.stackTraces = false) {t : xT} {c c' : cT} {a0 : Int32} (hc : Rx E M_X11_refusal [.ref 100, .int a0] (mw t, cw c) xNSEE (mw t, cw c')) : Rh E M_L_refusal 1 [.ref 100, .int a0, .ref 19] (mw t, cw c) (some (.int 1)) (mw t, cw c') := by
  refine Rh.of hE pn_L (Nat.le_of_ble_eq_true rfl) ?_
  refine g_eq (S' := (0, [some (.ref 100), some (.int a0), some (.ref 19), none], [], (mw t, cw c))) rfl ?_
  refine g_aload_n d_L_refusal_0 rfl ?_
  refine g_iconst (v := 0) d_L_refusal_1 (by decide) ?_
  refine g_aload_n d_L_refusal_2 rfl ?_
  refine g_iload_n d_L_refusal_3 rfl ?_
  refine g_catchV (n := 0) (L' := [some (.ref 100), some (.int a0), some (.ref 19), none]) (As := [.int a0]) d_L_refusal_4 o_X11_refusal l_L_70 ⟨Nat.le_of_ble_eq_true rfl, Nat.le_of_ble_eq_true rfl⟩ hc rfl rfl rfl rfl rfl [] ⟨0, 9, 12, 41⟩ [] (List.cons_ne_nil _ _) rfl (fun _ q => absurd q List.not_mem_nil) rfl (by decide) kl_NSEE (List.mem_of_getElem? (i := 5) rfl) d_L_refusal_12 rfl rfl ?_ rfl
  refine g_iconst (v := 1) d_L_refusal_13 (by decide) ?_
  exact g_retI d_L_refusal_14 rfl rfl rfl
theorem d_L_refuses_0 : decode (mB M_L_refuses) 0 = .ok (.aload_n 3, 1) := by decide +kernel
theorem d_L_refuses_1 : decode (mB M_L_refuses) 1 = .ok (.iconst 0, 1) := by decide +kernel
theorem d_L_refuses_2 : decode (mB M_L_refuses) 2 = .ok (.aload_n 0, 1) := by decide +kernel
theorem d_L_refuses_3 : decode (mB M_L_refuses) 3 = .ok (.iload_n 1, 1) := by decide +kernel
theorem d_L_refuses_4 : decode (mB M_L_refuses) 4 = .ok (.iload_n 2, 1) := by decide +kernel
theorem d_L_refuses_5 : decode (mB M_L_refuses) 5 = .ok (.invokevirtual 73, 3) := by decide +kernel
theorem d_L_refuses_8 : decode (mB M_L_refuses) 8 = .ok (.i2l, 1) := by decide +kernel
theorem d_L_refuses_9 : decode (mB M_L_refuses) 9 = .ok (.lastore, 1) := by decide +kernel
theorem d_L_refuses_10 : decode (mB M_L_refuses) 10 = .ok (.goto 15, 3) := by decide +kernel
theorem d_L_refuses_13 : decode (mB M_L_refuses) 13 = .ok (.astore 4, 2) := by decide +kernel
theorem d_L_refuses_15 : decode (mB M_L_refuses) 15 = .ok (.iconst 1, 1) := by decide +kernel
theorem d_L_refuses_16 : decode (mB M_L_refuses) 16 = .ok (.ireturn, 1) := by decide +kernel
theorem d_L_refuses_17 : decode (mB M_L_refuses) 17 = .ok (.astore 4, 2) := by decide +kernel
theorem d_L_refuses_19 : decode (mB M_L_refuses) 19 = .ok (.iconst 2, 1) := by decide +kernel
theorem d_L_refuses_20 : decode (mB M_L_refuses) 20 = .ok (.ireturn, 1) := by decide +kernel
theorem d_L_refuses_21 : decode (mB M_L_refuses) 21 = .ok (.astore 4, 2) := by decide +kernel
theorem d_L_refuses_23 : decode (mB M_L_refuses) 23 = .ok (.iconst 3, 1) := by decide +kernel
theorem d_L_refuses_24 : decode (mB M_L_refuses) 24 = .ok (.ireturn, 1) := by decide +kernel
theorem d_L_refuses_25 : decode (mB M_L_refuses) 25 = .ok (.iconst 0, 1) := by decide +kernel
theorem d_L_refuses_26 : decode (mB M_L_refuses) 26 = .ok (.ireturn, 1) := by decide +kernel
theorem hA_refuses {E : mEnv} (hE : E.1.stackTraces = false) {t : xT} {c c' : cT} {a0 a1 : Int32} {v : Int32} (hc : Rt E M_X11_refuses 0 [.ref 100, .int a0, .int a1] (mw t, cw c) (some (.int v)) (mw t, cw c')) : Rh E M_L_refuses 0 [.ref 100, .int a0, .int a1, .ref 19] (mw t, cw c) (some (.int 0)) (mw (wo t (vp_updL (ro t) 0 v.toInt64)), cw c') := by
  refine Rh.of hE pn_L (Nat.le_of_ble_eq_true rfl) ?_
  refine g_eq (S' := (0, [some (.ref 100), some (.int a0), some (.int a1), some (.ref 19), none], [], (mw t, cw c))) rfl ?_
  refine g_aload_n d_L_refuses_0 rfl ?_
  refine g_iconst (v := 0) d_L_refuses_1 (by decide) ?_
  refine g_aload_n d_L_refuses_2 rfl ?_
  refine g_iload_n d_L_refuses_3 rfl ?_
  refine g_iload_n d_L_refuses_4 rfl ?_
  refine g_callV (As := [.int a0, .int a1]) d_L_refuses_5 o_X11_refuses l_L_73 ⟨Nat.le_of_ble_eq_true rfl, Nat.le_of_ble_eq_true rfl⟩ hc rfl rfl rfl rfl rfl rfl ?_ (Nat.zero_add _)
  refine g_i2l d_L_refuses_8 ?_
  refine g_last (f := ro t) (w' := (mw (wo t (vp_updL (ro t) 0 v.toInt64)), cw c')) d_L_refuses_9 rfl (show ¬ ((0 : Int32) < 0 ∨ 1 ≤ Int32.toNatClampNeg 0) by decide) rfl ?_
  refine g_goto (tgt := 25) d_L_refuses_10 (by decide) ?_
  refine g_iconst (v := 0) d_L_refuses_25 (by decide) ?_
  exact g_retI d_L_refuses_26 rfl rfl rfl
theorem hT_refuses_1 {E : mEnv} (hE : E.1.stackTraces = false) {t : xT} {c c' : cT} {a0 a1 : Int32} (hc : Rx E M_X11_refuses [.ref 100, .int a0, .int a1] (mw t, cw c) xIAE (mw t, cw c')) : Rh E M_L_refuses 1 [.ref 100, .int a0, .int a1, .ref 19] (mw t, cw c) (some (.int 1)) (mw t, cw c') := by
  refine Rh.of hE pn_L (Nat.le_of_ble_eq_true rfl) ?_
  refine g_eq (S' := (0, [some (.ref 100), some (.int a0), some (.int a1), some (.ref 19), none], [], (mw t, cw c))) rfl ?_
  refine g_aload_n d_L_refuses_0 rfl ?_
  refine g_iconst (v := 0) d_L_refuses_1 (by decide) ?_
  refine g_aload_n d_L_refuses_2 rfl ?_
  refine g_iload_n d_L_refuses_3 rfl ?_
  refine g_iload_n d_L_refuses_4 rfl ?_
  refine g_catchW (n := 0) (L' := [some (.ref 100), some (.int a0), some (.int a1), some (.ref 19), none]) (As := [.int a0, .int a1]) d_L_refuses_5 o_X11_refuses l_L_73 ⟨Nat.le_of_ble_eq_true rfl, Nat.le_of_ble_eq_true rfl⟩ hc rfl rfl rfl rfl rfl [] ⟨0, 10, 13, 13⟩ [⟨0, 10, 17, 15⟩, ⟨0, 10, 21, 27⟩] (List.cons_ne_nil _ _) rfl (fun _ q => absurd q List.not_mem_nil) rfl (by decide) kl_IAE (List.mem_of_getElem? (i := 1) rfl) d_L_refuses_13 rfl rfl ?_ rfl
  refine g_iconst (v := 1) d_L_refuses_15 (by decide) ?_
  exact g_retI d_L_refuses_16 rfl rfl rfl
theorem hT_refuses_2 {E : mEnv} (hE : E.1.stackTraces = false) {t : xT} {c c' : cT} {a0 a1 : Int32} (hc : Rx E M_X11_refuses [.ref 100, .int a0, .int a1] (mw t, cw c) xISE (mw t, cw c')) : Rh E M_L_refuses 1 [.ref 100, .int a0, .int a1, .ref 19] (mw t, cw c) (some (.int 2)) (mw t, cw c') := by
  refine Rh.of hE pn_L (Nat.le_of_ble_eq_true rfl) ?_
  refine g_eq (S' := (0, [some (.ref 100), some (.int a0), some (.int a1), some (.ref 19), none], [], (mw t, cw c))) rfl ?_
  refine g_aload_n d_L_refuses_0 rfl ?_
  refine g_iconst (v := 0) d_L_refuses_1 (by decide) ?_
  refine g_aload_n d_L_refuses_2 rfl ?_
  refine g_iload_n d_L_refuses_3 rfl ?_
  refine g_iload_n d_L_refuses_4 rfl ?_
  refine g_catchW (n := 0) (L' := [some (.ref 100), some (.int a0), some (.int a1), some (.ref 19), none]) (As := [.int a0, .int a1]) d_L_refuses_5 o_X11_refuses l_L_73 ⟨Nat.le_of_ble_eq_true rfl, Nat.le_of_ble_eq_true rfl⟩ hc rfl rfl rfl rfl rfl [⟨0, 10, 13, 13⟩] ⟨0, 10, 17, 15⟩ [⟨0, 10, 21, 27⟩] (List.cons_ne_nil _ _) rfl (List.forall_mem_cons.mpr ⟨Or.inr ⟨by decide, xIAE, kl_IAE, List.mem_of_getElem? (i := 11) rfl⟩, fun _ q => absurd q List.not_mem_nil⟩) rfl (by decide) kl_ISE (List.mem_of_getElem? (i := 2) rfl) d_L_refuses_17 rfl rfl ?_ rfl
  refine g_iconst (v := 2) d_L_refuses_19 (by decide) ?_
  exact g_retI d_L_refuses_20 rfl rfl rfl
theorem hT_refuses_3 {E : mEnv} (hE : E.1.stackTraces = false) {t : xT} {c c' : cT} {a0 a1 : Int32} (hc : Rx E M_X11_refuses [.ref 100, .int a0, .int a1] (mw t, cw c) xIOOBE (mw t, cw c')) : Rh E M_L_refuses 1 [.ref 100, .int a0, .int a1, .ref 19] (mw t, cw c) (some (.int 3)) (mw t, cw c') := by
  refine Rh.of hE pn_L (Nat.le_of_ble_eq_true rfl) ?_
  refine g_eq (S' := (0, [some (.ref 100), some (.int a0), some (.int a1), some (.ref 19), none], [], (mw t, cw c))) rfl ?_
  refine g_aload_n d_L_refuses_0 rfl ?_
  refine g_iconst (v := 0) d_L_refuses_1 (by decide) ?_
  refine g_aload_n d_L_refuses_2 rfl ?_
  refine g_iload_n d_L_refuses_3 rfl ?_
  refine g_iload_n d_L_refuses_4 rfl ?_
  refine g_catchW (n := 0) (L' := [some (.ref 100), some (.int a0), some (.int a1), some (.ref 19), none]) (As := [.int a0, .int a1]) d_L_refuses_5 o_X11_refuses l_L_73 ⟨Nat.le_of_ble_eq_true rfl, Nat.le_of_ble_eq_true rfl⟩ hc rfl rfl rfl rfl rfl [⟨0, 10, 13, 13⟩, ⟨0, 10, 17, 15⟩] ⟨0, 10, 21, 27⟩ [] (List.cons_ne_nil _ _) rfl (List.forall_mem_cons.mpr ⟨Or.inr ⟨by decide, xIAE, kl_IAE, List.mem_of_getElem? (i := 16) rfl⟩, List.forall_mem_cons.mpr ⟨Or.inr ⟨by decide, xISE, kl_ISE, List.mem_of_getElem? (i := 17) rfl⟩, fun _ q => absurd q List.not_mem_nil⟩⟩) rfl (by decide) kl_IOOBE (List.mem_of_getElem? (i := 3) rfl) d_L_refuses_21 rfl rfl ?_ rfl
  refine g_iconst (v := 3) d_L_refuses_23 (by decide) ?_
  exact g_retI d_L_refuses_24 rfl rfl rfl
theorem d_L_solve_0 : decode (mB M_L_solve) 0 = .ok (.aload_n 3, 1) := by decide +kernel
theorem d_L_solve_1 : decode (mB M_L_solve) 1 = .ok (.iconst 0, 1) := by decide +kernel
theorem d_L_solve_2 : decode (mB M_L_solve) 2 = .ok (.aload_n 0, 1) := by decide +kernel
theorem d_L_solve_3 : decode (mB M_L_solve) 3 = .ok (.iload_n 1, 1) := by decide +kernel
theorem d_L_solve_4 : decode (mB M_L_solve) 4 = .ok (.iload_n 2, 1) := by decide +kernel
theorem d_L_solve_5 : decode (mB M_L_solve) 5 = .ok (.invokevirtual 76, 3) := by decide +kernel
theorem d_L_solve_8 : decode (mB M_L_solve) 8 = .ok (.i2l, 1) := by decide +kernel
theorem d_L_solve_9 : decode (mB M_L_solve) 9 = .ok (.lastore, 1) := by decide +kernel
theorem d_L_solve_10 : decode (mB M_L_solve) 10 = .ok (.goto 19, 3) := by decide +kernel
theorem d_L_solve_13 : decode (mB M_L_solve) 13 = .ok (.astore 4, 2) := by decide +kernel
theorem d_L_solve_15 : decode (mB M_L_solve) 15 = .ok (.iconst 1, 1) := by decide +kernel
theorem d_L_solve_16 : decode (mB M_L_solve) 16 = .ok (.ireturn, 1) := by decide +kernel
theorem d_L_solve_17 : decode (mB M_L_solve) 17 = .ok (.astore 4, 2) := by decide +kernel
theorem d_L_solve_19 : decode (mB M_L_solve) 19 = .ok (.iconst 2, 1) := by decide +kernel
theorem d_L_solve_20 : decode (mB M_L_solve) 20 = .ok (.ireturn, 1) := by decide +kernel
theorem d_L_solve_21 : decode (mB M_L_solve) 21 = .ok (.astore 4, 2) := by decide +kernel
theorem d_L_solve_23 : decode (mB M_L_solve) 23 = .ok (.iconst 3, 1) := by decide +kernel
theorem d_L_solve_24 : decode (mB M_L_solve) 24 = .ok (.ireturn, 1) := by decide +kernel
theorem d_L_solve_25 : decode (mB M_L_solve) 25 = .ok (.astore 4, 2) := by decide +kernel
theorem d_L_solve_27 : decode (mB M_L_solve) 27 = .ok (.iconst 4, 1) := by decide +kernel
theorem d_L_solve_28 : decode (mB M_L_solve) 28 = .ok (.ireturn, 1) := by decide +kernel
theorem d_L_solve_29 : decode (mB M_L_solve) 29 = .ok (.iconst 0, 1) := by decide +kernel
theorem d_L_solve_30 : decode (mB M_L_solve) 30 = .ok (.ireturn, 1) := by decide +kernel
theorem hA_solve {E : mEnv} (hE : E.1.stackTraces = false) {t : xT} {c c' : cT} {a0 a1 : Int32} {v : Int32} (hc : Rt E M_X11_solve 0 [.ref 100, .int a0, .int a1] (mw t, cw c) (some (.int v)) (mw t, cw c')) : Rh E M_L_solve 0 [.ref 100, .int a0, .int a1, .ref 19] (mw t, cw c) (some (.int 0)) (mw (wo t (vp_updL (ro t) 0 v.toInt64)), cw c') := by
  refine Rh.of hE pn_L (Nat.le_of_ble_eq_true rfl) ?_
  refine g_eq (S' := (0, [some (.ref 100), some (.int a0), some (.int a1), some (.ref 19), none], [], (mw t, cw c))) rfl ?_
  refine g_aload_n d_L_solve_0 rfl ?_
  refine g_iconst (v := 0) d_L_solve_1 (by decide) ?_
  refine g_aload_n d_L_solve_2 rfl ?_
  refine g_iload_n d_L_solve_3 rfl ?_
  refine g_iload_n d_L_solve_4 rfl ?_
  refine g_callV (As := [.int a0, .int a1]) d_L_solve_5 o_X11_solve l_L_76 ⟨Nat.le_of_ble_eq_true rfl, Nat.le_of_ble_eq_true rfl⟩ hc rfl rfl rfl rfl rfl rfl ?_ (Nat.zero_add _)
  refine g_i2l d_L_solve_8 ?_
  refine g_last (f := ro t) (w' := (mw (wo t (vp_updL (ro t) 0 v.toInt64)), cw c')) d_L_solve_9 rfl (show ¬ ((0 : Int32) < 0 ∨ 1 ≤ Int32.toNatClampNeg 0) by decide) rfl ?_
  refine g_goto (tgt := 29) d_L_solve_10 (by decide) ?_
  refine g_iconst (v := 0) d_L_solve_29 (by decide) ?_
  exact g_retI d_L_solve_30 rfl rfl rfl
theorem hT_solve_1 {E : mEnv} (hE : E.1.stackTraces = false) {t : xT} {c c' : cT} {a0 a1 : Int32} (hc : Rx E M_X11_solve [.ref 100, .int a0, .int a1] (mw t, cw c) xIAE (mw t, cw c')) : Rh E M_L_solve 1 [.ref 100, .int a0, .int a1, .ref 19] (mw t, cw c) (some (.int 1)) (mw t, cw c') := by
  refine Rh.of hE pn_L (Nat.le_of_ble_eq_true rfl) ?_
  refine g_eq (S' := (0, [some (.ref 100), some (.int a0), some (.int a1), some (.ref 19), none], [], (mw t, cw c))) rfl ?_
  refine g_aload_n d_L_solve_0 rfl ?_
  refine g_iconst (v := 0) d_L_solve_1 (by decide) ?_
  refine g_aload_n d_L_solve_2 rfl ?_
  refine g_iload_n d_L_solve_3 rfl ?_
  refine g_iload_n d_L_solve_4 rfl ?_
  refine g_catchW (n := 0) (L' := [some (.ref 100), some (.int a0), some (.int a1), some (.ref 19), none]) (As := [.int a0, .int a1]) d_L_solve_5 o_X11_solve l_L_76 ⟨Nat.le_of_ble_eq_true rfl, Nat.le_of_ble_eq_true rfl⟩ hc rfl rfl rfl rfl rfl [] ⟨0, 10, 13, 13⟩ [⟨0, 10, 17, 15⟩, ⟨0, 10, 21, 21⟩, ⟨0, 10, 25, 41⟩] (List.cons_ne_nil _ _) rfl (fun _ q => absurd q List.not_mem_nil) rfl (by decide) kl_IAE (List.mem_of_getElem? (i := 1) rfl) d_L_solve_13 rfl rfl ?_ rfl
  refine g_iconst (v := 1) d_L_solve_15 (by decide) ?_
  exact g_retI d_L_solve_16 rfl rfl rfl
theorem hT_solve_2 {E : mEnv} (hE : E.1.stackTraces = false) {t : xT} {c c' : cT} {a0 a1 : Int32} (hc : Rx E M_X11_solve [.ref 100, .int a0, .int a1] (mw t, cw c) xISE (mw t, cw c')) : Rh E M_L_solve 1 [.ref 100, .int a0, .int a1, .ref 19] (mw t, cw c) (some (.int 2)) (mw t, cw c') := by
  refine Rh.of hE pn_L (Nat.le_of_ble_eq_true rfl) ?_
  refine g_eq (S' := (0, [some (.ref 100), some (.int a0), some (.int a1), some (.ref 19), none], [], (mw t, cw c))) rfl ?_
  refine g_aload_n d_L_solve_0 rfl ?_
  refine g_iconst (v := 0) d_L_solve_1 (by decide) ?_
  refine g_aload_n d_L_solve_2 rfl ?_
  refine g_iload_n d_L_solve_3 rfl ?_
  refine g_iload_n d_L_solve_4 rfl ?_
  refine g_catchW (n := 0) (L' := [some (.ref 100), some (.int a0), some (.int a1), some (.ref 19), none]) (As := [.int a0, .int a1]) d_L_solve_5 o_X11_solve l_L_76 ⟨Nat.le_of_ble_eq_true rfl, Nat.le_of_ble_eq_true rfl⟩ hc rfl rfl rfl rfl rfl [⟨0, 10, 13, 13⟩] ⟨0, 10, 17, 15⟩ [⟨0, 10, 21, 21⟩, ⟨0, 10, 25, 41⟩] (List.cons_ne_nil _ _) rfl (List.forall_mem_cons.mpr ⟨Or.inr ⟨by decide, xIAE, kl_IAE, List.mem_of_getElem? (i := 11) rfl⟩, fun _ q => absurd q List.not_mem_nil⟩) rfl (by decide) kl_ISE (List.mem_of_getElem? (i := 2) rfl) d_L_solve_17 rfl rfl ?_ rfl
  refine g_iconst (v := 2) d_L_solve_19 (by decide) ?_
  exact g_retI d_L_solve_20 rfl rfl rfl
theorem hT_solve_3 {E : mEnv} (hE : E.1.stackTraces = false) {t : xT} {c c' : cT} {a0 a1 : Int32} (hc : Rx E M_X11_solve [.ref 100, .int a0, .int a1] (mw t, cw c) xAE (mw t, cw c')) : Rh E M_L_solve 1 [.ref 100, .int a0, .int a1, .ref 19] (mw t, cw c) (some (.int 3)) (mw t, cw c') := by
  refine Rh.of hE pn_L (Nat.le_of_ble_eq_true rfl) ?_
  refine g_eq (S' := (0, [some (.ref 100), some (.int a0), some (.int a1), some (.ref 19), none], [], (mw t, cw c))) rfl ?_
  refine g_aload_n d_L_solve_0 rfl ?_
  refine g_iconst (v := 0) d_L_solve_1 (by decide) ?_
  refine g_aload_n d_L_solve_2 rfl ?_
  refine g_iload_n d_L_solve_3 rfl ?_
  refine g_iload_n d_L_solve_4 rfl ?_
  refine g_catchW (n := 0) (L' := [some (.ref 100), some (.int a0), some (.int a1), some (.ref 19), none]) (As := [.int a0, .int a1]) d_L_solve_5 o_X11_solve l_L_76 ⟨Nat.le_of_ble_eq_true rfl, Nat.le_of_ble_eq_true rfl⟩ hc rfl rfl rfl rfl rfl [⟨0, 10, 13, 13⟩, ⟨0, 10, 17, 15⟩] ⟨0, 10, 21, 21⟩ [⟨0, 10, 25, 41⟩] (List.cons_ne_nil _ _) rfl (List.forall_mem_cons.mpr ⟨Or.inr ⟨by decide, xIAE, kl_IAE, List.mem_of_getElem? (i := 0) rfl⟩, List.forall_mem_cons.mpr ⟨Or.inr ⟨by decide, xISE, kl_ISE, List.mem_of_getElem? (i := 1) rfl⟩, fun _ q => absurd q List.not_mem_nil⟩⟩) rfl (by decide) kl_AE (List.mem_of_getElem? (i := 0) rfl) d_L_solve_21 rfl rfl ?_ rfl
  refine g_iconst (v := 3) d_L_solve_23 (by decide) ?_
  exact g_retI d_L_solve_24 rfl rfl rfl
theorem hT_solve_4 {E : mEnv} (hE : E.1.stackTraces = false) {t : xT} {c c' : cT} {a0 a1 : Int32} (hc : Rx E M_X11_solve [.ref 100, .int a0, .int a1] (mw t, cw c) xNSEE (mw t, cw c')) : Rh E M_L_solve 1 [.ref 100, .int a0, .int a1, .ref 19] (mw t, cw c) (some (.int 4)) (mw t, cw c') := by
  refine Rh.of hE pn_L (Nat.le_of_ble_eq_true rfl) ?_
  refine g_eq (S' := (0, [some (.ref 100), some (.int a0), some (.int a1), some (.ref 19), none], [], (mw t, cw c))) rfl ?_
  refine g_aload_n d_L_solve_0 rfl ?_
  refine g_iconst (v := 0) d_L_solve_1 (by decide) ?_
  refine g_aload_n d_L_solve_2 rfl ?_
  refine g_iload_n d_L_solve_3 rfl ?_
  refine g_iload_n d_L_solve_4 rfl ?_
  refine g_catchW (n := 0) (L' := [some (.ref 100), some (.int a0), some (.int a1), some (.ref 19), none]) (As := [.int a0, .int a1]) d_L_solve_5 o_X11_solve l_L_76 ⟨Nat.le_of_ble_eq_true rfl, Nat.le_of_ble_eq_true rfl⟩ hc rfl rfl rfl rfl rfl [⟨0, 10, 13, 13⟩, ⟨0, 10, 17, 15⟩, ⟨0, 10, 21, 21⟩] ⟨0, 10, 25, 41⟩ [] (List.cons_ne_nil _ _) rfl (List.forall_mem_cons.mpr ⟨Or.inr ⟨by decide, xIAE, kl_IAE, List.mem_of_getElem? (i := 26) rfl⟩, List.forall_mem_cons.mpr ⟨Or.inr ⟨by decide, xISE, kl_ISE, List.mem_of_getElem? (i := 27) rfl⟩, List.forall_mem_cons.mpr ⟨Or.inr ⟨by decide, xAE, kl_AE, List.mem_of_getElem? (i := 25) rfl⟩, fun _ q => absurd q List.not_mem_nil⟩⟩⟩) rfl (by decide) kl_NSEE (List.mem_of_getElem? (i := 5) rfl) d_L_solve_25 rfl rfl ?_ rfl
  refine g_iconst (v := 4) d_L_solve_27 (by decide) ?_
  exact g_retI d_L_solve_28 rfl rfl rfl
theorem d_L_solution_0 : decode (mB M_L_solution) 0 = .ok (.aload_n 3, 1) := by decide +kernel
theorem d_L_solution_1 : decode (mB M_L_solution) 1 = .ok (.iconst 0, 1) := by decide +kernel
theorem d_L_solution_2 : decode (mB M_L_solution) 2 = .ok (.aload_n 0, 1) := by decide +kernel
theorem d_L_solution_3 : decode (mB M_L_solution) 3 = .ok (.iload_n 1, 1) := by decide +kernel
theorem d_L_solution_4 : decode (mB M_L_solution) 4 = .ok (.iload_n 2, 1) := by decide +kernel
theorem d_L_solution_5 : decode (mB M_L_solution) 5 = .ok (.invokevirtual 80, 3) := by decide +kernel
theorem d_L_solution_8 : decode (mB M_L_solution) 8 = .ok (.i2l, 1) := by decide +kernel
theorem d_L_solution_9 : decode (mB M_L_solution) 9 = .ok (.lastore, 1) := by decide +kernel
theorem d_L_solution_10 : decode (mB M_L_solution) 10 = .ok (.goto 7, 3) := by decide +kernel
theorem d_L_solution_13 : decode (mB M_L_solution) 13 = .ok (.astore 4, 2) := by decide +kernel
theorem d_L_solution_15 : decode (mB M_L_solution) 15 = .ok (.iconst 1, 1) := by decide +kernel
theorem d_L_solution_16 : decode (mB M_L_solution) 16 = .ok (.ireturn, 1) := by decide +kernel
theorem d_L_solution_17 : decode (mB M_L_solution) 17 = .ok (.iconst 0, 1) := by decide +kernel
theorem d_L_solution_18 : decode (mB M_L_solution) 18 = .ok (.ireturn, 1) := by decide +kernel
theorem hA_solution {E : mEnv} (hE : E.1.stackTraces = false) {t : xT} {c c' : cT} {a0 a1 : Int32} {v : Int32} (hc : Rt E M_X11_solution 0 [.ref 100, .int a0, .int a1] (mw t, cw c) (some (.int v)) (mw t, cw c')) : Rh E M_L_solution 0 [.ref 100, .int a0, .int a1, .ref 19] (mw t, cw c) (some (.int 0)) (mw (wo t (vp_updL (ro t) 0 v.toInt64)), cw c') := by
  refine Rh.of hE pn_L (Nat.le_of_ble_eq_true rfl) ?_
  refine g_eq (S' := (0, [some (.ref 100), some (.int a0), some (.int a1), some (.ref 19), none], [], (mw t, cw c))) rfl ?_
  refine g_aload_n d_L_solution_0 rfl ?_
  refine g_iconst (v := 0) d_L_solution_1 (by decide) ?_
  refine g_aload_n d_L_solution_2 rfl ?_
  refine g_iload_n d_L_solution_3 rfl ?_
  refine g_iload_n d_L_solution_4 rfl ?_
  refine g_callV (As := [.int a0, .int a1]) d_L_solution_5 o_X11_solution l_L_80 ⟨Nat.le_of_ble_eq_true rfl, Nat.le_of_ble_eq_true rfl⟩ hc rfl rfl rfl rfl rfl rfl ?_ (Nat.zero_add _)
  refine g_i2l d_L_solution_8 ?_
  refine g_last (f := ro t) (w' := (mw (wo t (vp_updL (ro t) 0 v.toInt64)), cw c')) d_L_solution_9 rfl (show ¬ ((0 : Int32) < 0 ∨ 1 ≤ Int32.toNatClampNeg 0) by decide) rfl ?_
  refine g_goto (tgt := 17) d_L_solution_10 (by decide) ?_
  refine g_iconst (v := 0) d_L_solution_17 (by decide) ?_
  exact g_retI d_L_solution_18 rfl rfl rfl
theorem hT_solution_1 {E : mEnv} (hE : E.1.stackTraces = false) {t : xT} {c c' : cT} {a0 a1 : Int32} (hc : Rx E M_X11_solution [.ref 100, .int a0, .int a1] (mw t, cw c) xNSEE (mw t, cw c')) : Rh E M_L_solution 1 [.ref 100, .int a0, .int a1, .ref 19] (mw t, cw c) (some (.int 1)) (mw t, cw c') := by
  refine Rh.of hE pn_L (Nat.le_of_ble_eq_true rfl) ?_
  refine g_eq (S' := (0, [some (.ref 100), some (.int a0), some (.int a1), some (.ref 19), none], [], (mw t, cw c))) rfl ?_
  refine g_aload_n d_L_solution_0 rfl ?_
  refine g_iconst (v := 0) d_L_solution_1 (by decide) ?_
  refine g_aload_n d_L_solution_2 rfl ?_
  refine g_iload_n d_L_solution_3 rfl ?_
  refine g_iload_n d_L_solution_4 rfl ?_
  refine g_catchW (n := 0) (L' := [some (.ref 100), some (.int a0), some (.int a1), some (.ref 19), none]) (As := [.int a0, .int a1]) d_L_solution_5 o_X11_solution l_L_80 ⟨Nat.le_of_ble_eq_true rfl, Nat.le_of_ble_eq_true rfl⟩ hc rfl rfl rfl rfl rfl [] ⟨0, 10, 13, 41⟩ [] (List.cons_ne_nil _ _) rfl (fun _ q => absurd q List.not_mem_nil) rfl (by decide) kl_NSEE (List.mem_of_getElem? (i := 5) rfl) d_L_solution_13 rfl rfl ?_ rfl
  refine g_iconst (v := 1) d_L_solution_15 (by decide) ?_
  exact g_retI d_L_solution_16 rfl rfl rfl
theorem d_L_finish_0 : decode (mB M_L_finish) 0 = .ok (.aload_n 2, 1) := by decide +kernel
theorem d_L_finish_1 : decode (mB M_L_finish) 1 = .ok (.iconst 0, 1) := by decide +kernel
theorem d_L_finish_2 : decode (mB M_L_finish) 2 = .ok (.aload_n 0, 1) := by decide +kernel
theorem d_L_finish_3 : decode (mB M_L_finish) 3 = .ok (.iload_n 1, 1) := by decide +kernel
theorem d_L_finish_4 : decode (mB M_L_finish) 4 = .ok (.invokevirtual 83, 3) := by decide +kernel
theorem d_L_finish_7 : decode (mB M_L_finish) 7 = .ok (.i2l, 1) := by decide +kernel
theorem d_L_finish_8 : decode (mB M_L_finish) 8 = .ok (.lastore, 1) := by decide +kernel
theorem d_L_finish_9 : decode (mB M_L_finish) 9 = .ok (.goto 15, 3) := by decide +kernel
theorem d_L_finish_12 : decode (mB M_L_finish) 12 = .ok (.astore_n 3, 1) := by decide +kernel
theorem d_L_finish_13 : decode (mB M_L_finish) 13 = .ok (.iconst 1, 1) := by decide +kernel
theorem d_L_finish_14 : decode (mB M_L_finish) 14 = .ok (.ireturn, 1) := by decide +kernel
theorem d_L_finish_15 : decode (mB M_L_finish) 15 = .ok (.astore_n 3, 1) := by decide +kernel
theorem d_L_finish_16 : decode (mB M_L_finish) 16 = .ok (.iconst 2, 1) := by decide +kernel
theorem d_L_finish_17 : decode (mB M_L_finish) 17 = .ok (.ireturn, 1) := by decide +kernel
theorem d_L_finish_18 : decode (mB M_L_finish) 18 = .ok (.astore_n 3, 1) := by decide +kernel
theorem d_L_finish_19 : decode (mB M_L_finish) 19 = .ok (.iconst 3, 1) := by decide +kernel
theorem d_L_finish_20 : decode (mB M_L_finish) 20 = .ok (.ireturn, 1) := by decide +kernel
theorem d_L_finish_21 : decode (mB M_L_finish) 21 = .ok (.astore_n 3, 1) := by decide +kernel
theorem d_L_finish_22 : decode (mB M_L_finish) 22 = .ok (.iconst 4, 1) := by decide +kernel
theorem d_L_finish_23 : decode (mB M_L_finish) 23 = .ok (.ireturn, 1) := by decide +kernel
theorem d_L_finish_24 : decode (mB M_L_finish) 24 = .ok (.iconst 0, 1) := by decide +kernel
theorem d_L_finish_25 : decode (mB M_L_finish) 25 = .ok (.ireturn, 1) := by decide +kernel
theorem hA_finish {E : mEnv} (hE : E.1.stackTraces = false) {t : xT} {c c' : cT} {a0 : Int32} {v : Int32} (hc : Rt E M_X11_finish 0 [.ref 100, .int a0] (mw t, cw c) (some (.int v)) (mw t, cw c')) : Rh E M_L_finish 0 [.ref 100, .int a0, .ref 19] (mw t, cw c) (some (.int 0)) (mw (wo t (vp_updL (ro t) 0 v.toInt64)), cw c') := by
  refine Rh.of hE pn_L (Nat.le_of_ble_eq_true rfl) ?_
  refine g_eq (S' := (0, [some (.ref 100), some (.int a0), some (.ref 19), none], [], (mw t, cw c))) rfl ?_
  refine g_aload_n d_L_finish_0 rfl ?_
  refine g_iconst (v := 0) d_L_finish_1 (by decide) ?_
  refine g_aload_n d_L_finish_2 rfl ?_
  refine g_iload_n d_L_finish_3 rfl ?_
  refine g_callV (As := [.int a0]) d_L_finish_4 o_X11_finish l_L_83 ⟨Nat.le_of_ble_eq_true rfl, Nat.le_of_ble_eq_true rfl⟩ hc rfl rfl rfl rfl rfl rfl ?_ (Nat.zero_add _)
  refine g_i2l d_L_finish_7 ?_
  refine g_last (f := ro t) (w' := (mw (wo t (vp_updL (ro t) 0 v.toInt64)), cw c')) d_L_finish_8 rfl (show ¬ ((0 : Int32) < 0 ∨ 1 ≤ Int32.toNatClampNeg 0) by decide) rfl ?_
  refine g_goto (tgt := 24) d_L_finish_9 (by decide) ?_
  refine g_iconst (v := 0) d_L_finish_24 (by decide) ?_
  exact g_retI d_L_finish_25 rfl rfl rfl
theorem hT_finish_1 {E : mEnv} (hE : E.1.stackTraces = false) {t : xT} {c c' : cT} {a0 : Int32} (hc : Rx E M_X11_finish [.ref 100, .int a0] (mw t, cw c) xIAE (mw t, cw c')) : Rh E M_L_finish 1 [.ref 100, .int a0, .ref 19] (mw t, cw c) (some (.int 1)) (mw t, cw c') := by
  refine Rh.of hE pn_L (Nat.le_of_ble_eq_true rfl) ?_
  refine g_eq (S' := (0, [some (.ref 100), some (.int a0), some (.ref 19), none], [], (mw t, cw c))) rfl ?_
  refine g_aload_n d_L_finish_0 rfl ?_
  refine g_iconst (v := 0) d_L_finish_1 (by decide) ?_
  refine g_aload_n d_L_finish_2 rfl ?_
  refine g_iload_n d_L_finish_3 rfl ?_
  refine g_catchV (n := 0) (L' := [some (.ref 100), some (.int a0), some (.ref 19), none]) (As := [.int a0]) d_L_finish_4 o_X11_finish l_L_83 ⟨Nat.le_of_ble_eq_true rfl, Nat.le_of_ble_eq_true rfl⟩ hc rfl rfl rfl rfl rfl [] ⟨0, 9, 12, 13⟩ [⟨0, 9, 15, 15⟩, ⟨0, 9, 18, 21⟩, ⟨0, 9, 21, 41⟩] (List.cons_ne_nil _ _) rfl (fun _ q => absurd q List.not_mem_nil) rfl (by decide) kl_IAE (List.mem_of_getElem? (i := 1) rfl) d_L_finish_12 rfl rfl ?_ rfl
  refine g_iconst (v := 1) d_L_finish_13 (by decide) ?_
  exact g_retI d_L_finish_14 rfl rfl rfl
theorem hT_finish_2 {E : mEnv} (hE : E.1.stackTraces = false) {t : xT} {c c' : cT} {a0 : Int32} (hc : Rx E M_X11_finish [.ref 100, .int a0] (mw t, cw c) xISE (mw t, cw c')) : Rh E M_L_finish 1 [.ref 100, .int a0, .ref 19] (mw t, cw c) (some (.int 2)) (mw t, cw c') := by
  refine Rh.of hE pn_L (Nat.le_of_ble_eq_true rfl) ?_
  refine g_eq (S' := (0, [some (.ref 100), some (.int a0), some (.ref 19), none], [], (mw t, cw c))) rfl ?_
  refine g_aload_n d_L_finish_0 rfl ?_
  refine g_iconst (v := 0) d_L_finish_1 (by decide) ?_
  refine g_aload_n d_L_finish_2 rfl ?_
  refine g_iload_n d_L_finish_3 rfl ?_
  refine g_catchV (n := 0) (L' := [some (.ref 100), some (.int a0), some (.ref 19), none]) (As := [.int a0]) d_L_finish_4 o_X11_finish l_L_83 ⟨Nat.le_of_ble_eq_true rfl, Nat.le_of_ble_eq_true rfl⟩ hc rfl rfl rfl rfl rfl [⟨0, 9, 12, 13⟩] ⟨0, 9, 15, 15⟩ [⟨0, 9, 18, 21⟩, ⟨0, 9, 21, 41⟩] (List.cons_ne_nil _ _) rfl (List.forall_mem_cons.mpr ⟨Or.inr ⟨by decide, xIAE, kl_IAE, List.mem_of_getElem? (i := 11) rfl⟩, fun _ q => absurd q List.not_mem_nil⟩) rfl (by decide) kl_ISE (List.mem_of_getElem? (i := 2) rfl) d_L_finish_15 rfl rfl ?_ rfl
  refine g_iconst (v := 2) d_L_finish_16 (by decide) ?_
  exact g_retI d_L_finish_17 rfl rfl rfl
theorem hT_finish_3 {E : mEnv} (hE : E.1.stackTraces = false) {t : xT} {c c' : cT} {a0 : Int32} (hc : Rx E M_X11_finish [.ref 100, .int a0] (mw t, cw c) xAE (mw t, cw c')) : Rh E M_L_finish 1 [.ref 100, .int a0, .ref 19] (mw t, cw c) (some (.int 3)) (mw t, cw c') := by
  refine Rh.of hE pn_L (Nat.le_of_ble_eq_true rfl) ?_
  refine g_eq (S' := (0, [some (.ref 100), some (.int a0), some (.ref 19), none], [], (mw t, cw c))) rfl ?_
  refine g_aload_n d_L_finish_0 rfl ?_
  refine g_iconst (v := 0) d_L_finish_1 (by decide) ?_
  refine g_aload_n d_L_finish_2 rfl ?_
  refine g_iload_n d_L_finish_3 rfl ?_
  refine g_catchV (n := 0) (L' := [some (.ref 100), some (.int a0), some (.ref 19), none]) (As := [.int a0]) d_L_finish_4 o_X11_finish l_L_83 ⟨Nat.le_of_ble_eq_true rfl, Nat.le_of_ble_eq_true rfl⟩ hc rfl rfl rfl rfl rfl [⟨0, 9, 12, 13⟩, ⟨0, 9, 15, 15⟩] ⟨0, 9, 18, 21⟩ [⟨0, 9, 21, 41⟩] (List.cons_ne_nil _ _) rfl (List.forall_mem_cons.mpr ⟨Or.inr ⟨by decide, xIAE, kl_IAE, List.mem_of_getElem? (i := 0) rfl⟩, List.forall_mem_cons.mpr ⟨Or.inr ⟨by decide, xISE, kl_ISE, List.mem_of_getElem? (i := 1) rfl⟩, fun _ q => absurd q List.not_mem_nil⟩⟩) rfl (by decide) kl_AE (List.mem_of_getElem? (i := 0) rfl) d_L_finish_18 rfl rfl ?_ rfl
  refine g_iconst (v := 3) d_L_finish_19 (by decide) ?_
  exact g_retI d_L_finish_20 rfl rfl rfl
theorem hT_finish_4 {E : mEnv} (hE : E.1.stackTraces = false) {t : xT} {c c' : cT} {a0 : Int32} (hc : Rx E M_X11_finish [.ref 100, .int a0] (mw t, cw c) xNSEE (mw t, cw c')) : Rh E M_L_finish 1 [.ref 100, .int a0, .ref 19] (mw t, cw c) (some (.int 4)) (mw t, cw c') := by
  refine Rh.of hE pn_L (Nat.le_of_ble_eq_true rfl) ?_
  refine g_eq (S' := (0, [some (.ref 100), some (.int a0), some (.ref 19), none], [], (mw t, cw c))) rfl ?_
  refine g_aload_n d_L_finish_0 rfl ?_
  refine g_iconst (v := 0) d_L_finish_1 (by decide) ?_
  refine g_aload_n d_L_finish_2 rfl ?_
  refine g_iload_n d_L_finish_3 rfl ?_
  refine g_catchV (n := 0) (L' := [some (.ref 100), some (.int a0), some (.ref 19), none]) (As := [.int a0]) d_L_finish_4 o_X11_finish l_L_83 ⟨Nat.le_of_ble_eq_true rfl, Nat.le_of_ble_eq_true rfl⟩ hc rfl rfl rfl rfl rfl [⟨0, 9, 12, 13⟩, ⟨0, 9, 15, 15⟩, ⟨0, 9, 18, 21⟩] ⟨0, 9, 21, 41⟩ [] (List.cons_ne_nil _ _) rfl (List.forall_mem_cons.mpr ⟨Or.inr ⟨by decide, xIAE, kl_IAE, List.mem_of_getElem? (i := 26) rfl⟩, List.forall_mem_cons.mpr ⟨Or.inr ⟨by decide, xISE, kl_ISE, List.mem_of_getElem? (i := 27) rfl⟩, List.forall_mem_cons.mpr ⟨Or.inr ⟨by decide, xAE, kl_AE, List.mem_of_getElem? (i := 25) rfl⟩, fun _ q => absurd q List.not_mem_nil⟩⟩⟩) rfl (by decide) kl_NSEE (List.mem_of_getElem? (i := 5) rfl) d_L_finish_21 rfl rfl ?_ rfl
  refine g_iconst (v := 4) d_L_finish_22 (by decide) ?_
  exact g_retI d_L_finish_23 rfl rfl rfl
theorem d_L_recorded_0 : decode (mB M_L_recorded) 0 = .ok (.aload_n 2, 1) := by decide +kernel
theorem d_L_recorded_1 : decode (mB M_L_recorded) 1 = .ok (.iconst 0, 1) := by decide +kernel
theorem d_L_recorded_2 : decode (mB M_L_recorded) 2 = .ok (.aload_n 0, 1) := by decide +kernel
theorem d_L_recorded_3 : decode (mB M_L_recorded) 3 = .ok (.iload_n 1, 1) := by decide +kernel
theorem d_L_recorded_4 : decode (mB M_L_recorded) 4 = .ok (.invokevirtual 86, 3) := by decide +kernel
theorem d_L_recorded_7 : decode (mB M_L_recorded) 7 = .ok (.i2l, 1) := by decide +kernel
theorem d_L_recorded_8 : decode (mB M_L_recorded) 8 = .ok (.lastore, 1) := by decide +kernel
theorem d_L_recorded_9 : decode (mB M_L_recorded) 9 = .ok (.goto 6, 3) := by decide +kernel
theorem d_L_recorded_12 : decode (mB M_L_recorded) 12 = .ok (.astore_n 3, 1) := by decide +kernel
theorem d_L_recorded_13 : decode (mB M_L_recorded) 13 = .ok (.iconst 1, 1) := by decide +kernel
theorem d_L_recorded_14 : decode (mB M_L_recorded) 14 = .ok (.ireturn, 1) := by decide +kernel
theorem d_L_recorded_15 : decode (mB M_L_recorded) 15 = .ok (.iconst 0, 1) := by decide +kernel
theorem d_L_recorded_16 : decode (mB M_L_recorded) 16 = .ok (.ireturn, 1) := by decide +kernel
theorem hA_recorded {E : mEnv} (hE : E.1.stackTraces = false) {t : xT} {c c' : cT} {a0 : Int32} {v : Int32} (hc : Rt E M_X11_recorded 0 [.ref 100, .int a0] (mw t, cw c) (some (.int v)) (mw t, cw c')) : Rh E M_L_recorded 0 [.ref 100, .int a0, .ref 19] (mw t, cw c) (some (.int 0)) (mw (wo t (vp_updL (ro t) 0 v.toInt64)), cw c') := by
  refine Rh.of hE pn_L (Nat.le_of_ble_eq_true rfl) ?_
  refine g_eq (S' := (0, [some (.ref 100), some (.int a0), some (.ref 19), none], [], (mw t, cw c))) rfl ?_
  refine g_aload_n d_L_recorded_0 rfl ?_
  refine g_iconst (v := 0) d_L_recorded_1 (by decide) ?_
  refine g_aload_n d_L_recorded_2 rfl ?_
  refine g_iload_n d_L_recorded_3 rfl ?_
  refine g_callV (As := [.int a0]) d_L_recorded_4 o_X11_recorded l_L_86 ⟨Nat.le_of_ble_eq_true rfl, Nat.le_of_ble_eq_true rfl⟩ hc rfl rfl rfl rfl rfl rfl ?_ (Nat.zero_add _)
  refine g_i2l d_L_recorded_7 ?_
  refine g_last (f := ro t) (w' := (mw (wo t (vp_updL (ro t) 0 v.toInt64)), cw c')) d_L_recorded_8 rfl (show ¬ ((0 : Int32) < 0 ∨ 1 ≤ Int32.toNatClampNeg 0) by decide) rfl ?_
  refine g_goto (tgt := 15) d_L_recorded_9 (by decide) ?_
  refine g_iconst (v := 0) d_L_recorded_15 (by decide) ?_
  exact g_retI d_L_recorded_16 rfl rfl rfl
theorem hT_recorded_1 {E : mEnv} (hE : E.1.stackTraces = false) {t : xT} {c c' : cT} {a0 : Int32} (hc : Rx E M_X11_recorded [.ref 100, .int a0] (mw t, cw c) xIOOBE (mw t, cw c')) : Rh E M_L_recorded 1 [.ref 100, .int a0, .ref 19] (mw t, cw c) (some (.int 1)) (mw t, cw c') := by
  refine Rh.of hE pn_L (Nat.le_of_ble_eq_true rfl) ?_
  refine g_eq (S' := (0, [some (.ref 100), some (.int a0), some (.ref 19), none], [], (mw t, cw c))) rfl ?_
  refine g_aload_n d_L_recorded_0 rfl ?_
  refine g_iconst (v := 0) d_L_recorded_1 (by decide) ?_
  refine g_aload_n d_L_recorded_2 rfl ?_
  refine g_iload_n d_L_recorded_3 rfl ?_
  refine g_catchV (n := 0) (L' := [some (.ref 100), some (.int a0), some (.ref 19), none]) (As := [.int a0]) d_L_recorded_4 o_X11_recorded l_L_86 ⟨Nat.le_of_ble_eq_true rfl, Nat.le_of_ble_eq_true rfl⟩ hc rfl rfl rfl rfl rfl [] ⟨0, 9, 12, 27⟩ [] (List.cons_ne_nil _ _) rfl (fun _ q => absurd q List.not_mem_nil) rfl (by decide) kl_IOOBE (List.mem_of_getElem? (i := 3) rfl) d_L_recorded_12 rfl rfl ?_ rfl
  refine g_iconst (v := 1) d_L_recorded_13 (by decide) ?_
  exact g_retI d_L_recorded_14 rfl rfl rfl
theorem d_L_isReplayed_0 : decode (mB M_L_isReplayed) 0 = .ok (.aload_n 1, 1) := by decide +kernel
theorem d_L_isReplayed_1 : decode (mB M_L_isReplayed) 1 = .ok (.iconst 0, 1) := by decide +kernel
theorem d_L_isReplayed_2 : decode (mB M_L_isReplayed) 2 = .ok (.aload_n 0, 1) := by decide +kernel
theorem d_L_isReplayed_3 : decode (mB M_L_isReplayed) 3 = .ok (.invokevirtual 90, 3) := by decide +kernel
theorem d_L_isReplayed_6 : decode (mB M_L_isReplayed) 6 = .ok (.ifCond .eq 7, 3) := by decide +kernel
theorem d_L_isReplayed_9 : decode (mB M_L_isReplayed) 9 = .ok (.lconst 1, 1) := by decide +kernel
theorem d_L_isReplayed_10 : decode (mB M_L_isReplayed) 10 = .ok (.goto 4, 3) := by decide +kernel
theorem d_L_isReplayed_13 : decode (mB M_L_isReplayed) 13 = .ok (.lconst 0, 1) := by decide +kernel
theorem d_L_isReplayed_14 : decode (mB M_L_isReplayed) 14 = .ok (.lastore, 1) := by decide +kernel
theorem d_L_isReplayed_15 : decode (mB M_L_isReplayed) 15 = .ok (.goto 6, 3) := by decide +kernel
theorem d_L_isReplayed_18 : decode (mB M_L_isReplayed) 18 = .ok (.astore_n 2, 1) := by decide +kernel
theorem d_L_isReplayed_19 : decode (mB M_L_isReplayed) 19 = .ok (.iconst 1, 1) := by decide +kernel
theorem d_L_isReplayed_20 : decode (mB M_L_isReplayed) 20 = .ok (.ireturn, 1) := by decide +kernel
theorem d_L_isReplayed_21 : decode (mB M_L_isReplayed) 21 = .ok (.iconst 0, 1) := by decide +kernel
theorem d_L_isReplayed_22 : decode (mB M_L_isReplayed) 22 = .ok (.ireturn, 1) := by decide +kernel
theorem hA_isReplayed {E : mEnv} (hE : E.1.stackTraces = false) {t : xT} {c c' : cT} {v : Int32} (hc : Rt E M_X11_isReplayed 0 [.ref 100] (mw t, cw c) (some (.int v)) (mw t, cw c')) : Rh E M_L_isReplayed 0 [.ref 100, .ref 19] (mw t, cw c) (some (.int 0)) (mw (wo t (vp_updL (ro t) 0 (if v = 0 then 0 else 1))), cw c') := by
  refine Rh.of hE pn_L (Nat.le_of_ble_eq_true rfl) ?_
  refine g_eq (S' := (0, [some (.ref 100), some (.ref 19), none], [], (mw t, cw c))) rfl ?_
  refine g_aload_n d_L_isReplayed_0 rfl ?_
  refine g_iconst (v := 0) d_L_isReplayed_1 (by decide) ?_
  refine g_aload_n d_L_isReplayed_2 rfl ?_
  refine g_callV (As := []) d_L_isReplayed_3 o_X11_isReplayed l_L_90 ⟨Nat.le_of_ble_eq_true rfl, Nat.le_of_ble_eq_true rfl⟩ hc rfl rfl rfl rfl rfl rfl ?_ (Nat.zero_add _)
  refine g_if_eq (tgt := 13) d_L_isReplayed_6 (by decide) (fun h => ?_) (fun h => ?_)
  · rw [if_pos h]
    refine g_lconst (v := 0) d_L_isReplayed_13 (by decide) ?_
    refine g_last (f := ro t) (w' := (mw (wo t (vp_updL (ro t) 0 0)), cw c')) d_L_isReplayed_14 rfl (show ¬ ((0 : Int32) < 0 ∨ 1 ≤ Int32.toNatClampNeg 0) by decide) rfl ?_
    refine g_goto (tgt := 21) d_L_isReplayed_15 (by decide) ?_
    refine g_iconst (v := 0) d_L_isReplayed_21 (by decide) ?_
    exact g_retI d_L_isReplayed_22 rfl rfl rfl
  · rw [if_neg h]
    refine g_lconst (v := 1) d_L_isReplayed_9 (by decide) ?_
    refine g_goto (tgt := 14) d_L_isReplayed_10 (by decide) ?_
    refine g_last (f := ro t) (w' := (mw (wo t (vp_updL (ro t) 0 1)), cw c')) d_L_isReplayed_14 rfl (show ¬ ((0 : Int32) < 0 ∨ 1 ≤ Int32.toNatClampNeg 0) by decide) rfl ?_
    refine g_goto (tgt := 21) d_L_isReplayed_15 (by decide) ?_
    refine g_iconst (v := 0) d_L_isReplayed_21 (by decide) ?_
    exact g_retI d_L_isReplayed_22 rfl rfl rfl
theorem hT_isReplayed_1 {E : mEnv} (hE : E.1.stackTraces = false) {t : xT} {c c' : cT} (hc : Rx E M_X11_isReplayed [.ref 100] (mw t, cw c) xISE (mw t, cw c')) : Rh E M_L_isReplayed 1 [.ref 100, .ref 19] (mw t, cw c) (some (.int 1)) (mw t, cw c') := by
  refine Rh.of hE pn_L (Nat.le_of_ble_eq_true rfl) ?_
  refine g_eq (S' := (0, [some (.ref 100), some (.ref 19), none], [], (mw t, cw c))) rfl ?_
  refine g_aload_n d_L_isReplayed_0 rfl ?_
  refine g_iconst (v := 0) d_L_isReplayed_1 (by decide) ?_
  refine g_aload_n d_L_isReplayed_2 rfl ?_
  refine g_catchV (n := 0) (L' := [some (.ref 100), some (.ref 19), none]) (As := []) d_L_isReplayed_3 o_X11_isReplayed l_L_90 ⟨Nat.le_of_ble_eq_true rfl, Nat.le_of_ble_eq_true rfl⟩ hc rfl rfl rfl rfl rfl [] ⟨0, 15, 18, 15⟩ [] (List.cons_ne_nil _ _) rfl (fun _ q => absurd q List.not_mem_nil) rfl (by decide) kl_ISE (List.mem_of_getElem? (i := 2) rfl) d_L_isReplayed_18 rfl rfl ?_ rfl
  refine g_iconst (v := 1) d_L_isReplayed_19 (by decide) ?_
  exact g_retI d_L_isReplayed_20 rfl rfl rfl
theorem d_L_undo_0 : decode (mB M_L_undo) 0 = .ok (.aload_n 1, 1) := by decide +kernel
theorem d_L_undo_1 : decode (mB M_L_undo) 1 = .ok (.iconst 0, 1) := by decide +kernel
theorem d_L_undo_2 : decode (mB M_L_undo) 2 = .ok (.aload_n 0, 1) := by decide +kernel
theorem d_L_undo_3 : decode (mB M_L_undo) 3 = .ok (.invokevirtual 94, 3) := by decide +kernel
theorem d_L_undo_6 : decode (mB M_L_undo) 6 = .ok (.i2l, 1) := by decide +kernel
theorem d_L_undo_7 : decode (mB M_L_undo) 7 = .ok (.lastore, 1) := by decide +kernel
theorem d_L_undo_8 : decode (mB M_L_undo) 8 = .ok (.goto 6, 3) := by decide +kernel
theorem d_L_undo_11 : decode (mB M_L_undo) 11 = .ok (.astore_n 2, 1) := by decide +kernel
theorem d_L_undo_12 : decode (mB M_L_undo) 12 = .ok (.iconst 1, 1) := by decide +kernel
theorem d_L_undo_13 : decode (mB M_L_undo) 13 = .ok (.ireturn, 1) := by decide +kernel
theorem d_L_undo_14 : decode (mB M_L_undo) 14 = .ok (.iconst 0, 1) := by decide +kernel
theorem d_L_undo_15 : decode (mB M_L_undo) 15 = .ok (.ireturn, 1) := by decide +kernel
theorem hA_undo {E : mEnv} (hE : E.1.stackTraces = false) {t : xT} {c c' : cT} {v : Int32} (hc : Rt E M_X11_undo 0 [.ref 100] (mw t, cw c) (some (.int v)) (mw t, cw c')) : Rh E M_L_undo 0 [.ref 100, .ref 19] (mw t, cw c) (some (.int 0)) (mw (wo t (vp_updL (ro t) 0 v.toInt64)), cw c') := by
  refine Rh.of hE pn_L (Nat.le_of_ble_eq_true rfl) ?_
  refine g_eq (S' := (0, [some (.ref 100), some (.ref 19), none], [], (mw t, cw c))) rfl ?_
  refine g_aload_n d_L_undo_0 rfl ?_
  refine g_iconst (v := 0) d_L_undo_1 (by decide) ?_
  refine g_aload_n d_L_undo_2 rfl ?_
  refine g_callV (As := []) d_L_undo_3 o_X11_undo l_L_94 ⟨Nat.le_of_ble_eq_true rfl, Nat.le_of_ble_eq_true rfl⟩ hc rfl rfl rfl rfl rfl rfl ?_ (Nat.zero_add _)
  refine g_i2l d_L_undo_6 ?_
  refine g_last (f := ro t) (w' := (mw (wo t (vp_updL (ro t) 0 v.toInt64)), cw c')) d_L_undo_7 rfl (show ¬ ((0 : Int32) < 0 ∨ 1 ≤ Int32.toNatClampNeg 0) by decide) rfl ?_
  refine g_goto (tgt := 14) d_L_undo_8 (by decide) ?_
  refine g_iconst (v := 0) d_L_undo_14 (by decide) ?_
  exact g_retI d_L_undo_15 rfl rfl rfl
theorem hT_undo_1 {E : mEnv} (hE : E.1.stackTraces = false) {t : xT} {c c' : cT} (hc : Rx E M_X11_undo [.ref 100] (mw t, cw c) xISE (mw t, cw c')) : Rh E M_L_undo 1 [.ref 100, .ref 19] (mw t, cw c) (some (.int 1)) (mw t, cw c') := by
  refine Rh.of hE pn_L (Nat.le_of_ble_eq_true rfl) ?_
  refine g_eq (S' := (0, [some (.ref 100), some (.ref 19), none], [], (mw t, cw c))) rfl ?_
  refine g_aload_n d_L_undo_0 rfl ?_
  refine g_iconst (v := 0) d_L_undo_1 (by decide) ?_
  refine g_aload_n d_L_undo_2 rfl ?_
  refine g_catchV (n := 0) (L' := [some (.ref 100), some (.ref 19), none]) (As := []) d_L_undo_3 o_X11_undo l_L_94 ⟨Nat.le_of_ble_eq_true rfl, Nat.le_of_ble_eq_true rfl⟩ hc rfl rfl rfl rfl rfl [] ⟨0, 8, 11, 15⟩ [] (List.cons_ne_nil _ _) rfl (fun _ q => absurd q List.not_mem_nil) rfl (by decide) kl_ISE (List.mem_of_getElem? (i := 2) rfl) d_L_undo_11 rfl rfl ?_ rfl
  refine g_iconst (v := 1) d_L_undo_12 (by decide) ?_
  exact g_retI d_L_undo_13 rfl rfl rfl
theorem d_L_saveSnapshot_0 : decode (mB M_L_saveSnapshot) 0 = .ok (.aload_n 1, 1) := by decide +kernel
theorem d_L_saveSnapshot_1 : decode (mB M_L_saveSnapshot) 1 = .ok (.iconst 0, 1) := by decide +kernel
theorem d_L_saveSnapshot_2 : decode (mB M_L_saveSnapshot) 2 = .ok (.aload_n 0, 1) := by decide +kernel
theorem d_L_saveSnapshot_3 : decode (mB M_L_saveSnapshot) 3 = .ok (.invokevirtual 97, 3) := by decide +kernel
theorem d_L_saveSnapshot_6 : decode (mB M_L_saveSnapshot) 6 = .ok (.i2l, 1) := by decide +kernel
theorem d_L_saveSnapshot_7 : decode (mB M_L_saveSnapshot) 7 = .ok (.lastore, 1) := by decide +kernel
theorem d_L_saveSnapshot_8 : decode (mB M_L_saveSnapshot) 8 = .ok (.goto 6, 3) := by decide +kernel
theorem d_L_saveSnapshot_11 : decode (mB M_L_saveSnapshot) 11 = .ok (.astore_n 2, 1) := by decide +kernel
theorem d_L_saveSnapshot_12 : decode (mB M_L_saveSnapshot) 12 = .ok (.iconst 1, 1) := by decide +kernel
theorem d_L_saveSnapshot_13 : decode (mB M_L_saveSnapshot) 13 = .ok (.ireturn, 1) := by decide +kernel
theorem d_L_saveSnapshot_14 : decode (mB M_L_saveSnapshot) 14 = .ok (.iconst 0, 1) := by decide +kernel
theorem d_L_saveSnapshot_15 : decode (mB M_L_saveSnapshot) 15 = .ok (.ireturn, 1) := by decide +kernel
theorem hA_saveSnapshot {E : mEnv} (hE : E.1.stackTraces = false) {t : xT} {c c' : cT} {v : Int32} (hc : Rt E M_X11_saveSnapshot 0 [.ref 100] (mw t, cw c) (some (.int v)) (mw t, cw c')) : Rh E M_L_saveSnapshot 0 [.ref 100, .ref 19] (mw t, cw c) (some (.int 0)) (mw (wo t (vp_updL (ro t) 0 v.toInt64)), cw c') := by
  refine Rh.of hE pn_L (Nat.le_of_ble_eq_true rfl) ?_
  refine g_eq (S' := (0, [some (.ref 100), some (.ref 19), none], [], (mw t, cw c))) rfl ?_
  refine g_aload_n d_L_saveSnapshot_0 rfl ?_
  refine g_iconst (v := 0) d_L_saveSnapshot_1 (by decide) ?_
  refine g_aload_n d_L_saveSnapshot_2 rfl ?_
  refine g_callV (As := []) d_L_saveSnapshot_3 o_X11_saveSnapshot l_L_97 ⟨Nat.le_of_ble_eq_true rfl, Nat.le_of_ble_eq_true rfl⟩ hc rfl rfl rfl rfl rfl rfl ?_ (Nat.zero_add _)
  refine g_i2l d_L_saveSnapshot_6 ?_
  refine g_last (f := ro t) (w' := (mw (wo t (vp_updL (ro t) 0 v.toInt64)), cw c')) d_L_saveSnapshot_7 rfl (show ¬ ((0 : Int32) < 0 ∨ 1 ≤ Int32.toNatClampNeg 0) by decide) rfl ?_
  refine g_goto (tgt := 14) d_L_saveSnapshot_8 (by decide) ?_
  refine g_iconst (v := 0) d_L_saveSnapshot_14 (by decide) ?_
  exact g_retI d_L_saveSnapshot_15 rfl rfl rfl
theorem hT_saveSnapshot_1 {E : mEnv} (hE : E.1.stackTraces = false) {t : xT} {c c' : cT} (hc : Rx E M_X11_saveSnapshot [.ref 100] (mw t, cw c) xISE (mw t, cw c')) : Rh E M_L_saveSnapshot 1 [.ref 100, .ref 19] (mw t, cw c) (some (.int 1)) (mw t, cw c') := by
  refine Rh.of hE pn_L (Nat.le_of_ble_eq_true rfl) ?_
  refine g_eq (S' := (0, [some (.ref 100), some (.ref 19), none], [], (mw t, cw c))) rfl ?_
  refine g_aload_n d_L_saveSnapshot_0 rfl ?_
  refine g_iconst (v := 0) d_L_saveSnapshot_1 (by decide) ?_
  refine g_aload_n d_L_saveSnapshot_2 rfl ?_
  refine g_catchV (n := 0) (L' := [some (.ref 100), some (.ref 19), none]) (As := []) d_L_saveSnapshot_3 o_X11_saveSnapshot l_L_97 ⟨Nat.le_of_ble_eq_true rfl, Nat.le_of_ble_eq_true rfl⟩ hc rfl rfl rfl rfl rfl [] ⟨0, 8, 11, 15⟩ [] (List.cons_ne_nil _ _) rfl (fun _ q => absurd q List.not_mem_nil) rfl (by decide) kl_ISE (List.mem_of_getElem? (i := 2) rfl) d_L_saveSnapshot_11 rfl rfl ?_ rfl
  refine g_iconst (v := 1) d_L_saveSnapshot_12 (by decide) ?_
  exact g_retI d_L_saveSnapshot_13 rfl rfl rfl
theorem d_L_restoreSnapshot_0 : decode (mB M_L_restoreSnapshot) 0 = .ok (.aload_n 1, 1) := by decide +kernel
theorem d_L_restoreSnapshot_1 : decode (mB M_L_restoreSnapshot) 1 = .ok (.iconst 0, 1) := by decide +kernel
theorem d_L_restoreSnapshot_2 : decode (mB M_L_restoreSnapshot) 2 = .ok (.aload_n 0, 1) := by decide +kernel
theorem d_L_restoreSnapshot_3 : decode (mB M_L_restoreSnapshot) 3 = .ok (.invokevirtual 100, 3) := by decide +kernel
theorem d_L_restoreSnapshot_6 : decode (mB M_L_restoreSnapshot) 6 = .ok (.i2l, 1) := by decide +kernel
theorem d_L_restoreSnapshot_7 : decode (mB M_L_restoreSnapshot) 7 = .ok (.lastore, 1) := by decide +kernel
theorem d_L_restoreSnapshot_8 : decode (mB M_L_restoreSnapshot) 8 = .ok (.goto 6, 3) := by decide +kernel
theorem d_L_restoreSnapshot_11 : decode (mB M_L_restoreSnapshot) 11 = .ok (.astore_n 2, 1) := by decide +kernel
theorem d_L_restoreSnapshot_12 : decode (mB M_L_restoreSnapshot) 12 = .ok (.iconst 1, 1) := by decide +kernel
theorem d_L_restoreSnapshot_13 : decode (mB M_L_restoreSnapshot) 13 = .ok (.ireturn, 1) := by decide +kernel
theorem d_L_restoreSnapshot_14 : decode (mB M_L_restoreSnapshot) 14 = .ok (.iconst 0, 1) := by decide +kernel
theorem d_L_restoreSnapshot_15 : decode (mB M_L_restoreSnapshot) 15 = .ok (.ireturn, 1) := by decide +kernel
theorem hA_restoreSnapshot {E : mEnv} (hE : E.1.stackTraces = false) {t : xT} {c c' : cT} {v : Int32} (hc : Rt E M_X11_restoreSnapshot 0 [.ref 100] (mw t, cw c) (some (.int v)) (mw t, cw c')) : Rh E M_L_restoreSnapshot 0 [.ref 100, .ref 19] (mw t, cw c) (some (.int 0)) (mw (wo t (vp_updL (ro t) 0 v.toInt64)), cw c') := by
  refine Rh.of hE pn_L (Nat.le_of_ble_eq_true rfl) ?_
  refine g_eq (S' := (0, [some (.ref 100), some (.ref 19), none], [], (mw t, cw c))) rfl ?_
  refine g_aload_n d_L_restoreSnapshot_0 rfl ?_
  refine g_iconst (v := 0) d_L_restoreSnapshot_1 (by decide) ?_
  refine g_aload_n d_L_restoreSnapshot_2 rfl ?_
  refine g_callV (As := []) d_L_restoreSnapshot_3 o_X11_restoreSnapshot l_L_100 ⟨Nat.le_of_ble_eq_true rfl, Nat.le_of_ble_eq_true rfl⟩ hc rfl rfl rfl rfl rfl rfl ?_ (Nat.zero_add _)
  refine g_i2l d_L_restoreSnapshot_6 ?_
  refine g_last (f := ro t) (w' := (mw (wo t (vp_updL (ro t) 0 v.toInt64)), cw c')) d_L_restoreSnapshot_7 rfl (show ¬ ((0 : Int32) < 0 ∨ 1 ≤ Int32.toNatClampNeg 0) by decide) rfl ?_
  refine g_goto (tgt := 14) d_L_restoreSnapshot_8 (by decide) ?_
  refine g_iconst (v := 0) d_L_restoreSnapshot_14 (by decide) ?_
  exact g_retI d_L_restoreSnapshot_15 rfl rfl rfl
theorem hT_restoreSnapshot_1 {E : mEnv} (hE : E.1.stackTraces = false) {t : xT} {c c' : cT} (hc : Rx E M_X11_restoreSnapshot [.ref 100] (mw t, cw c) xISE (mw t, cw c')) : Rh E M_L_restoreSnapshot 1 [.ref 100, .ref 19] (mw t, cw c) (some (.int 1)) (mw t, cw c') := by
  refine Rh.of hE pn_L (Nat.le_of_ble_eq_true rfl) ?_
  refine g_eq (S' := (0, [some (.ref 100), some (.ref 19), none], [], (mw t, cw c))) rfl ?_
  refine g_aload_n d_L_restoreSnapshot_0 rfl ?_
  refine g_iconst (v := 0) d_L_restoreSnapshot_1 (by decide) ?_
  refine g_aload_n d_L_restoreSnapshot_2 rfl ?_
  refine g_catchV (n := 0) (L' := [some (.ref 100), some (.ref 19), none]) (As := []) d_L_restoreSnapshot_3 o_X11_restoreSnapshot l_L_100 ⟨Nat.le_of_ble_eq_true rfl, Nat.le_of_ble_eq_true rfl⟩ hc rfl rfl rfl rfl rfl [] ⟨0, 8, 11, 15⟩ [] (List.cons_ne_nil _ _) rfl (fun _ q => absurd q List.not_mem_nil) rfl (by decide) kl_ISE (List.mem_of_getElem? (i := 2) rfl) d_L_restoreSnapshot_11 rfl rfl ?_ rfl
  refine g_iconst (v := 1) d_L_restoreSnapshot_12 (by decide) ?_
  exact g_retI d_L_restoreSnapshot_13 rfl rfl rfl
