/-! calls, throws, catches of the plain machine -/
/-- a method that can be called: its code and its class are known, it has n parameters -/
def mOk (z : mM) (k : Nat) : Prop := Cond.code (mN z) (mB z) (mL z) (mT z) ∈ mTBL ∧ Cond.initialized (mN z).cls ∈ mTBL ∧ ((mN z).cls ≠ "java/lang/invoke/MethodHandle" ∧ (mN z).cls ≠ "java/lang/invoke/VarHandle") ∧ (parseMethodDescriptor (mN z).desc).map (fun d => d.parameters.length) = some k
def mOkV (z : mM) (k : Nat) : Prop := mOk z k ∧ Cond.instanceMethod (mN z) ∈ mTBL ∧ Cond.selects (mN z).cls (mN z) (mN z) ∈ mTBL
def mOkS (z : mM) (k : Nat) : Prop := mOk z k ∧ Cond.static (mN z) ∈ mTBL
def mOkH (z : mM) (k : Nat) : Prop := Cond.codeWith (mN z) (mB z) (mL z) (mT z) (mHH z) ∈ mTBL ∧ Cond.initialized (mN z).cls ∈ mTBL ∧ ((mN z).cls ≠ "java/lang/invoke/MethodHandle" ∧ (mN z).cls ≠ "java/lang/invoke/VarHandle") ∧ (parseMethodDescriptor (mN z).desc).map (fun d => d.parameters.length) = some k ∧ Cond.static (mN z) ∈ mTBL
def mFit (y z : mM) : Prop := mFr z + 1 ≤ mFr y ∧ 8 + (mL z + 11) + mLo z ≤ mLo y
def mLk (y : mM) (ix : Nat) (z : mM) : Prop := Cond.methodLink (mN y).cls ix (mN z) ∈ mTBL
def mLkN (y : mM) (ix : Nat) (z : mM) : Prop := ((mN y).cls, ix, mN z, "PusherRoom") ∈ mNest
theorem mTBL_good {ws : List Cond} (h : ∀ w ∈ ws, w ∈ mTBL) : GoodIn mTBL ws := fun w hw => ⟨h w hw, good_of_word (List.mem_filter.mp (h w hw)).2⟩
theorem mWs_in {z : mM} {k : Nat} (h : mOk z k) : ∀ w ∈ mWs z, w ∈ mTBL := fun w hw => by
  rcases List.mem_cons.mp hw with rfl | hw
  · exact h.1
  · exact hw
section CALLS
variable {E : mEnv} {y z : mM} {ad : Nat → Nat} {p : Program} {e : Env} {R : Room} {s : State} {m : MethodId} {args : Array Value} {below : List Frame} {meth : Method} {c : Code} {A : Nat → Prop} {H : Heap} {locs : List Loc} {cells slots : Nat} {QQ : State → Prop} {w w' : mW} {ls : Array Slot} {pc n k : Nat} {L : List (Option Value)} {st As : List Value} {G : mG} {v : Option Value} {X : String}
/-- behind a call that answers -/
theorem mRun_go {n0 : Nat} {a : Array Value} {st0 : List Value} (C : mCx E y ad p R s m args meth c A) (hw : mWd E ad s A w H locs)
    (hr : va_Run p E.1 e R s m args below meth c H locs cells slots n0 (6 * n0) (F0 m pc ls st0) (st.map (mcV ad)) (mQv E ad w H.size v w' a) (va_A (mcW E.2.2.1 ad w) H.size))
    (kk : ∀ (H1 : Heap) (locs1 : List Loc), mWd E ad s A w' H1 locs1 → W p E.1 e R s m args below meth c H1 locs1 (cells + n0) (slots + 6 * n0) QQ (F0 m (pc + 3) ls ((v.toList ++ st).map (mcV ad)))) : W p E.1 e R s m args below meth c H locs cells slots QQ (F0 m pc ls st0) := by
  intro T hT Y
  obtain ⟨v0, st₀, t, T', L0, h0, X', hL, e1, e2, ⟨hv, hP, hD, hF⟩, hst⟩ := hr T hT Y
  cases hv
  have hfree := mWd.free C.2.2.2.2.2.2.2.2.2.1 hw
  obtain ⟨hz, hk⟩ := hF
  rw [h0] at hz hk
  have hS := hw.2.2
  have hd : mWd E ad s A w' T'.heap (locs ++ L0) := ⟨by rw [e1]; exact hP, hD.weaken (fun _ q _ h => hfree q.1 h), Nat.le_trans hS.1 (by rw [e1]; exact hz), fun q h1 h2 => by rw [e1, hk q (Nat.lt_of_lt_of_le h1 hS.1) (fun b => h2 (hfree q b))]; exact hS.2.1 q h1 h2, fun q hq => by
    rcases List.mem_append.mp hq with h | h
    · exact hS.2.2 q h
    · exact hfree _ (hL q h)⟩
  obtain ⟨t2, a1, b1⟩ := kk T'.heap (locs ++ L0) hd T' rfl X'
  refine ⟨t2, hst t2 ?_, b1⟩
  have e3 : (v.toList ++ st).map (mcV ad) = (v.map (mcV ad)).toList ++ st.map (mcV ad) := by cases v <;> simp
  rw [e3] at a1
  exact a1
/-- behind a call that throws -/
theorem mRun_x {st0 : List Value} (C : mCx E y ad p R s m args meth c A) (hw : mWd E ad s A w H locs)
    (hr : vx_Run p E.1 e R s m args below meth c H locs cells slots 1 6 (F0 m pc ls st0) (st.map (mcV ad)) (fun _ _ _ => False) (mXc E ad w H.size X w') (va_A (mcW E.2.2.1 ad w) H.size))
    (kk : ∀ (H1 : Heap) (locs1 : List Loc) (q : Addr) (ce : Cell), mWd E ad s A w' H1 locs1 → H1[q]? = some ce → ce.vm = .none → s.vm.findClass X = some ce.cls → vx_W p E.1 e R s m args below meth c H1 locs1 (cells + 1) (slots + 6) QQ (F0 m pc ls (st.map (mcV ad))) q) : W p E.1 e R s m args below meth c H locs cells slots QQ (F0 m pc ls st0) := by
  intro T hT Y
  rcases hr T hT Y with ⟨v0, st₀, t, T', L0, h0, X', hL, e1, e2, hv, hst⟩ | ⟨q, st₀, t, T', L0, E0, ce, h0, X', hL, e1, e2, ⟨hv, hP, hD, hF⟩, hce, hcv, hcl, hst⟩
  · exact hv.elim
  · subst hv
    have hfree := mWd.free C.2.2.2.2.2.2.2.2.2.1 hw
    obtain ⟨hz, hk⟩ := hF
    rw [h0] at hz hk
    have hS := hw.2.2
    have hd : mWd E ad s A w' T'.heap (locs ++ L0) := ⟨by rw [e1]; exact hP, hD.weaken (fun _ q _ h => hfree q.1 h), Nat.le_trans hS.1 (by rw [e1]; exact hz), fun q h1 h2 => by rw [e1, hk q (Nat.lt_of_lt_of_le h1 hS.1) (fun b => h2 (hfree q b))]; exact hS.2.1 q h1 h2, fun q hq => by
      rcases List.mem_append.mp hq with h | h
      · exact hS.2.2 q h
      · exact hfree _ (hL q h)⟩
    obtain ⟨t2, a1, b1⟩ := kk T'.heap (locs ++ L0) q ce hd (by rw [e1]; exact hce) hcv hcl T' rfl X'
    exact ⟨t2, hst.trans a1, b1⟩
theorem mRoom {st : List Value} {ad : Nat → Nat} {m : MethodId} {pc : Nat} {ls : Array Slot} {rest : List Value} (h : Nat.ble ((st.map fun v => v.category).sum) 8 = true) : 2 * (F0 m pc ls rest).monitorRoom + ((st.map (mcV ad)).map fun v => v.category).sum ≤ 8 := lv_room (by rw [mcV_cats]; exact Nat.le_of_ble_eq_true h)
theorem mStk (ad : Nat → Nat) (r : Nat) (As st : List Value) : (As.reverse ++ .ref r :: st).map (mcV ad) = (As.map (mcV ad)).reverse ++ .ref (ad r) :: st.map (mcV ad) := by simp [mcV]
theorem mStkS (ad : Nat → Nat) (As st : List Value) : (As.reverse ++ st).map (mcV ad) = (As.map (mcV ad)).reverse ++ st.map (mcV ad) := by simp
/-- the receiver's cell -/
theorem mRecv {ci r : Nat} {fs : List Value} {q : vw_C} (C : mCx E y ad p R s m args meth c A) (hw : mWd E ad s A w H locs) (hm : mget w r = some (.inr (ci, fs))) (hq : vwCl[ci]? = some q) : ∃ cell : Cell, H[ad r]? = some cell ∧ cell.vm.isStatics = false ∧ s.vm.findClass q.1 = some cell.cls := by
  obtain ⟨q0, h1, -⟩ := mcW_at E.2.2.1 ad hm
  exact va_recv C.2.2.2.2.2.2.2.2.2.2.1.1 hw.1 hq h1
theorem mFix (C : mCx E y ad p R s m args meth c A) : CallFix p m c (mB y) (mL y) s args mTBL (mN y).cls := ⟨C.1, C.2.1, C.2.2.2.1, C.2.2.2.2.1, C.2.2.2.2.2.1⟩
/-- a virtual call that answers -/
theorem g_callV {ix n0 n1 r ci : Nat} {fs : List Value} {q : vw_C} (d : decode (mB y) pc = .ok (.invokevirtual ix, 3)) (hz : mOkV z As.length) (hlk : mLk y ix z) (hft : mFit y z) (hR : Rt E z n0 (.ref r :: As) w v w')
    (hm : mget w r = some (.inr (ci, fs))) (hq : vwCl[ci]? = some q) (hcls : q.1 = (mN z).cls) (hcat : Nat.ble ((st.map fun v => v.category).sum) 8 = true) (hst : L.length = L.length) {st9 : List Value} (h9 : As.reverse ++ .ref r :: st = st9)
    (k : Go E y n (pc + 3, L, v.toList ++ st, w') G) (hn : n0 + n = n1) : Go E y n1 (pc, L, st9, w) G := by
  intro ad p e R s m args below meth c A C cells slots QQ hc hs hT H locs ls hw hl
  subst h9; subst hn
  show W p E.1 e R s m args below meth c H locs cells slots QQ (F0 m pc ls ((As.reverse ++ .ref r :: st).map (mcV ad)))
  rw [mStk]
  have hM := hR ad H.size
  have cw : CallW R s args (mN y).cls (mN z).cls ix (mN z) (mB z) (mL z) (mT z) (mWs z) (mRm z n0) n0 (6 * n0) As.length :=
    cwV As.length C.2.2.2.2.2.1 (mTBL_good fun w0 h0 => by
      unfold wsV at h0
      rcases List.mem_append.mp h0 with h0 | h0
      · simp only [List.mem_cons, List.not_mem_nil, or_false] at h0
        rcases h0 with rfl | rfl | rfl | rfl
        · exact hlk
        · exact hz.2.1
        · exact hz.2.2
        · exact hz.1.2.1
      · exact mWs_in hz.1 w0 h0) rfl rfl rfl ⟨rfl, hz.1.2.2.1.1, hz.1.2.2.1.2, hz.1.2.2.2⟩ ⟨Nat.le_trans hft.1 C.2.2.2.2.2.2.2.1, Nat.le_trans hft.2 C.2.2.2.2.2.2.2.2.1⟩
  have hrun := va_runV (p := p) (e := e) (below := below) (meth := meth) (H := H) (locs := locs) (cells := cells) (slots := slots) (As := As.map (mcV ad)) (rest := st.map (mcV ad)) (g := F0 m pc ls ((As.map (mcV ad)).reverse ++ .ref (ad r) :: st.map (mcV ad))) (mFix C) hM cw
    ⟨mPre.blind, by rw [← hcls]; exact mRecv C hw hm hq, fun U hU hW => ⟨rfl, mPre.of C hw hU hW⟩⟩ rfl (by rw [List.length_map]) hl.1 rfl (mRoom hcat) d ⟨by omega, by omega⟩
  refine mRun_go C hw hrun (fun H1 locs1 hd => ?_)
  refine k ad p e R s m args below meth c A C (cells + n0) (slots + 6 * n0) QQ (by omega) (by omega) ?_ H1 locs1 ls hd hl
  rw [show cells + n0 + n = cells + (n0 + n) by omega, show slots + 6 * n0 + 6 * n = slots + 6 * (n0 + n) by omega]
  exact hT
/-- a static call that answers -/
theorem g_callS {ix n0 n1 : Nat} (d : decode (mB y) pc = .ok (.invokestatic ix, 3)) (hz : mOkS z As.length) (hlk : mLk y ix z) (hft : mFit y z) (hR : Rt E z n0 As w v w')
    (hcat : Nat.ble ((st.map fun v => v.category).sum) 8 = true) {st9 : List Value} (h9 : As.reverse ++ st = st9)
    (k : Go E y n (pc + 3, L, v.toList ++ st, w') G) (hn : n0 + n = n1) : Go E y n1 (pc, L, st9, w) G := by
  intro ad p e R s m args below meth c A C cells slots QQ hc hs hT H locs ls hw hl
  subst h9; subst hn
  show W p E.1 e R s m args below meth c H locs cells slots QQ (F0 m pc ls ((As.reverse ++ st).map (mcV ad)))
  rw [mStkS]
  have hM := hR ad H.size
  have cw : CallB R s args (mN y).cls ix (mN z) (mB z) (mL z) (mT z) (mWs z) (mRm z n0) n0 (6 * n0) As.length ∧ (Cond.static (mN z)).before args s = true :=
    va_cwS As.length C.2.2.2.2.2.1 (mTBL_good fun w0 h0 => by
      unfold va_wsS at h0
      rcases List.mem_append.mp h0 with h0 | h0
      · simp only [List.mem_cons, List.not_mem_nil, or_false] at h0
        rcases h0 with rfl | rfl | rfl
        · exact hlk
        · exact hz.2
        · exact hz.1.2.1
      · exact mWs_in hz.1 w0 h0) rfl rfl rfl ⟨hz.1.2.2.1.1, hz.1.2.2.1.2, hz.1.2.2.2⟩ ⟨Nat.le_trans hft.1 C.2.2.2.2.2.2.2.1, Nat.le_trans hft.2 C.2.2.2.2.2.2.2.2.1⟩
  have hrun := va_runS (p := p) (e := e) (below := below) (meth := meth) (H := H) (locs := locs) (cells := cells) (slots := slots) (As := As.map (mcV ad)) (rest := st.map (mcV ad)) (g := F0 m pc ls ((As.map (mcV ad)).reverse ++ st.map (mcV ad))) (mFix C) hM cw
    ⟨mPre.blind, fun U hU hW => ⟨rfl, mPre.of C hw hU hW⟩⟩ rfl (by rw [List.length_map]) hl.1 rfl (mRoom hcat) d ⟨by omega, by omega⟩
  refine mRun_go C hw hrun (fun H1 locs1 hd => ?_)
  refine k ad p e R s m args below meth c A C (cells + n0) (slots + 6 * n0) QQ (by omega) (by omega) ?_ H1 locs1 ls hd hl
  rw [show cells + n0 + n = cells + (n0 + n) by omega, show slots + 6 * n0 + 6 * n = slots + 6 * (n0 + n) by omega]
  exact hT
/-- a static call of a nest mate's method -/
theorem g_callN {ix n0 n1 : Nat} (d : decode (mB y) pc = .ok (.invokestatic ix, 3)) (hz : mOkS z As.length) (hlk : mLkN y ix z) (hft : mFit y z) (hR : Rt E z n0 As w v w')
    (hcat : Nat.ble ((st.map fun v => v.category).sum) 8 = true) {st9 : List Value} (h9 : As.reverse ++ st = st9)
    (k : Go E y n (pc + 3, L, v.toList ++ st, w') G) (hn : n0 + n = n1) : Go E y n1 (pc, L, st9, w) G := by
  intro ad p e R s m args below meth c A C cells slots QQ hc hs hT H locs ls hw hl
  subst h9; subst hn
  show W p E.1 e R s m args below meth c H locs cells slots QQ (F0 m pc ls ((As.reverse ++ st).map (mcV ad)))
  rw [mStkS]
  have hM := hR ad H.size
  have cw : va_CN R s args (mN y).cls ix (mN z) "PusherRoom" (mB z) (mL z) (mT z) (mWs z) (mRm z n0) n0 (6 * n0) As.length :=
    va_cnB As.length C.2.2.2.2.2.1 (mTBL_good (mWs_in hz.1)) rfl rfl rfl (C.2.2.2.2.2.2.2.2.2.2.1.2.1 _ hlk) (C.2.2.2.2.2.1 _ hz.1.2.1) ⟨hz.1.2.2.1.1, hz.1.2.2.1.2, hz.1.2.2.2⟩ ⟨Nat.le_trans hft.1 C.2.2.2.2.2.2.2.1, Nat.le_trans hft.2 C.2.2.2.2.2.2.2.2.1⟩
  have hrun := va_runSN (p := p) (e := e) (below := below) (meth := meth) (H := H) (locs := locs) (cells := cells) (slots := slots) (As := As.map (mcV ad)) (rest := st.map (mcV ad)) (g := F0 m pc ls ((As.map (mcV ad)).reverse ++ st.map (mcV ad))) (mFix C) hM ⟨cw, C.2.2.2.2.2.1 _ hz.2, trivial⟩
    ⟨mPre.blind, fun U hU hW => ⟨rfl, mPre.of C hw hU hW⟩⟩ rfl (by rw [List.length_map]) hl.1 rfl (mRoom hcat) d ⟨by omega, by omega⟩
  refine mRun_go C hw hrun (fun H1 locs1 hd => ?_)
  refine k ad p e R s m args below meth c A C (cells + n0) (slots + 6 * n0) QQ (by omega) (by omega) ?_ H1 locs1 ls hd hl
  rw [show cells + n0 + n = cells + (n0 + n) by omega, show slots + 6 * n0 + 6 * n = slots + 6 * (n0 + n) by omega]
  exact hT
/-- a static call of a method with a table of its own -/
theorem g_callH {ix n0 n1 : Nat} (d : decode (mB y) pc = .ok (.invokestatic ix, 3)) (hz : mOkH z As.length) (hlk : mLk y ix z) (hft : mFit y z) (hR : Rh E z n0 As w v w')
    (hcat : Nat.ble ((st.map fun v => v.category).sum) 8 = true) {st9 : List Value} (h9 : As.reverse ++ st = st9)
    (k : Go E y n (pc + 3, L, v.toList ++ st, w') G) (hn : n0 + n = n1) : Go E y n1 (pc, L, st9, w) G := by
  intro ad p e R s m args below meth c A C cells slots QQ hc hs hT H locs ls hw hl
  subst h9; subst hn
  show W p E.1 e R s m args below meth c H locs cells slots QQ (F0 m pc ls ((As.reverse ++ st).map (mcV ad)))
  rw [mStkS]
  have hM := hR ad H.size
  have hin : ∀ w ∈ mWh z, w ∈ mTBL := fun w hw => by
    rcases List.mem_cons.mp hw with rfl | hw
    · exact hz.1
    · exact hw
  have cw : vx_CSW R s args (mN y).cls ix (mN z) (mB z) (mL z) (mT z) (mHH z) (mWh z) (mRm z n0) n0 (6 * n0) As.length :=
    vx_cwSW As.length C.2.2.2.2.2.1 (mTBL_good fun w0 h0 => by
      unfold va_wsS at h0
      rcases List.mem_append.mp h0 with h0 | h0
      · simp only [List.mem_cons, List.not_mem_nil, or_false] at h0
        rcases h0 with rfl | rfl | rfl
        · exact hlk
        · exact hz.2.2.2.2
        · exact hz.2.1
      · exact hin w0 h0) rfl rfl rfl ⟨hz.2.2.1.1, hz.2.2.1.2, hz.2.2.2.1⟩ ⟨Nat.le_trans hft.1 C.2.2.2.2.2.2.2.1, Nat.le_trans hft.2 C.2.2.2.2.2.2.2.2.1⟩
  have hrun := vx_runSW (p := p) (e := e) (below := below) (meth := meth) (H := H) (locs := locs) (cells := cells) (slots := slots) (As := As.map (mcV ad)) (rest := st.map (mcV ad)) (g := F0 m pc ls ((As.map (mcV ad)).reverse ++ st.map (mcV ad))) (mFix C) hM cw
    ⟨mPre.blind, fun U hU hW => ⟨rfl, mPre.of C hw hU hW⟩⟩ rfl (by rw [List.length_map]) hl.1 rfl (mRoom hcat) d ⟨by omega, by omega⟩
  refine mRun_go C hw hrun (fun H1 locs1 hd => ?_)
  refine k ad p e R s m args below meth c A C (cells + n0) (slots + 6 * n0) QQ (by omega) (by omega) ?_ H1 locs1 ls hd hl
  rw [show cells + n0 + n = cells + (n0 + n) by omega, show slots + 6 * n0 + 6 * n = slots + 6 * (n0 + n) by omega]
  exact hT
/-- a virtual call that throws, not caught here -/
theorem g_xcallV {ix r ci : Nat} {fs : List Value} {q : vw_C} (d : decode (mB y) pc = .ok (.invokevirtual ix, 3)) (hz : mOkV z As.length) (hlk : mLk y ix z) (hft : mFit y z) (hR : Rx E z (.ref r :: As) w X w')
    (hm : mget w r = some (.inr (ci, fs))) (hq : vwCl[ci]? = some q) (hcls : q.1 = (mN z).cls) (hcat : Nat.ble ((st.map fun v => v.category).sum) 8 = true) {st9 : List Value} (h9 : As.reverse ++ .ref r :: st = st9) : Go E y 1 (pc, L, st9, w) (.inr (.inr (X, w'))) := by
  intro ad p e R s m args below meth c A C cells slots QQ hc hs hT H locs ls hw hl
  subst h9
  show W p E.1 e R s m args below meth c H locs cells slots QQ (F0 m pc ls ((As.reverse ++ .ref r :: st).map (mcV ad)))
  rw [mStk]
  have hM := hR ad H.size
  have cw : CallW R s args (mN y).cls (mN z).cls ix (mN z) (mB z) (mL z) (mT z) (mWs z) (mRm z 1) 1 6 As.length :=
    cwV As.length C.2.2.2.2.2.1 (mTBL_good fun w0 h0 => by
      unfold wsV at h0
      rcases List.mem_append.mp h0 with h0 | h0
      · simp only [List.mem_cons, List.not_mem_nil, or_false] at h0
        rcases h0 with rfl | rfl | rfl | rfl
        · exact hlk
        · exact hz.2.1
        · exact hz.2.2
        · exact hz.1.2.1
      · exact mWs_in hz.1 w0 h0) rfl rfl rfl ⟨rfl, hz.1.2.2.1.1, hz.1.2.2.1.2, hz.1.2.2.2⟩ ⟨Nat.le_trans hft.1 C.2.2.2.2.2.2.2.1, Nat.le_trans hft.2 C.2.2.2.2.2.2.2.2.1⟩
  have hrun := vx_runV (p := p) (e := e) (below := below) (meth := meth) (H := H) (locs := locs) (cells := cells) (slots := slots) (As := As.map (mcV ad)) (rest := st.map (mcV ad)) (g := F0 m pc ls ((As.map (mcV ad)).reverse ++ .ref (ad r) :: st.map (mcV ad))) (mFix C) hM cw
    ⟨mPre.blind, by rw [← hcls]; exact mRecv C hw hm hq, fun U hU hW => ⟨rfl, mPre.of C hw hU hW⟩⟩ rfl (by rw [List.length_map]) hl.1 rfl (mRoom hcat) d ⟨by omega, by omega⟩
  exact mRun_x C hw hrun (fun H1 locs1 q9 ce hd h1 h2 h3 => hT.2 H1 locs1 ls pc _ q9 ce hd h1 h2 h3)
/-- a static call that throws, not caught here -/
theorem g_xcallS {ix : Nat} (d : decode (mB y) pc = .ok (.invokestatic ix, 3)) (hz : mOkS z As.length) (hlk : mLk y ix z) (hft : mFit y z) (hR : Rx E z As w X w')
    (hcat : Nat.ble ((st.map fun v => v.category).sum) 8 = true) {st9 : List Value} (h9 : As.reverse ++ st = st9) : Go E y 1 (pc, L, st9, w) (.inr (.inr (X, w'))) := by
  intro ad p e R s m args below meth c A C cells slots QQ hc hs hT H locs ls hw hl
  subst h9
  show W p E.1 e R s m args below meth c H locs cells slots QQ (F0 m pc ls ((As.reverse ++ st).map (mcV ad)))
  rw [mStkS]
  have hM := hR ad H.size
  have cw : CallB R s args (mN y).cls ix (mN z) (mB z) (mL z) (mT z) (mWs z) (mRm z 1) 1 6 As.length ∧ (Cond.static (mN z)).before args s = true :=
    va_cwS As.length C.2.2.2.2.2.1 (mTBL_good fun w0 h0 => by
      unfold va_wsS at h0
      rcases List.mem_append.mp h0 with h0 | h0
      · simp only [List.mem_cons, List.not_mem_nil, or_false] at h0
        rcases h0 with rfl | rfl | rfl
        · exact hlk
        · exact hz.2
        · exact hz.1.2.1
      · exact mWs_in hz.1 w0 h0) rfl rfl rfl ⟨hz.1.2.2.1.1, hz.1.2.2.1.2, hz.1.2.2.2⟩ ⟨Nat.le_trans hft.1 C.2.2.2.2.2.2.2.1, Nat.le_trans hft.2 C.2.2.2.2.2.2.2.2.1⟩
  have hrun := vx_runS (p := p) (e := e) (below := below) (meth := meth) (H := H) (locs := locs) (cells := cells) (slots := slots) (As := As.map (mcV ad)) (rest := st.map (mcV ad)) (g := F0 m pc ls ((As.map (mcV ad)).reverse ++ st.map (mcV ad))) (mFix C) hM cw
    ⟨mPre.blind, fun U hU hW => ⟨rfl, mPre.of C hw hU hW⟩⟩ rfl (by rw [List.length_map]) hl.1 rfl (mRoom hcat) d ⟨by omega, by omega⟩
  exact mRun_x C hw hrun (fun H1 locs1 q9 ce hd h1 h2 h3 => hT.2 H1 locs1 ls pc _ q9 ce hd h1 h2 h3)
end CALLS
/-- a body that throws -/
theorem Rx.of {E : mEnv} {y : mM} {As : List Value} {w w' : mW} {X : String} (hl : E.1.stackTraces = false) (h0 : mHH y = []) (hy : plainName (mN y).cls = true) (he : (mEnt As).length ≤ mL y) (h : Go E y 1 (0, mEnd As (mL y), [], w) (.inr (.inr (X, w')))) : Rx E y As w X w' := by
  intro ad sz
  refine vx_ofW (cc := mB y) (maxL := mL y) (ret := mT y) hy rfl ?_
  intro p e s m args below meth c s₁ B hml hnt hv
  obtain ⟨rfl, hsz, hP, hD0, hst, had⟩ := hv
  have hts := atoms_spec (ws := mWs y) B.pre
  have hown : s.vm.findClass (mN y).cls = some m.cls := findClass_of_methodNamed B.named
  have hlocks := B.notSynchronized
  subst hsz
  have hD := hD0.self (sz := s.heap.size)
  rw [lg_entry_eq]
  have C : mCx E y ad p (mRm y 1) s m (As.map (mcV ad)).toArray meth c (va_A (mcW E.2.2.1 ad w) s.heap.size) := ⟨B.exec, B.bytes, B.returns, hml, hown, fun w h => hts w (List.mem_cons_of_mem _ h), hlocks, Nat.le_refl _, Nat.le_refl _, fun q hq => Or.inr hq, hst, hl, had, fun h => absurd h0 h⟩
  have hall : ∀ w0 ∈ mTBL, w0.before (As.map (mcV ad)).toArray s = true := C.2.2.2.2.2.1
  refine h ad p e (mRm y 1) s m _ below meth c (va_A (mcW E.2.2.1 ad w) s.heap.size) C 0 0 _ (by show 0 + 1 ≤ 1; omega) (by show 0 + 6 * 1 ≤ 6 * 1; omega) ?_ s.heap [] _ ⟨hP, hD, va_S.rf⟩ (mEnd_ls ad As he)
  refine ⟨fun H locs ls pc st c1 s1 hw hsize hthr hcat h1 h2 => ?_, fun H locs ls pc st q ce hw h1 h2 h3 => ?_⟩
  · obtain ⟨qP, qD, qS⟩ := hw
    obtain ⟨ik, is, ic, text, names, ix, rx, hrx, hdec, hX, hnm, hk, hini, hstr, hg1, hg2, hgood, hfr, hlo⟩ := hthr
    obtain ⟨k1, k2, k3, k4, k5, k6, k7, k8, -, -⟩ := hst
    have hat : ∀ w ∈ vx_atX (mN y).cls ic X ix rx names, w.before (As.map (mcV ad)).toArray s = true := by
      refine vx_hat (B := (vx_atX (mN y).cls ic X ix rx names).filter (fun w => !goodWord w)) (fun w0 h0 => hall _ (hg1 w0 h0)) (fun w0 h0 => h0) (fun w0 h0 => ?_)
      rcases hg2 w0 h0 with ⟨q, hq, rfl⟩ | ⟨q, hq, rfl⟩
      · exact va_Nw.use rfl (k5 q hq)
      · exact va_Nw.use rfl (k6 q hq)
    have hxc : ∀ t : State, s.vm.Alike t.vm → H.size ≤ t.heap.size → (∀ q : Nat, q < H.size → t.heap[q]? = H[q]?) → mXc E ad w s.heap.size X w' X s t := by
      intro t ht hz hk9
      have hkept : va_P E.2.1 vwCl (mcW E.2.2.1 ad w') t.heap := qP.kept fun k q hq => hk9 q.1 (qP k q hq).lt
      exact ⟨rfl, hkept, qD, Nat.le_trans qS.1 hz, fun q g1 g2 => by rw [hk9 q (Nat.lt_of_lt_of_le g1 qS.1)]; exact qS.2.1 q g1 g2⟩
    rcases hdec with ⟨d0, d3, d4, d6, d9⟩ | ⟨d0, d3, d4, d6, d9⟩
    · exact vx_throwX (names := names) B.exec B.bytes hl hrx hown hX hnm (hall _ hk) (hall _ hini) (k3 _ hstr) hat hgood k7 k8 qS (hsize.trans hml.symm) d0 d3 d4 d6 d9 (fun x hx => (hnt x hx).elim) hfr (Nat.le_trans (by omega) hlo) (by show c1 + 1 ≤ 1; omega) (by show s1 + 6 ≤ 6; omega) hlocks hxc qS.2.2 (by omega) (by omega)
    · exact vx_throwXW (names := names) B.exec B.bytes hl hrx hown hX hnm (hall _ hk) (hall _ hini) (k3 _ hstr) hat hgood k7 k8 qS (hsize.trans hml.symm) d0 d3 d4 d6 d9 (fun x hx => (hnt x hx).elim) hfr (Nat.le_trans (by omega) hlo) (by show c1 + 1 ≤ 1; omega) (by show s1 + 6 ≤ 6; omega) hlocks hxc qS.2.2 (by omega) (by omega)
  · obtain ⟨qP, qD, qS⟩ := hw
    exact vx_out (fun x hx => (hnt x hx).elim) hlocks h1 h2 h3 (fun t ht _ => ⟨rfl, by rw [ht]; exact qP, qD, qS.F ht⟩) qS.2.2 (by omega) (by omega)

/-- a body with a table of its own, that answers -/
theorem Rh.of {E : mEnv} {y : mM} {n : Nat} {As : List Value} {w w' : mW} {v : Option Value} (hl : E.1.stackTraces = false) (hy : plainName (mN y).cls = true) (he : (mEnt As).length ≤ mL y) (h : Go E y n (0, mEnd As (mL y), [], w) (.inr (.inl (v, w')))) : Rh E y n As w v w' := by
  intro ad sz
  refine va_MetW (cc := mB y) (maxL := mL y) (ret := mT y) (hh := mHH y) hy rfl ?_
  intro p e s m args below meth c s₁ B hml hv
  obtain ⟨rfl, hsz, hP, hD0, hst, had⟩ := hv
  have hts := atoms_spec (ws := mWh y) B.pre
  have hown : s.vm.findClass (mN y).cls = some m.cls := findClass_of_methodNamed B.named
  have hlocks := B.notSynchronized
  subst hsz
  have hD := hD0.self (sz := s.heap.size)
  rw [lg_entry_eq]
  have C : mCx E y ad p (mRm y n) s m (As.map (mcV ad)).toArray meth c (va_A (mcW E.2.2.1 ad w) s.heap.size) := ⟨B.exec, B.bytes, B.returns, hml, hown, fun w h => hts w (List.mem_cons_of_mem _ h), hlocks, Nat.le_refl _, Nat.le_refl _, fun q hq => Or.inr hq, hst, hl, had, fun _ => vx_table (x := mN y) B (hts _ List.mem_cons_self)⟩
  refine h ad p e (mRm y n) s m _ below meth c (va_A (mcW E.2.2.1 ad w) s.heap.size) C 0 0 _ (by show 0 + n ≤ n; omega) (by show 0 + 6 * n ≤ 6 * n; omega) ?_ s.heap [] _ ⟨hP, hD, va_S.rf⟩ (mEnd_ls ad As he)
  intro H locs ls pc i hw hd hr
  rw [Nat.zero_add, Nat.zero_add]
  obtain ⟨qP, qD, qS⟩ := hw
  have fin : ∀ (t : State) (o : Outcome), t.heap = H → o = .returned (v.map (mcV ad)) → mQv E ad w s.heap.size v w' (As.map (mcV ad)).toArray s o t := fun t o ht ho => ⟨ho, by rw [ht]; exact qP, qD, qS.F ht⟩
  rcases hr with ⟨rfl, ty, x, h1, rfl, h3⟩ | ⟨rfl, h1, x, rfl⟩ | ⟨rfl, h1, rfl⟩
  · exact W.zret B.exec B.bytes (B.returns.trans h1) h3 (fun t ht _ => fin t _ ht rfl) qS.2.2 hd hlocks
  · exact W.lret B.exec B.bytes (B.returns.trans h1) (fun t ht _ => fin t _ ht rfl) qS.2.2 hd hlocks
  · exact W.vret B.exec B.bytes (B.returns.trans h1) (fun t ht _ => fin t _ ht rfl) qS.2.2 hd hlocks
def mPass (y : mM) (X : String) (pc : Nat) (z : ExceptionTableEntry) : Prop := covers z pc = false ∨ (z.catchType ≠ 0 ∧ ∃ nm : String, Cond.classLink (mN y).cls z.catchType nm ∈ mTBL ∧ (X, nm) ∈ mNcs)
/-- a virtual call that throws, caught by the row x of this method's table; the handler's first step puts it away into the local i -/
theorem g_catchV {E : mEnv} {y z : mM} {w w' : mW} {pc n n1 : Nat} {L : List (Option Value)} {st As : List Value} {G : mG} {X : String} {ix r ci : Nat} {fs : List Value} {q : vw_C} (d : decode (mB y) pc = .ok (.invokevirtual ix, 3)) (hz : mOkV z As.length) (hlk : mLk y ix z) (hft : mFit y z) (hR : Rx E z (.ref r :: As) w X w')
    (hm : mget w r = some (.inr (ci, fs))) (hq : vwCl[ci]? = some q) (hcls : q.1 = (mN z).cls) (hcat : Nat.ble ((st.map fun v => v.category).sum) 8 = true) {st9 : List Value} (h9 : As.reverse ++ .ref r :: st = st9)
    (pre : List ExceptionTableEntry) (x : ExceptionTableEntry) (suf : List ExceptionTableEntry) (hhh : mHH y ≠ []) (hsplit : tableOf (mHH y) = pre ++ x :: suf) (hpass : ∀ z ∈ pre, mPass y X pc z) (hx : covers x pc = true) (h0 : x.catchType ≠ 0) (hlink : Cond.classLink (mN y).cls x.catchType X ∈ mTBL) (hcast : (X, X) ∈ mCas)
    {i : Fin 4} (d2 : decode (mB y) x.handlerPc = .ok (.astore_n i, 1)) (hn : Nat.ble ((i : Nat) + 1) L.length = true) {L' : List (Option Value)} (hL' : (mst L (i : Nat) (.int 0)).set (i : Nat) none = L') (k : Go E y n (x.handlerPc + 1, L', [], w') G) (hn1 : 1 + n = n1) : Go E y n1 (pc, L, st9, w) G := by
  intro ad p e R s m args below meth c A C cells slots QQ hc hs hT H locs ls hw hl
  subst h9; subst hn1; subst hL'
  show W p E.1 e R s m args below meth c H locs cells slots QQ (F0 m pc ls ((As.reverse ++ .ref r :: st).map (mcV ad)))
  rw [mStk]
  have hM := hR ad H.size
  have cw : CallW R s args (mN y).cls (mN z).cls ix (mN z) (mB z) (mL z) (mT z) (mWs z) (mRm z 1) 1 6 As.length :=
    cwV As.length C.2.2.2.2.2.1 (mTBL_good fun w0 h0 => by
      unfold wsV at h0
      rcases List.mem_append.mp h0 with h0 | h0
      · simp only [List.mem_cons, List.not_mem_nil, or_false] at h0
        rcases h0 with rfl | rfl | rfl | rfl
        · exact hlk
        · exact hz.2.1
        · exact hz.2.2
        · exact hz.1.2.1
      · exact mWs_in hz.1 w0 h0) rfl rfl rfl ⟨rfl, hz.1.2.2.1.1, hz.1.2.2.1.2, hz.1.2.2.2⟩ ⟨Nat.le_trans hft.1 C.2.2.2.2.2.2.2.1, Nat.le_trans hft.2 C.2.2.2.2.2.2.2.2.1⟩
  have hrun := vx_runV (p := p) (e := e) (below := below) (meth := meth) (H := H) (locs := locs) (cells := cells) (slots := slots) (As := As.map (mcV ad)) (rest := st.map (mcV ad)) (g := F0 m pc ls ((As.map (mcV ad)).reverse ++ .ref (ad r) :: st.map (mcV ad))) (mFix C) hM cw
    ⟨mPre.blind, by rw [← hcls]; exact mRecv C hw hm hq, fun U hU hW => ⟨rfl, mPre.of C hw hU hW⟩⟩ rfl (by rw [List.length_map]) hl.1 rfl (mRoom hcat) d ⟨by omega, by omega⟩
  refine mRun_x C hw hrun (fun H1 locs1 q9 ce hd h1 h2 h3 => ?_)
  obtain ⟨-, -, -, k4, -, k6, -⟩ := C.2.2.2.2.2.2.2.2.2.2.1
  refine vx_catch C.2.2.2.2.1 pre x suf ((C.2.2.2.2.2.2.2.2.2.2.2.2.2 hhh).trans hsplit) (fun z9 hz9 => ?_) hx h0 (C.2.2.2.2.2.1 _ hlink) (va_Nw.use rfl (k6 _ hcast)) h1 h2 h3 ?_
  · rcases hpass z9 hz9 with h | ⟨h4, nm, h5, h6⟩
    · exact Or.inl h
    · exact Or.inr ⟨h4, nm, C.2.2.2.2.2.1 _ h5, k4 _ h6⟩
  · refine lv_astore_n (lv := mLv ad L) C.1 C.2.1 d2 rfl hl.has (by have := Nat.le_of_ble_eq_true hn; have : L.length = mL y := hl.2.2.1; omega) rfl (fun ls' h => ?_)
    have hl' : mLs ad (mL y) ls' ((mst L (i : Nat) (.int 0)).set (i : Nat) none) := by
      refine ⟨h.1, h.2.1, by rw [List.length_set, mst_len]; exact hl.2.2.1, fun j u hj => ?_⟩
      by_cases hji : (i : Nat) = j
      · subst hji
        rw [List.getElem?_set] at hj
        simp only [if_true] at hj
        split at hj <;> simp at hj
      · rw [List.getElem?_set_ne hji] at hj
        rcases mst_get hj with ⟨g1, g2⟩ | ⟨g1, g2, g3, g4⟩
        · exact absurd g1.symm hji
        · refine h.2.2 (j, mcV ad u) (List.mem_cons_of_mem _ (List.mem_filter.mpr ⟨mLv_mem g4, ?_⟩))
          have e1 : (j == (i : Nat)) = false := by simp [g1]
          have e2 : (j + 1 == (i : Nat) && (mcV ad u).category == 2) = false := by
            rw [mcV_cat]
            simp only [Bool.and_eq_false_iff, beq_eq_false_iff_ne]
            by_cases q : j + 1 = (i : Nat)
            · exact Or.inr fun z => g3 ⟨q, z⟩
            · exact Or.inl q
          show (!(j == (i : Nat)) && !(j + 1 == (i : Nat) && (mcV ad u).category == 2)) = true
          rw [e1, e2]; rfl
    refine k ad p e R s m args below meth c A C (cells + 1) (slots + 6) QQ (by omega) (by omega) ?_ H1 locs1 ls' hd hl'
    rw [show cells + 1 + n = cells + (1 + n) by omega, show slots + 6 + 6 * n = slots + 6 * (1 + n) by omega]
    exact hT
