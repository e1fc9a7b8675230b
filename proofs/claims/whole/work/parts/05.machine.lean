/-! THE PLAIN MACHINE: methods, what the start says beside the good words, the judgements Go and Rt, Rx -/
def mNest : List (String × Nat × MethodName × String) := [("PusherRoom$RoomText", 68, ⟨"PusherRoom", "bit", "(I)J"⟩, "PusherRoom"), ("PusherRoom$Grid", 40, ⟨"PusherRoom", "bit", "(I)J"⟩, "PusherRoom"), ("PusherRoom$Grid", 61, ⟨"PusherRoom", "opposite", "(I)I"⟩, "PusherRoom"), ("PusherRoom$Game", 85, ⟨"PusherRoom", "has", "(JI)Z"⟩, "PusherRoom"), ("PusherRoom$Position", 33, ⟨"PusherRoom", "bit", "(I)J"⟩, "PusherRoom"), ("PusherRoom$Game", 74, ⟨"PusherRoom", "intAt", "([II)I"⟩, "PusherRoom"), ("PusherRoom$Game", 147, ⟨"PusherRoom", "isPushCode", "(I)Z"⟩, "PusherRoom"), ("PusherRoom$Matching", 36, ⟨"PusherRoom", "has", "(JI)Z"⟩, "PusherRoom"), ("PusherRoom$Matching", 26, ⟨"PusherRoom", "setInt", "([III)V"⟩, "PusherRoom"), ("PusherRoom$Matching", 51, ⟨"PusherRoom", "bit", "(I)J"⟩, "PusherRoom"), ("PusherRoom$Matching", 44, ⟨"PusherRoom", "intAt", "([II)I"⟩, "PusherRoom"), ("PusherRoom$Grid", 71, ⟨"PusherRoom", "lowest", "(J)I"⟩, "PusherRoom"), ("PusherRoom$Layers", 19, ⟨"PusherRoom", "setLong", "([JIJ)V"⟩, "PusherRoom"), ("PusherRoom$Layers", 31, ⟨"PusherRoom", "longAt", "([JI)J"⟩, "PusherRoom"), ("PusherRoom$GoalRooms", 62, ⟨"PusherRoom", "has", "(JI)Z"⟩, "PusherRoom"), ("PusherRoom$Position", 56, ⟨"PusherRoom", "lowest", "(J)I"⟩, "PusherRoom"), ("PusherRoom$History", 37, ⟨"PusherRoom", "setLong", "([JIJ)V"⟩, "PusherRoom"), ("PusherRoom$History", 44, ⟨"PusherRoom", "setInt", "([III)V"⟩, "PusherRoom"), ("PusherRoom$Game", 96, ⟨"PusherRoom", "codeOf", "(IZ)I"⟩, "PusherRoom"), ("PusherRoom$Game", 78, ⟨"PusherRoom", "setInt", "([III)V"⟩, "PusherRoom"), ("PusherRoom$History", 50, ⟨"PusherRoom", "longAt", "([JI)J"⟩, "PusherRoom"), ("PusherRoom$History", 54, ⟨"PusherRoom", "intAt", "([II)I"⟩, "PusherRoom"), ("PusherRoom$Position", 71, ⟨"PusherRoom", "opposite", "(I)I"⟩, "PusherRoom"), ("PusherRoom$Layers", 39, ⟨"PusherRoom", "has", "(JI)Z"⟩, "PusherRoom"), ("PusherRoom$Game", 119, ⟨"PusherRoom", "bit", "(I)J"⟩, "PusherRoom"), ("PusherRoom$Search", 49, ⟨"PusherRoom", "setInt", "([III)V"⟩, "PusherRoom"), ("PusherRoom$Search", 62, ⟨"PusherRoom", "lowest", "(J)I"⟩, "PusherRoom"), ("PusherRoom$Search", 85, ⟨"PusherRoom", "intAt", "([II)I"⟩, "PusherRoom"), ("PusherRoom$Search", 74, ⟨"PusherRoom", "longAt", "([JI)J"⟩, "PusherRoom"), ("PusherRoom$Search", 123, ⟨"PusherRoom", "setLong", "([JIJ)V"⟩, "PusherRoom"), ("PusherRoom$Search", 89, ⟨"PusherRoom", "bit", "(I)J"⟩, "PusherRoom"), ("PusherRoom$Search", 100, ⟨"PusherRoom", "has", "(JI)Z"⟩, "PusherRoom"), ("PusherRoom$Search", 112, ⟨"PusherRoom", "opposite", "(I)I"⟩, "PusherRoom"), ("PusherRoom$Solution", 38, ⟨"PusherRoom", "setInt", "([III)V"⟩, "PusherRoom"), ("PusherRoom$Solution", 45, ⟨"PusherRoom", "intAt", "([II)I"⟩, "PusherRoom"), ("PusherRoom$Game", 150, ⟨"PusherRoom", "directionOf", "(I)I"⟩, "PusherRoom")]
def mStrs : List (String × Nat × String) := [("PusherRoom", 86, "the character's code is not from 32 to 126"), ("PusherRoom", 96, "the input is full"), ("PusherRoom$RoomText", 60, "#-.$*@+"), ("PusherRoom", 117, "the size, the player, the boxes or the goals are not those of a room"), ("PusherRoom", 379, "there is no room"), ("PusherRoom", 148, "there is no such cell"), ("PusherRoom", 187, "there is no such set"), ("PusherRoom", 219, "there is no such count"), ("PusherRoom", 225, "there is no such open cell"), ("PusherRoom", 227, "there is no such goal"), ("PusherRoom", 239, "there is no distance"), ("PusherRoom", 245, "there is no bound"), ("PusherRoom", 250, "the room is not stuck"), ("PusherRoom", 259, "there is no such goal room or place"), ("PusherRoom", 381, "there is no such direction"), ("PusherRoom", 274, "400 steps were recorded"), ("PusherRoom", 290, "the step is refused"), ("PusherRoom", 383, "there is no box on such a cell"), ("PusherRoom", 389, "the push is refused"), ("PusherRoom", 391, "more than 400 steps would be recorded"), ("PusherRoom$TextInput", 23, "urdlURDL"), ("PusherRoom", 417, "urdlURDL"), ("PusherRoom", 324, "a step is refused"), ("PusherRoom", 326, "no step of a text was refused"), ("PusherRoom", 328, "nothing was refused"), ("PusherRoom", 393, "the limit is not from 1 to 1000"), ("PusherRoom", 403, "the search gives up"), ("PusherRoom", 408, "there is no solution"), ("PusherRoom", 342, "there is no such part of a solution"), ("PusherRoom", 353, "there is no such step"), ("PusherRoom", 369, "no command can be undone"), ("PusherRoom", 377, "no snapshot was saved")]
def mNcs : List (String × String) := [("java/lang/ArithmeticException", "java/lang/IllegalArgumentException"), ("java/lang/ArithmeticException", "java/lang/IllegalStateException"), ("java/lang/ArithmeticException", "java/lang/IndexOutOfBoundsException"), ("java/lang/ArithmeticException", "java/lang/UnsupportedOperationException"), ("java/lang/ArithmeticException", "java/util/NoSuchElementException"), ("java/lang/IllegalArgumentException", "java/lang/ArithmeticException"), ("java/lang/IllegalArgumentException", "java/lang/IllegalStateException"), ("java/lang/IllegalArgumentException", "java/lang/IndexOutOfBoundsException"), ("java/lang/IllegalArgumentException", "java/lang/UnsupportedOperationException"), ("java/lang/IllegalArgumentException", "java/util/NoSuchElementException"), ("java/lang/IllegalStateException", "java/lang/ArithmeticException"), ("java/lang/IllegalStateException", "java/lang/IllegalArgumentException"), ("java/lang/IllegalStateException", "java/lang/IndexOutOfBoundsException"), ("java/lang/IllegalStateException", "java/lang/UnsupportedOperationException"), ("java/lang/IllegalStateException", "java/util/NoSuchElementException"), ("java/lang/IndexOutOfBoundsException", "java/lang/ArithmeticException"), ("java/lang/IndexOutOfBoundsException", "java/lang/IllegalArgumentException"), ("java/lang/IndexOutOfBoundsException", "java/lang/IllegalStateException"), ("java/lang/IndexOutOfBoundsException", "java/lang/UnsupportedOperationException"), ("java/lang/IndexOutOfBoundsException", "java/util/NoSuchElementException"), ("java/lang/UnsupportedOperationException", "java/lang/ArithmeticException"), ("java/lang/UnsupportedOperationException", "java/lang/IllegalArgumentException"), ("java/lang/UnsupportedOperationException", "java/lang/IllegalStateException"), ("java/lang/UnsupportedOperationException", "java/lang/IndexOutOfBoundsException"), ("java/lang/UnsupportedOperationException", "java/util/NoSuchElementException"), ("java/util/NoSuchElementException", "java/lang/ArithmeticException"), ("java/util/NoSuchElementException", "java/lang/IllegalArgumentException"), ("java/util/NoSuchElementException", "java/lang/IllegalStateException"), ("java/util/NoSuchElementException", "java/lang/IndexOutOfBoundsException"), ("java/util/NoSuchElementException", "java/lang/UnsupportedOperationException")]
def mDecs : List MethodName := [⟨"java/lang/RuntimeException", "<init>", "()V"⟩, ⟨"java/lang/RuntimeException", "<init>", "(Ljava/lang/String;)V"⟩, ⟨"java/lang/Exception", "<init>", "()V"⟩, ⟨"java/lang/Exception", "<init>", "(Ljava/lang/String;)V"⟩, ⟨"java/lang/Throwable", "<init>", "()V"⟩, ⟨"java/lang/Throwable", "<init>", "(Ljava/lang/String;)V"⟩]
def mCas : List (String × String) := [("java/lang/ArithmeticException", "java/lang/ArithmeticException"), ("java/lang/IllegalArgumentException", "java/lang/IllegalArgumentException"), ("java/lang/IllegalStateException", "java/lang/IllegalStateException"), ("java/lang/IndexOutOfBoundsException", "java/lang/IndexOutOfBoundsException"), ("java/lang/UnsupportedOperationException", "java/lang/UnsupportedOperationException"), ("java/util/NoSuchElementException", "java/util/NoSuchElementException")]
/-- String constants that are more than a text of a throw: class, place, number, bytes; the cell of number j is 1000 + j, its bytes are 1100 + j -/
def mSC : List (String × Nat × Nat × List Int32) := [("PusherRoom$RoomText", 60, 0, [35, 45, 46, 36, 42, 64, 43]), ("PusherRoom$TextInput", 23, 1, [117, 114, 100, 108, 85, 82, 68, 76]), ("PusherRoom", 417, 2, [117, 114, 100, 108, 85, 82, 68, 76])]
abbrev mEnv : Type := Launch × va_G × (Nat → ClassId) × (String → Nat → Addr) × (String → Nat → Addr) × Option Nat
def mAd (E : mEnv) (ad : Nat → Nat) : Prop := (∀ q ∈ mSC, ad (1000 + q.2.2.1) = E.2.2.2.1 q.1 q.2.1 ∧ ad (1100 + q.2.2.1) = E.2.2.2.2.1 q.1 q.2.1) ∧ ∀ f, E.2.2.2.2.2 = some f → ad 1300 = f
/-- a method: its name, its bytes, its locals, what it returns, its table, and the room below it: frames, locals -/
abbrev mM : Type := MethodName × ByteArray × Nat × Option FieldType × List (Nat × Nat × Nat × Nat) × Nat × Nat
def mN (y : mM) : MethodName := y.1
def mB (y : mM) : ByteArray := y.2.1
def mL (y : mM) : Nat := y.2.2.1
def mT (y : mM) : Option FieldType := y.2.2.2.1
def mHH (y : mM) : List (Nat × Nat × Nat × Nat) := y.2.2.2.2.1
def mFr (y : mM) : Nat := y.2.2.2.2.2.1
def mLo (y : mM) : Nat := y.2.2.2.2.2.2
def mTBL : List Cond := lw_tbl.filter goodWord
theorem mTBL_of {w : Cond} (h : w ∈ lw_tbl) (g : goodWord w = true) : w ∈ mTBL := List.mem_filter.mpr ⟨h, g⟩
/-- the words of a method (without a table of its own; with one) -/
def mWs (y : mM) : List Cond := .code (mN y) (mB y) (mL y) (mT y) :: mTBL
def mWh (y : mM) : List Cond := .codeWith (mN y) (mB y) (mL y) (mT y) (mHH y) :: mTBL
def mRm (y : mM) (k : Nat) : Room := { frames := mFr y, cells := k, slots := 6 * k, locals := mLo y }
def mTy (tA : Nat → ClassId) : List (ClassId × FieldType) := [(tA 0, .int), (tA 1, .long), (tA 2, .char), (tA 3, .boolean)]
def mSt (E : mEnv) (A : Nat → Prop) (U : State) (H : Heap) : Prop :=
  va_K E.2.1 vwCl (mTy E.2.2.1) U ∧ (∀ q ∈ mNest, va_Nw (.methodLinkNest q.1 q.2.1 q.2.2.1 q.2.2.2) U) ∧ (∀ q ∈ mStrs, vk_R q.1 q.2.1 q.2.2 (E.2.2.2.1 q.1 q.2.1) U) ∧ (∀ q ∈ mNcs, va_Nc q.1 q.2 U) ∧ (∀ q ∈ mDecs, va_Nw (.declares q) U) ∧ (∀ q ∈ mCas, va_Nw (.castable q.1 q.2) U) ∧
  vx_Zq Bundle.tN "UNASSIGNED_STACK" Bundle.steD A U H ∧ vx_Zq Bundle.tN "SUPPRESSED_SENTINEL" Bundle.listD A U H ∧
  (∀ q ∈ mSC, vk_S 1 [q.2.2.2.length] [q.2.2.2] (fun _ => E.2.2.2.1 q.1 q.2.1) (fun _ => E.2.2.2.2.1 q.1 q.2.1) A U H) ∧ va_Z "java/lang/String" "COMPACT_STRINGS" "Z" (.int 1) A U H ∧ va_Z "jdk/internal/util/Preconditions" "SIOOBE_FORMATTER" "Ljava/util/function/BiFunction;" (va_rf E.2.2.2.2.2) A U H
theorem mNw_moved {w : Cond} {u U : State} (hw : w.onTables = true) (he : w.before #[] (u.setVm U.vm) = w.before #[] u) (h : va_Nw w u) : va_Nw w U := va_tabs hw (rfl : (u.setVm U.vm).vm = U.vm) (he.trans h)
theorem mSt.moved {E : mEnv} {A B : Nat → Prop} {u U : State} {H H1 : Heap} (hW : u.WarmedH U.vm) (h : mSt E A u H) (hq' : ∀ a : Nat, a < H.size → ¬ A a → H1[a]? = H[a]?) (hAB : ∀ q, B q → A q) : mSt E B U H1 := by
  obtain ⟨h1, h2, h3, h4, h5, h6, h7, h8, h9, h10, h11⟩ := h
  refine ⟨va_K.moved hW.alike h1, fun q hq => va_Nw.warmM hW (h2 q hq), fun q hq => vk_R.warm hW (h3 q hq), fun q hq => va_Nc.moved hW.alike (h4 q hq), fun q hq => va_Nw.warmD hW (h5 q hq), fun q hq => mNw_moved rfl (Cond.castable_setVm hW.alike _ _) (h6 q hq), ?_, ?_, fun q hq => vk_S.narrow (vk_S.kept (vk_S.moved hW.alike (h9 q hq)) hq') hAB, va_Z.narrow (va_Z.kept (va_Z.moved hW.alike h10) hq') hAB, va_Z.narrow (va_Z.kept (va_Z.moved hW.alike h11) hq') hAB⟩
  · exact vx_Zq.narrow (vx_Zq.kept (vx_Zq.moved hW.alike h7) hq') hAB
  · exact vx_Zq.narrow (vx_Zq.kept (vx_Zq.moved hW.alike h8) hq') hAB
theorem mSt.blind {E : mEnv} {A : Nat → Prop} {U : State} (g : JFrame) (mk : MethodId) (a : Array Value) (h : mSt E A U U.heap) : mSt E A (U.calling g mk a) (U.calling g mk a).heap := by
  obtain ⟨h1, h2, h3, h4, h5, h6, h7, h8, h9, h10, h11⟩ := h
  exact ⟨va_K.moved (Vm.Alike.refl U.vm) h1, fun q hq => va_Nw.same rfl rfl (h2 q hq), fun q hq => vk_R.same rfl (h3 q hq), fun q hq => va_Nc.moved (Vm.Alike.refl U.vm) (h4 q hq), fun q hq => va_Nw.same rfl rfl (h5 q hq), fun q hq => va_Nw.same rfl rfl (h6 q hq), vx_Zq.moved (Vm.Alike.refl U.vm) h7, vx_Zq.moved (Vm.Alike.refl U.vm) h8, fun q hq => vk_S.moved (Vm.Alike.refl U.vm) (h9 q hq), va_Z.moved (Vm.Alike.refl U.vm) h10, va_Z.moved (Vm.Alike.refl U.vm) h11⟩
/-- a state of the plain machine: the place, locals, stack, world; where a road may end: at a state, with an answer, with a throw -/
abbrev mS : Type := Nat × List (Option Value) × List Value × mW
abbrev mG : Type := mS ⊕ (Option Value × mW) ⊕ (String × mW)
def mRet (i : Instr) (r : Option FieldType) (v : Option Value) : Prop :=
  (i = .ireturn ∧ ∃ ty x, r = some ty ∧ v = some (.int x) ∧ narrow ty (.int x) = .int x) ∨ (i = .lreturn ∧ r = some .long ∧ ∃ x, v = some (.long x)) ∨ (i = .return_ ∧ r = none ∧ v = none)
/-- 'throw new X("text")' stands at pc -/
def mThr (y : mM) (pc : Nat) (X : String) : Prop := ∃ (ik is ic : Nat) (text : String) (names : List String),
  ((decode (mB y) pc = .ok (.new ik, 3) ∧ decode (mB y) (pc + 3) = .ok (.dup, 1) ∧ decode (mB y) (pc + 4) = .ok (.ldc is, 2) ∧ decode (mB y) (pc + 6) = .ok (.invokespecial ic, 3) ∧ decode (mB y) (pc + 9) = .ok (.athrow, 1)) ∨
    (decode (mB y) pc = .ok (.new ik, 3) ∧ decode (mB y) (pc + 3) = .ok (.dup, 1) ∧ decode (mB y) (pc + 4) = .ok (.ldc_w is, 3) ∧ decode (mB y) (pc + 7) = .ok (.invokespecial ic, 3) ∧ decode (mB y) (pc + 10) = .ok (.athrow, 1))) ∧
  Bundle.fit X = true ∧ (∀ n ∈ names, Bundle.fit n = true) ∧ Cond.classLink (mN y).cls ik X ∈ mTBL ∧ Cond.initialized X ∈ mTBL ∧ ((mN y).cls, is, text) ∈ mStrs ∧
  (∀ w ∈ (vx_atS (mN y).cls ic X names).filter goodWord, w ∈ mTBL) ∧ (∀ w ∈ (vx_atS (mN y).cls ic X names).filter (fun w => !goodWord w), (∃ q ∈ mDecs, w = .declares q) ∨ (∃ q ∈ mCas, w = .castable q.1 q.2)) ∧
  (∀ w ∈ Cond.classLink (mN y).cls ik X :: Cond.initialized X :: vx_atS (mN y).cls ic X names, vx_ot w = true) ∧ names.length + 3 < mFr y ∧ 8 + (13 * (names.length + 1) + 43) ≤ mLo y
def mCx (E : mEnv) (y : mM) (ad : Nat → Nat) (p : Program) (R : Room) (s : State) (m : MethodId) (args : Array Value) (meth : Method) (c : Code) (A : Nat → Prop) : Prop :=
  p.tables.exec = Jvm.exec ∧ c.code = mB y ∧ meth.sig.returnType = mT y ∧ c.maxLocals = mL y ∧ s.vm.findClass (mN y).cls = some m.cls ∧ (∀ w ∈ mTBL, w.before args s = true) ∧ meth.locks = false ∧ mFr y ≤ R.frames ∧ mLo y ≤ R.locals ∧ (∀ q : Nat, s.heap.size ≤ q → A q) ∧ mSt E A s s.heap ∧ E.1.stackTraces = false ∧ mAd E ad ∧ (mHH y ≠ [] → c.exceptionTable.toList = tableOf (mHH y))
def mWd (E : mEnv) (ad : Nat → Nat) (s : State) (A : Nat → Prop) (w : mW) (H : Heap) (locs : List Loc) : Prop :=
  va_P E.2.1 vwCl (mcW E.2.2.1 ad w) H ∧ va_D A (mcW E.2.2.1 ad w) ∧ va_S A s.heap H locs
def mAt (E : mEnv) (y : mM) (ad : Nat → Nat) (p : Program) (e : Env) (R : Room) (s : State) (m : MethodId) (args : Array Value) (below : List Frame) (meth : Method) (c : Code) (A : Nat → Prop) (S : mS) (cells slots : Nat) (QQ : State → Prop) : Prop :=
  ∀ (H : Heap) (locs : List Loc) (ls : Array Slot), mWd E ad s A S.2.2.2 H locs → mLs ad (mL y) ls S.2.1 → W p E.1 e R s m args below meth c H locs cells slots QQ (F0 m S.1 ls (S.2.2.1.map (mcV ad)))
def mTo (E : mEnv) (y : mM) (ad : Nat → Nat) (p : Program) (e : Env) (R : Room) (s : State) (m : MethodId) (args : Array Value) (below : List Frame) (meth : Method) (c : Code) (A : Nat → Prop) (G : mG) (cells slots : Nat) (QQ : State → Prop) : Prop := match G with
  | .inl S => mAt E y ad p e R s m args below meth c A S cells slots QQ
  | .inr (.inl (v, w)) => ∀ (H : Heap) (locs : List Loc) (ls : Array Slot) (pc : Nat) (i : Instr), mWd E ad s A w H locs → decode (mB y) pc = .ok (i, 1) → mRet i (mT y) v → W p E.1 e R s m args below meth c H locs cells slots QQ (F0 m pc ls (v.toList.map (mcV ad)))
  | .inr (.inr (X, w)) => (∀ (H : Heap) (locs : List Loc) (ls : Array Slot) (pc : Nat) (st : List Value) (c1 s1 : Nat), mWd E ad s A w H locs → ls.size = mL y → mThr y pc X → (st.map fun v => v.category).sum ≤ 8 → c1 + 1 ≤ cells → s1 + 6 ≤ slots → W p E.1 e R s m args below meth c H locs c1 s1 QQ (F0 m pc ls st)) ∧
      (∀ (H : Heap) (locs : List Loc) (ls : Array Slot) (pc : Nat) (st : List Value) (q : Addr) (ce : Cell), mWd E ad s A w H locs → H[q]? = some ce → ce.vm = .none → s.vm.findClass X = some ce.cls → vx_W p E.1 e R s m args below meth c H locs cells slots QQ (F0 m pc ls st) q)
/-- from S the body of y comes to G, making at most n exceptions on the way -/
def Go (E : mEnv) (y : mM) (n : Nat) (S : mS) (G : mG) : Prop := ∀ (ad : Nat → Nat) (p : Program) (e : Env) (R : Room) (s : State) (m : MethodId) (args : Array Value) (below : List Frame) (meth : Method) (c : Code) (A : Nat → Prop), mCx E y ad p R s m args meth c A → ∀ (cells slots : Nat) (QQ : State → Prop), cells + n ≤ R.cells → slots + 6 * n ≤ R.slots → mTo E y ad p e R s m args below meth c A G (cells + n) (slots + 6 * n) QQ → mAt E y ad p e R s m args below meth c A S cells slots QQ
def mPre (E : mEnv) (ad : Nat → Nat) (w : mW) (sz : Nat) : State → Prop := fun U => U.heap.size = sz ∧ va_P E.2.1 vwCl (mcW E.2.2.1 ad w) U.heap ∧ va_D (fun _ => True) (mcW E.2.2.1 ad w) ∧ mSt E (va_A (mcW E.2.2.1 ad w) sz) U U.heap ∧ mAd E ad
def mQv (E : mEnv) (ad : Nat → Nat) (w : mW) (sz : Nat) (v : Option Value) (w' : mW) : Array Value → State → Outcome → State → Prop := fun _ st o t => o = .returned (v.map (mcV ad)) ∧ va_P E.2.1 vwCl (mcW E.2.2.1 ad w') t.heap ∧ va_D (va_A (mcW E.2.2.1 ad w) sz) (mcW E.2.2.1 ad w') ∧ va_F (va_A (mcW E.2.2.1 ad w) sz) st t
def mXc (E : mEnv) (ad : Nat → Nat) (w : mW) (sz : Nat) (X : String) (w' : mW) : String → State → State → Prop := fun Y st t => Y = X ∧ va_P E.2.1 vwCl (mcW E.2.2.1 ad w') t.heap ∧ va_D (va_A (mcW E.2.2.1 ad w) sz) (mcW E.2.2.1 ad w') ∧ va_F (va_A (mcW E.2.2.1 ad w) sz) st t
/-- the method y on the arguments As in the world w answers v and leaves w', making at most n exceptions; Rh: a method with a table of its own -/
def Rt (E : mEnv) (y : mM) (n : Nat) (As : List Value) (w : mW) (v : Option Value) (w' : mW) : Prop := ∀ (ad : Nat → Nat) (sz : Nat), Met E.1 (mN y) (mWs y) (mRm y n) (va_Pc (As.map (mcV ad)) (mPre E ad w sz)) (mQv E ad w sz v w') n (6 * n) (va_A (mcW E.2.2.1 ad w) sz)
def Rh (E : mEnv) (y : mM) (n : Nat) (As : List Value) (w : mW) (v : Option Value) (w' : mW) : Prop := ∀ (ad : Nat → Nat) (sz : Nat), Met E.1 (mN y) (mWh y) (mRm y n) (va_Pc (As.map (mcV ad)) (mPre E ad w sz)) (mQv E ad w sz v w') n (6 * n) (va_A (mcW E.2.2.1 ad w) sz)
/-- .. it throws an X, leaving w' -/
def Rx (E : mEnv) (y : mM) (As : List Value) (w : mW) (X : String) (w' : mW) : Prop := ∀ (ad : Nat → Nat) (sz : Nat), vx_Met E.1 (mN y) (mWs y) (mRm y 1) (va_Pc (As.map (mcV ad)) (mPre E ad w sz)) (fun _ _ _ _ => False) (mXc E ad w sz X w') 1 6 (va_A (mcW E.2.2.1 ad w) sz)
theorem mPre.blind {E : mEnv} {ad : Nat → Nat} {w : mW} {sz : Nat} {av : List Value} : FrameBlind (va_Pc av (mPre E ad w sz)) := fun a U g mk h => ⟨h.1, h.2.1, h.2.2.1, h.2.2.2.1, h.2.2.2.2.1.blind g mk a, h.2.2.2.2.2⟩
/-- the call's start, out of the caller's state -/
theorem mPre.of {E : mEnv} {ad : Nat → Nat} {y : mM} {p : Program} {R : Room} {s : State} {m : MethodId} {args : Array Value} {meth : Method} {c : Code} {A : Nat → Prop} {w : mW} {H : Heap} {locs : List Loc} (C : mCx E y ad p R s m args meth c A) (hw : mWd E ad s A w H locs) {U : State} (hU : U.heap = H) (hW : s.WarmedH U.vm) : mPre E ad w H.size U := by
  obtain ⟨hP, hD, hS⟩ := hw
  obtain ⟨-, -, -, -, -, -, -, -, -, hA, hst, -, had, -⟩ := C
  have hF : ∀ q, va_A (mcW E.2.2.1 ad w) H.size q → A q := fun q h => by
    rcases h with ⟨k, e, h⟩ | h
    · exact hD.2 k (q, e) h
    · exact hA q (Nat.le_trans hS.1 h)
  refine ⟨by rw [hU], by rw [hU]; exact hP, hD.weaken (fun _ _ _ _ => trivial), ?_, had⟩
  rw [hU]
  exact hst.moved hW (fun a h1 h2 => hS.2.1 a h1 h2) hF
theorem mWd.free {E : mEnv} {ad : Nat → Nat} {s : State} {A : Nat → Prop} {w : mW} {H : Heap} {locs : List Loc} (hA : ∀ q : Nat, s.heap.size ≤ q → A q) (hw : mWd E ad s A w H locs) : ∀ q, va_A (mcW E.2.2.1 ad w) H.size q → A q := fun q h => by
  rcases h with ⟨k, e, h⟩ | h
  · exact hw.2.1.2 k (q, e) h
  · exact hA q (Nat.le_trans hw.2.2.1 h)
theorem mRm_room {y : mM} {n : Nat} {ws : List Cond} : (headSpec ws (mRm y n)).room = mRm y n := rfl
/-- a body that answers -/
theorem Rt.of {E : mEnv} {y : mM} {n : Nat} {As : List Value} {w w' : mW} {v : Option Value} (hl : E.1.stackTraces = false) (h0 : mHH y = []) (hy : plainName (mN y).cls = true) (he : (mEnt As).length ≤ mL y) (h : Go E y n (0, mEnd As (mL y), [], w) (.inr (.inl (v, w')))) : Rt E y n As w v w' := by
  intro ad sz
  refine Met.ofW (cc := mB y) (maxL := mL y) (ret := mT y) hy rfl ?_
  intro p e s m args below meth c s₁ B hml hv
  obtain ⟨rfl, hsz, hP, hD0, hst, had⟩ := hv
  have hts := atoms_spec (ws := mWs y) B.pre
  have hown : s.vm.findClass (mN y).cls = some m.cls := findClass_of_methodNamed B.named
  have hlocks := B.notSynchronized
  subst hsz
  have hD := hD0.self (sz := s.heap.size)
  rw [lg_entry_eq]
  have C : mCx E y ad p (mRm y n) s m (As.map (mcV ad)).toArray meth c (va_A (mcW E.2.2.1 ad w) s.heap.size) := ⟨B.exec, B.bytes, B.returns, hml, hown, fun w h => hts w (List.mem_cons_of_mem _ h), hlocks, Nat.le_refl _, Nat.le_refl _, fun q hq => Or.inr hq, hst, hl, had, fun h => absurd h0 h⟩
  refine h ad p e (mRm y n) s m _ below meth c (va_A (mcW E.2.2.1 ad w) s.heap.size) C 0 0 _ (by show 0 + n ≤ n; omega) (by show 0 + 6 * n ≤ 6 * n; omega) ?_ s.heap [] _ ⟨hP, hD, va_S.rf⟩ (mEnd_ls ad As he)
  intro H locs ls pc i hw hd hr
  rw [Nat.zero_add, Nat.zero_add]
  obtain ⟨qP, qD, qS⟩ := hw
  have fin : ∀ (t : State) (o : Outcome), t.heap = H → o = .returned (v.map (mcV ad)) → mQv E ad w s.heap.size v w' (As.map (mcV ad)).toArray s o t := fun t o ht ho => ⟨ho, by rw [ht]; exact qP, qD, qS.F ht⟩
  rcases hr with ⟨rfl, ty, x, h1, rfl, h3⟩ | ⟨rfl, h1, x, rfl⟩ | ⟨rfl, h1, rfl⟩
  · exact W.zret B.exec B.bytes (B.returns.trans h1) h3 (fun t ht _ => fin t _ ht rfl) qS.2.2 hd hlocks
  · exact W.lret B.exec B.bytes (B.returns.trans h1) (fun t ht _ => fin t _ ht rfl) qS.2.2 hd hlocks
  · exact W.vret B.exec B.bytes (B.returns.trans h1) (fun t ht _ => fin t _ ht rfl) qS.2.2 hd hlocks
