section
/-! ===== BEGIN words of one list among another's, by their places ===== -/
theorem goodIn_r {big : List Cond} (ws : List Cond) (ps : List Nat) (hp : ws = ps.filterMap (fun i => big[i]?)) (h : ws.all goodWord = true) : GoodIn big ws := by
  intro w hw
  have h1 := List.all_eq_true.mp h w hw
  rw [hp] at hw
  obtain ⟨i, -, hi⟩ := List.mem_filterMap.mp hw
  have hm : w ∈ big := by first | exact List.mem_of_getElem? hi | exact List.getElem?_mem hi
  exact ⟨hm, good_of_word h1⟩
theorem goodIn_app {big a b : List Cond} (ha : GoodIn big a) (hb : GoodIn big b) : GoodIn big (a ++ b) := fun w h => (List.mem_append.mp h).elim (ha w) (hb w)
theorem goodIn_ca {big a b : List Cond} {c : Cond} (ha : GoodIn big (c :: a)) (hb : GoodIn big b) : GoodIn big (c :: (a ++ b)) := fun w h => (List.mem_cons.mp h).elim (fun e => ha w (List.mem_cons.mpr (Or.inl e))) (fun h => (List.mem_append.mp h).elim (fun h => ha w (List.mem_cons.mpr (Or.inr h))) (hb w))
theorem goodIn_sub {big ws : List Cond} (hm : ∀ w ∈ ws, w ∈ big) (h : ws.all goodWord = true) : GoodIn big ws := fun w hw => ⟨hm w hw, good_of_word (List.all_eq_true.mp h w hw)⟩
/-! ===== END ===== -/

/-! ===== BEGIN exceptions that leave a method, and their catching by the caller (launches without stack traces) ===== -/
section VXA
/-! The laws vx_back, vx_callV, vx_callS, vx_callSW, vx_throw0, vx_throwS follow proofs of the library, with one case more: JvmDerived/Free/Laws.lean (Back.of_free), Shelf42/LK1.lean (callV, callS), Shelf/KitTraced.lean (throwNew0V, throwNewS). -/
/-- where a method has thrown q: the class by its name, the cell, what was written, the world -/
def vx_T (XC : String → State → State → Prop) (st : State) (q : Addr) (t : State) (mc ms : Nat) (free : Addr → Prop) : Prop :=
  ∃ (E : String) (ce : Cell) (L : List Loc), XC E st t ∧ t.heap[q]? = some ce ∧ ce.vm = .none ∧ st.vm.findClass E = some ce.cls ∧ st.WarmedH t.vm ∧ st.sameButNew ({ t with vm := st.vm } : State) L mc ms ∧ ∀ z ∈ L, free z.base
def vx_Q (Qc : Array Value → State → Outcome → State → Prop) (XC : String → State → State → Prop) (mc ms : Nat) (free : Addr → Prop) : Array Value → State → Outcome → State → Prop := fun a st o t =>
  (Qc a st o t ∧ ∃ L, FrameEnd st o t L mc ms ∧ ∀ q ∈ L, free q.base) ∨ ∃ q, o = .threw q ∧ vx_T XC st q t mc ms free
/-- a callee that returns or throws -/
def vx_Met (l : Launch) (y : MethodName) (ws : List Cond) (rm : Room) (Pc : Array Value → State → Prop) (Qc : Array Value → State → Outcome → State → Prop) (XC : String → State → State → Prop) (mc ms : Nat) (free : Addr → Prop) : Prop :=
  MetFree l y (headSpec ws rm) Pc (fun _ _ _ _ _ => True) (vx_Q Qc XC mc ms free)
def vx_Post (XC : String → State → State → Prop) (mc ms : Nat) (free : Addr → Prop) : Pt → Array Value → Addr → Pt → Prop := fun A a q B =>
  ∃ (g : JFrame) (mk : MethodId) (t : State) (L : List Loc) (E : String) (ce : Cell), B.U.heap = t.heap ∧ B.U.vm = t.vm ∧ XC E (A.U.calling g mk a) t ∧ t.heap[q]? = some ce ∧ ce.vm = .none ∧ A.U.vm.findClass E = some ce.cls ∧ B.locs = A.locs ++ L ∧ (∀ z ∈ L, free z.base) ∧ B.cells = A.cells + mc ∧ B.slots = A.slots + ms
def vx_Back (l : Launch) (R : Room) (p : Program) (e : Env) (below : List Frame) (s : State) (sargs : Array Value) (y : MethodName) (len W9 : Nat)
    (Pre : Pt → Array Value → Prop) (Post : Pt → Array Value → Option Value → Pt → Prop) (PostX : Pt → Array Value → Addr → Pt → Prop) : Prop :=
  ∀ (m : MethodId) (meth : Method) (c : Code) (A : Pt) (g : JFrame) (ig : Instr) (mk : MethodId) (a : Array Value),
    Stand p l e R s m sargs below meth c A.U A.locs A.cells A.slots → g.method = m → g.locals.size = c.maxLocals → decode c.code g.pc = .ok (ig, len) →
    2 * g.monitorRoom + (g.stack.map fun v => v.category).sum ≤ W9 → A.U.methodNamed? y = some mk → Pre A a →
    (∃ (v : Option Value) (B : Pt), Stand p l e R s m sargs below meth c B.U B.locs B.cells B.slots ∧ Post A a v B ∧
      Steps p.tables e below (doInvoke e (A.U.setTop g) [] mk a).1 (B.U.setTop { g with pc := g.pc + len, stack := v.toList ++ g.stack })) ∨
    (∃ (q : Addr) (B : Pt), Stand p l e R s m sargs below meth c B.U B.locs B.cells B.slots ∧ PostX A a q B ∧
      Steps p.tables e below (doInvoke e (A.U.setTop g) [] mk a).1 ((B.U.setTop g).pushFrame (.throwing q)))
section Payer
variable {l : Launch} {R : Room} {p : Program} {e : Env} {below : List Frame} {s : State} {sargs : Array Value} {y : MethodName} {len W9 : Nat}
theorem vx_back {ws : List Cond} {rm : Room} {Pc : Array Value → State → Prop} {Qc : Array Value → State → Outcome → State → Prop} {XC : String → State → State → Prop} {mc ms : Nat} {free : Addr → Prop} {bytes : ByteArray} {maxL : Nat} {ret : Option FieldType}
    (hM : vx_Met l y ws rm Pc Qc XC mc ms free) (hblind : FrameBlind Pc) (hrc : rm.cells = mc) (hrs : rm.slots = ms)
    (hframes : rm.frames + 1 ≤ R.frames) (hlocals : W9 + (maxL + 11) + rm.locals ≤ R.locals)
    (hws : ∀ w ∈ ws, ∀ a' U, s.WarmedH U.vm → w.before a' U = true) (hcode : Cond.code y bytes maxL ret ∈ ws) (hinit : ∀ a' U, s.WarmedH U.vm → (Cond.initialized y.cls).before a' U = true) :
    vx_Back l R p e below s sargs y len W9 (PreOf R mc ms Pc) (PostOf Qc mc ms free) (vx_Post XC mc ms free) := by
  intro m meth c A g ig mk a X hg hsize hdg hW hn hp
  have h1 : (headSpec ws rm).pre.before a A.U = true := atoms_intro fun w hw => hws w hw _ _ X.warmed
  have h2 : (Cond.code y bytes maxL ret).before a A.U = true := hws _ hcode _ _ X.warmed
  have h3 : (Cond.initialized y.cls).before a A.U = true := hinit _ _ X.warmed
  have h4 : A.cells + (headSpec ws rm).room.cells ≤ R.cells := by rw [show (headSpec ws rm).room.cells = mc from hrc]; exact hp.1
  have h5 : A.slots + (headSpec ws rm).room.slots ≤ R.slots := by rw [show (headSpec ws rm).room.slots = ms from hrs]; exact hp.2.1
  have hPc : Pc a (A.U.calling g mk a) := hblind _ _ _ _ hp.2.2
  obtain ⟨U, Ls, c0, s0⟩ := A
  dsimp only [Pt.U, Pt.locs, Pt.cells, Pt.slots] at h1 h2 h3 h4 h5 X hn hPc ⊢
  obtain ⟨methY, cY, hmY, hcY, -, hlY, -, -, -, -⟩ := Cond.code_spec hn h2
  obtain ⟨kY, hkY, -⟩ := className_of_methodNamed hn
  have hinitY : kY.init = .initialized := Cond.initialized_spec (findClass_of_methodNamed hn) hkY h3
  have h : At U g.method c below := by rw [hg]; exact X.here
  have hlocals9 : W9 + (maxL + 11) + (headSpec ws rm).room.locals ≤ R.locals := hlocals
  have happ : (headSpec ws rm).appliesLoose y e.platform (U.calling g mk a) = true :=
    Spec.appliesLoose_calling (g := g) h hdg hn hkY hinitY
      (X.room_calling (g := g) (R' := (headSpec ws rm).room) hsize hmY hcY hframes (by rw [hlY]; omega) h4 h5) h1
  obtain ⟨mid, hmid⟩ := h.above
  have hfr : (U.setTop g).frames = (.java g :: mid) ++ below := by rw [State.frames_setTop' g h.top, hmid]; rfl
  obtain ⟨o, s₂, hsteps, -, hend, hq⟩ := Steps.callFree hM p X.admits X.cas X.clock (acts := []) hfr happ hPc trivial
  have hq' : vx_Q Qc XC mc ms free a (U.calling g mk a) o s₂ := hq
  rw [State.frames_setTop' g h.top] at hend
  obtain ⟨g₀, hg0⟩ := Option.isSome_iff_exists.mp h.top
  obtain ⟨r, hr⟩ := State.topJava?_eq_some.mp hg0
  have hr' : (({ U with heap := s₂.heap, slotsUsed := s₂.slotsUsed } : State).setVm s₂.vm).frames = .java g₀ :: r := hr
  rcases hq' with ⟨hqc, L, hfe, hL⟩ | ⟨q, rfl, E, ce, L, hx, hce, hcv, hcl, hW₂, hsm, hL⟩
  · obtain ⟨⟨v, rfl⟩, hW₂, e2, q2, q3, q4, q5, q6⟩ := id hfe
    have e3 : s₂ = ({ (U.calling g mk a).setFrames s₂.frames with heap := s₂.heap, slotsUsed := s₂.slotsUsed } : State).setVm s₂.vm := by
      have : s₂ = ({ s₂ with vm := (U.calling g mk a).vm } : State).setVm s₂.vm := rfl
      rw [e2] at this
      exact this
    obtain ⟨c₂, i₂, len₂, hc₂, hd₂, hf₂⟩ := hend
    have hW' : U.WarmedH s₂.vm := hW₂
    have hcc : c₂ = c := by
      have h1 : s₂.code? g.method = U.code? g.method := by
        rw [State.code?_eq, State.code?_eq, hW'.alike.method?]
      exact Option.some.inj (hc₂.symm.trans (h1.trans h.code))
    subst hcc
    have hlen : len₂ = len := by rw [hdg] at hd₂; cases hd₂; rfl
    subst hlen
    have hs₂ : s₂ = (({ U with heap := s₂.heap, slotsUsed := s₂.slotsUsed } : State).setVm s₂.vm).setTop { g with pc := g.pc + len₂, stack := v.toList ++ g.stack } := by
      refine e3.trans ?_
      rw [hf₂, State.calling_eq h.top, State.setFrames_setFrames, State.setTop_of_frames _ hr', hr]
      rfl
    have hsame : U.sameButNew ({ U with heap := s₂.heap, slotsUsed := s₂.slotsUsed } : State) L mc ms := by
      refine ⟨?_, q2, q3, q4, q5, q6⟩
      obtain ⟨t, ht, -⟩ := State.frames_cons hr
      show ({ U with heap := s₂.heap, slotsUsed := s₂.slotsUsed } : State) = { U.setFrames U.frames with heap := s₂.heap, slotsUsed := s₂.slotsUsed }
      rw [State.setFrames_self ht]
    subst hg
    refine Or.inl ⟨v, ⟨(({ U with heap := s₂.heap, slotsUsed := s₂.slotsUsed } : State).setVm s₂.vm), Ls ++ L, c0 + mc, s0 + ms⟩,
      ⟨X.admits, X.cas, X.clock, X.frames, X.room, X.hears, X.method, X.code, (X.here.setHeapUsed s₂.heap s₂.slotsUsed).setVm hW'.alike, X.tail, State.WarmedH.trans X.warmed hW', X.limits, X.bytes, X.same.trans (hsame.setVm s.vm)⟩,
      ⟨g, mk, s₂, L, rfl, rfl, hqc, rfl, hL, rfl, rfl⟩, ?_⟩
    show Steps p.tables e below _ ((({ U with heap := s₂.heap, slotsUsed := s₂.slotsUsed } : State).setVm s₂.vm).setTop { g with pc := g.pc + len₂, stack := v.toList ++ g.stack })
    rw [← hs₂]
    exact hsteps
  · obtain ⟨e2, q2, q3, q4, q5, q6⟩ := id hsm
    have e3 : s₂ = ({ (U.calling g mk a).setFrames s₂.frames with heap := s₂.heap, slotsUsed := s₂.slotsUsed } : State).setVm s₂.vm := by
      have : s₂ = ({ s₂ with vm := (U.calling g mk a).vm } : State).setVm s₂.vm := rfl
      rw [e2] at this
      exact this
    have hf₂ : s₂.frames = .throwing q :: .java g :: U.frames.tail := hend
    have hW' : U.WarmedH s₂.vm := hW₂
    have hs₂ : s₂ = ((({ U with heap := s₂.heap, slotsUsed := s₂.slotsUsed } : State).setVm s₂.vm).setTop g).pushFrame (.throwing q) := by
      refine e3.trans ?_
      rw [hf₂, State.calling_eq h.top, State.setFrames_setFrames, State.pushFrame, State.frames_setTop _ hr', State.setTop_of_frames _ hr', State.setFrames_setFrames, hr]
      rfl
    have hsame : U.sameButNew ({ U with heap := s₂.heap, slotsUsed := s₂.slotsUsed } : State) L mc ms := by
      refine ⟨?_, q2, q3, q4, q5, q6⟩
      obtain ⟨t, ht, -⟩ := State.frames_cons hr
      show ({ U with heap := s₂.heap, slotsUsed := s₂.slotsUsed } : State) = { U.setFrames U.frames with heap := s₂.heap, slotsUsed := s₂.slotsUsed }
      rw [State.setFrames_self ht]
    subst hg
    refine Or.inr ⟨q, ⟨(({ U with heap := s₂.heap, slotsUsed := s₂.slotsUsed } : State).setVm s₂.vm), Ls ++ L, c0 + mc, s0 + ms⟩,
      ⟨X.admits, X.cas, X.clock, X.frames, X.room, X.hears, X.method, X.code, (X.here.setHeapUsed s₂.heap s₂.slotsUsed).setVm hW'.alike, X.tail, State.WarmedH.trans X.warmed hW', X.limits, X.bytes, X.same.trans (hsame.setVm s.vm)⟩,
      ⟨g, mk, s₂, L, E, ce, rfl, rfl, hx, hce, hcv, hcl, rfl, hL, rfl, rfl⟩, ?_⟩
    show Steps p.tables e below _ (((({ U with heap := s₂.heap, slotsUsed := s₂.slotsUsed } : State).setVm s₂.vm).setTop g).pushFrame (.throwing q))
    rw [← hs₂]
    exact hsteps
end Payer
section Calls
variable {p : Program} {l : Launch} {e : Env} {R : Room} {s : State} {m : MethodId} {args : Array Value} {below : List Frame} {meth : Method} {c : Code} {T : State} {locs : List Loc} {cells slots : Nat}
theorem vx_callV (X : Stand p l e R s m args below meth c T locs cells slots) (hexec : p.tables.exec = Jvm.exec) {own C : String} {index : Nat} {y : MethodName} {bytes : ByteArray} {maxL : Nat} {ret : Option FieldType}
    (hown : s.vm.findClass own = some m.cls) (hlink : (Cond.methodLink own index y).before args s = true) (hinst : (Cond.instanceMethod y).before args s = true) (hsel : (Cond.selects C y y).before args s = true)
    (hcode : (Cond.code y bytes maxL ret).before args s = true) (hy : y.cls ≠ "java/lang/invoke/MethodHandle" ∧ y.cls ≠ "java/lang/invoke/VarHandle")
    {W9 : Nat} {Pre : Pt → Array Value → Prop} {Post : Pt → Array Value → Option Value → Pt → Prop} {PostX : Pt → Array Value → Addr → Pt → Prop} (hK : vx_Back l R p e below s args y 3 W9 Pre Post PostX)
    {b : Addr} {cellB : Cell} (hcell : T.heap[b]? = some cellB) (hobj : cellB.vm.isStatics = false) (hcls : s.vm.findClass C = some cellB.cls)
    {g : JFrame} (hg : g.method = m) (hsize : g.locals.size = c.maxLocals) {argsL rest : List Value} (hlen : ∀ sig, parseMethodDescriptor y.desc = some sig → argsL.length = sig.parameters.length)
    (hstack : g.stack = argsL.reverse ++ .ref b :: rest) (hW : 2 * g.monitorRoom + (rest.map fun v => v.category).sum ≤ W9) (hdg : decode c.code g.pc = .ok (.invokevirtual index, 3))
    (hpre : ∀ vm₁, s.WarmedH vm₁ → Pre ⟨T.setVm vm₁, locs, cells, slots⟩ (Value.ref b :: argsL).toArray) :
    (∃ (v : Option Value) (vm₁ : Vm) (B : Pt), s.WarmedH vm₁ ∧ Stand p l e R s m args below meth c B.U B.locs B.cells B.slots ∧ Post ⟨T.setVm vm₁, locs, cells, slots⟩ (Value.ref b :: argsL).toArray v B ∧
      ∀ target, Steps p.tables e below (B.U.setTop { g with pc := g.pc + 3, stack := v.toList ++ rest }) target → Steps p.tables e below (T.setTop g) target) ∨
    (∃ (q : Addr) (vm₁ : Vm) (B : Pt), s.WarmedH vm₁ ∧ Stand p l e R s m args below meth c B.U B.locs B.cells B.slots ∧ PostX ⟨T.setVm vm₁, locs, cells, slots⟩ (Value.ref b :: argsL).toArray q B ∧
      Steps p.tables e below (T.setTop g) ((B.U.setTop { g with stack := rest }).pushFrame (.throwing q))) := by
  obtain ⟨mk, methM, hnamed, hmethM, hstM, habM⟩ := Cond.instanceMethod_spec hinst
  obtain ⟨methM', cM, hmethM', -, -, -, -, -, -, hsigM⟩ := Cond.code_spec hnamed hcode
  cases hmethM.symm.trans hmethM'
  obtain ⟨c2, r2, m2, q1, q2, q3, q4, kP, hkP, hkPi⟩ := Cond.selects_spec hsel
  cases hcls.symm.trans q1
  cases (State.methodFound?_of_named hnamed hy).symm.trans q2
  cases hnamed.symm.trans q3
  have hselP : selectMethod e.platform s.vm cellB.cls mk = .method mk := by rw [Launch.admits_selectMethod X.admits]; exact q4
  obtain ⟨vm₁, X₁, hstep₁⟩ := X.invokevirtual hexec hown hlink hnamed hmethM hstM hkP hkPi hy (a := b) (cell := cellB) hcell
    (fun z h => by rw [h] at hobj; cases hobj) hselP hmethM habM hkP hkPi (g := g) hg (argsL := argsL) (rest := rest) (hlen _ hsigM) hstack hdg
  rcases hK m meth c ⟨T.setVm vm₁, locs, cells, slots⟩ { g with stack := rest } (.invokevirtual index) mk (Value.ref b :: argsL).toArray X₁ hg hsize hdg hW (X₁.named hnamed) (hpre vm₁ X₁.warmed) with ⟨v, B, X', hpost, hsteps⟩ | ⟨q, B, X', hpost, hsteps⟩
  · exact Or.inl ⟨v, vm₁, B, X₁.warmed, X', hpost, fun target h => hstep₁ _ fun acts => by rw [doInvoke_state]; exact hsteps.trans h⟩
  · exact Or.inr ⟨q, vm₁, B, X₁.warmed, X', hpost, hstep₁ _ fun acts => by rw [doInvoke_state]; exact hsteps⟩
theorem vx_callS (X : Stand p l e R s m args below meth c T locs cells slots) (hexec : p.tables.exec = Jvm.exec) {own : String} {index : Nat} {y : MethodName} {bytes : ByteArray} {maxL : Nat} {ret : Option FieldType}
    (hown : s.vm.findClass own = some m.cls) (hlink : (Cond.methodLink own index y).before args s = true) (hstat : (Cond.static y).before args s = true) (hinit : (Cond.initialized y.cls).before args s = true)
    (hcode : (Cond.code y bytes maxL ret).before args s = true) (hy : y.cls ≠ "java/lang/invoke/MethodHandle" ∧ y.cls ≠ "java/lang/invoke/VarHandle")
    {W9 : Nat} {Pre : Pt → Array Value → Prop} {Post : Pt → Array Value → Option Value → Pt → Prop} {PostX : Pt → Array Value → Addr → Pt → Prop} (hK : vx_Back l R p e below s args y 3 W9 Pre Post PostX)
    {g : JFrame} (hg : g.method = m) (hsize : g.locals.size = c.maxLocals) {argsL rest : List Value} (hlen : ∀ sig, parseMethodDescriptor y.desc = some sig → argsL.length = sig.parameters.length)
    (hstack : g.stack = argsL.reverse ++ rest) (hW : 2 * g.monitorRoom + (rest.map fun v => v.category).sum ≤ W9) (hdg : decode c.code g.pc = .ok (.invokestatic index, 3))
    (hpre : ∀ vm₁, s.WarmedH vm₁ → Pre ⟨T.setVm vm₁, locs, cells, slots⟩ argsL.toArray) :
    (∃ (v : Option Value) (vm₁ : Vm) (B : Pt), s.WarmedH vm₁ ∧ Stand p l e R s m args below meth c B.U B.locs B.cells B.slots ∧ Post ⟨T.setVm vm₁, locs, cells, slots⟩ argsL.toArray v B ∧
      ∀ target, Steps p.tables e below (B.U.setTop { g with pc := g.pc + 3, stack := v.toList ++ rest }) target → Steps p.tables e below (T.setTop g) target) ∨
    (∃ (q : Addr) (vm₁ : Vm) (B : Pt), s.WarmedH vm₁ ∧ Stand p l e R s m args below meth c B.U B.locs B.cells B.slots ∧ PostX ⟨T.setVm vm₁, locs, cells, slots⟩ argsL.toArray q B ∧
      Steps p.tables e below (T.setTop g) ((B.U.setTop { g with stack := rest }).pushFrame (.throwing q))) := by
  obtain ⟨mk, hnamed⟩ := Cond.code_named hcode
  obtain ⟨methM, cM, hmethM, -, -, -, -, -, -, hsigM⟩ := Cond.code_spec hnamed hcode
  have hstatic : methM.isStatic = true := Cond.static_spec hnamed hmethM hstat
  obtain ⟨kP, hkP, -⟩ := className_of_methodNamed hnamed
  have hinitP : kP.init = .initialized := Cond.initialized_spec (findClass_of_methodNamed hnamed) hkP hinit
  obtain ⟨vm₁, X₁, hstep₁⟩ := X.invokestatic hexec hown hlink hnamed hmethM hstatic hkP hinitP hy (g := g) hg (argsL := argsL) (rest := rest) (hlen _ hsigM) hstack hdg
  rcases hK m meth c ⟨T.setVm vm₁, locs, cells, slots⟩ { g with stack := rest } (.invokestatic index) mk argsL.toArray X₁ hg hsize hdg hW (X₁.named hnamed) (hpre vm₁ X₁.warmed) with ⟨v, B, X', hpost, hsteps⟩ | ⟨q, B, X', hpost, hsteps⟩
  · exact Or.inl ⟨v, vm₁, B, X₁.warmed, X', hpost, fun target h => hstep₁ _ fun acts => by rw [doInvoke_state]; exact hsteps.trans h⟩
  · exact Or.inr ⟨q, vm₁, B, X₁.warmed, X', hpost, hstep₁ _ fun acts => by rw [doInvoke_state]; exact hsteps⟩
end Calls
theorem vx_cls {s : State} {T : State} {vm₁ : Vm} {E : String} {k : ClassId} (hW : s.WarmedH vm₁) (h : (T.setVm vm₁).vm.findClass E = some k) : s.vm.findClass E = some k := by
  have h1 : vm₁.findClass E = some k := h
  rw [hW.alike.findClass] at h1
  exact h1
/-- the method's frame g, with q thrown over it -/
def vx_W (p : Program) (l : Launch) (e : Env) (R : Room) (s : State) (m : MethodId) (args : Array Value) (below : List Frame) (meth : Method) (c : Code) (H : Heap) (locs : List Loc) (cells slots : Nat) (Q : State → Prop) (g : JFrame) (q : Addr) : Prop :=
  ∀ T : State, T.heap = H → Stand p l e R s m args below meth c T locs cells slots → ∃ t, Steps p.tables e below ((T.setTop g).pushFrame (.throwing q)) t ∧ Q t
def vx_Run (p : Program) (l : Launch) (e : Env) (R : Room) (s : State) (m : MethodId) (args : Array Value) (below : List Frame) (meth : Method) (c : Code) (H : Heap) (locs : List Loc) (cells slots mc ms : Nat) (g : JFrame) (rest : List Value) (Qa : State → Outcome → State → Prop) (XC : String → State → State → Prop) (free : Addr → Prop) : Prop :=
  ∀ T : State, T.heap = H → Stand p l e R s m args below meth c T locs cells slots →
    (∃ (v : Option Value) (st₀ t T' : State) (L : List Loc), st₀.heap = H ∧ Stand p l e R s m args below meth c T' (locs ++ L) (cells + mc) (slots + ms) ∧ (∀ q ∈ L, free q.base) ∧ T'.heap = t.heap ∧ T'.vm = t.vm ∧ Qa st₀ (.returned v) t ∧
      Goes p e below T g T' { g with pc := g.pc + 3, stack := v.toList ++ rest }) ∨
    (∃ (q : Addr) (st₀ t T' : State) (L : List Loc) (E : String) (ce : Cell), st₀.heap = H ∧ Stand p l e R s m args below meth c T' (locs ++ L) (cells + mc) (slots + ms) ∧ (∀ z ∈ L, free z.base) ∧ T'.heap = t.heap ∧ T'.vm = t.vm ∧ XC E st₀ t ∧ t.heap[q]? = some ce ∧ ce.vm = .none ∧ s.vm.findClass E = some ce.cls ∧
      Steps p.tables e below (T.setTop g) ((T'.setTop { g with stack := rest }).pushFrame (.throwing q)))
def vx_X {S : Type} (px : S → Prop) (B : String → S → State → Prop) (A : Nat → Prop) : String → State → State → Prop := fun E st t => ∃ u : S, px u ∧ B E u t ∧ va_F A st t
section Runs
variable {p : Program} {l : Launch} {e : Env} {R : Room} {s : State} {m : MethodId} {args : Array Value} {below : List Frame} {meth : Method} {c : Code} {H : Heap} {locs : List Loc} {cells slots : Nat}
variable {y : MethodName} {bytes cc : ByteArray} {maxL nL mc ms n index : Nat} {ret : Option FieldType} {ws : List Cond} {rm : Room} {Pc : Array Value → State → Prop} {Qc : Array Value → State → Outcome → State → Prop} {XC : String → State → State → Prop} {free : Addr → Prop} {Ts : List Cond} {own C : String} {b : Addr} {As rest : List Value} {g : JFrame}
theorem vx_callBack (cb : CallB R s args own index y bytes maxL ret ws rm mc ms n) (hM : vx_Met l y ws rm Pc Qc XC mc ms free) (hbl : FrameBlind Pc) : vx_Back l R p e below s args y 3 8 (PreOf R mc ms Pc) (PostOf Qc mc ms free) (vx_Post XC mc ms free) := by
  obtain ⟨hrc, hrs, hfr, hlo, hws, hcw, -, hini, -⟩ := cb
  exact vx_back (bytes := bytes) (maxL := maxL) (ret := ret) hM hbl hrc hrs hfr hlo hws hcw (fun a' U hW => word_at hW (Or.inl (by first | rfl | simp [Cond.onTables, Cond.keeps, Cond.steady])) hini)
theorem vx_runV (S : CallFix p m c cc nL s args Ts own) (hM : vx_Met l y ws rm Pc Qc XC mc ms free) (cw : CallW R s args own C index y bytes maxL ret ws rm mc ms n) (hp : PreV s H C b Pc As)
    (hg : g.method = m) (hn : As.length = n) (hsize : g.locals.size = nL) (hstack : g.stack = As.reverse ++ .ref b :: rest) (hW : 2 * g.monitorRoom + (rest.map fun v => v.category).sum ≤ 8) (hdg : decode cc g.pc = .ok (.invokevirtual index, 3)) (hf : cells + mc ≤ R.cells ∧ slots + ms ≤ R.slots) :
    vx_Run p l e R s m args below meth c H locs cells slots mc ms g rest (Qc (Value.ref b :: As).toArray) XC free := by
  have hK : vx_Back l R p e below s args y 3 8 (PreOf R mc ms Pc) (PostOf Qc mc ms free) (vx_Post XC mc ms free) := vx_callBack cw.1 hM hp.1
  obtain ⟨⟨-, -, -, -, -, -, hcode, -, hy, hlen, hl⟩, hin, hse⟩ := cw
  obtain ⟨hx, hb, hml, ho, -⟩ := S
  obtain ⟨-, ⟨cellB, hcB, hoB, hclB⟩, hPc⟩ := hp
  intro T hT X
  rcases vx_callV X hx (C := C) (bytes := bytes) (maxL := maxL) (ret := ret) ho hl hin hse hcode hy hK (by rw [hT]; exact hcB) hoB hclB hg (hsize.trans hml.symm) (argsL := As) (rest := rest) (fun sig h => hn.trans (hlen sig h)) hstack hW (by rw [hb]; exact hdg)
    (fun vm₁ hW₁ => ⟨hf.1, hf.2, hPc (T.setVm vm₁) hT hW₁⟩) with ⟨v, vm₁, ⟨U', l2, c2, s2⟩, hW₁, X', ⟨g', mk, t, L, e1, e2, hq, h1, hL, h2, h3⟩, st⟩ | ⟨q, vm₁, ⟨U', l2, c2, s2⟩, hW₁, X', ⟨g', mk, t, L, E, ce, e1, e2, hq, hce, hcv, hcl, h1, hL, h2, h3⟩, st⟩
  · dsimp only [Pt.U, Pt.locs, Pt.cells, Pt.slots] at X' e1 e2 h1 h2 h3 st
    subst h1; subst h2; subst h3
    exact Or.inl ⟨v, (T.setVm vm₁).calling g' mk (Value.ref b :: As).toArray, t, U', L, hT, X', hL, e1, e2, hq, st⟩
  · dsimp only [Pt.U, Pt.locs, Pt.cells, Pt.slots] at X' e1 e2 h1 h2 h3 st hcl
    subst h1; subst h2; subst h3
    exact Or.inr ⟨q, (T.setVm vm₁).calling g' mk (Value.ref b :: As).toArray, t, U', L, E, ce, hT, X', hL, e1, e2, hq, hce, hcv, vx_cls hW₁ hcl, st⟩
theorem vx_runS (S : CallFix p m c cc nL s args Ts own) (hM : vx_Met l y ws rm Pc Qc XC mc ms free) (cw : CallB R s args own index y bytes maxL ret ws rm mc ms n ∧ (Cond.static y).before args s = true) (hp : PreS s H Pc As)
    (hg : g.method = m) (hn : As.length = n) (hsize : g.locals.size = nL) (hstack : g.stack = As.reverse ++ rest) (hW : 2 * g.monitorRoom + (rest.map fun v => v.category).sum ≤ 8) (hdg : decode cc g.pc = .ok (.invokestatic index, 3)) (hf : cells + mc ≤ R.cells ∧ slots + ms ≤ R.slots) :
    vx_Run p l e R s m args below meth c H locs cells slots mc ms g rest (Qc As.toArray) XC free := by
  have hK : vx_Back l R p e below s args y 3 8 (PreOf R mc ms Pc) (PostOf Qc mc ms free) (vx_Post XC mc ms free) := vx_callBack cw.1 hM hp.1
  obtain ⟨⟨-, -, -, -, -, -, hcode, hini, hy, hlen, hl⟩, hstt⟩ := cw
  obtain ⟨hx, hb, hml, ho, -⟩ := S
  intro T hT X
  rcases vx_callS X hx (bytes := bytes) (maxL := maxL) (ret := ret) ho hl hstt hini hcode hy hK hg (hsize.trans hml.symm) (argsL := As) (rest := rest) (fun sig h => hn.trans (hlen sig h)) hstack hW (by rw [hb]; exact hdg)
    (fun vm₁ hW₁ => ⟨hf.1, hf.2, hp.2 (T.setVm vm₁) hT hW₁⟩) with ⟨v, vm₁, ⟨U', l2, c2, s2⟩, hW₁, X', ⟨g', mk, t, L, e1, e2, hq, h1, hL, h2, h3⟩, st⟩ | ⟨q, vm₁, ⟨U', l2, c2, s2⟩, hW₁, X', ⟨g', mk, t, L, E, ce, e1, e2, hq, hce, hcv, hcl, h1, hL, h2, h3⟩, st⟩
  · dsimp only [Pt.U, Pt.locs, Pt.cells, Pt.slots] at X' e1 e2 h1 h2 h3 st
    subst h1; subst h2; subst h3
    exact Or.inl ⟨v, (T.setVm vm₁).calling g' mk As.toArray, t, U', L, hT, X', hL, e1, e2, hq, st⟩
  · dsimp only [Pt.U, Pt.locs, Pt.cells, Pt.slots] at X' e1 e2 h1 h2 h3 st hcl
    subst h1; subst h2; subst h3
    exact Or.inr ⟨q, (T.setVm vm₁).calling g' mk As.toArray, t, U', L, E, ce, hT, X', hL, e1, e2, hq, hce, hcv, vx_cls hW₁ hcl, st⟩
end Runs
section Rows
variable {p : Program} {l : Launch} {e : Env} {R : Room} {s : State} {m : MethodId} {args : Array Value} {below : List Frame} {meth : Method} {c : Code} {H : Heap} {locs : List Loc} {cells slots : Nat} {Q : State → Prop}
variable {mc ms : Nat} {free : Addr → Prop} {A0 A1 : Nat → Prop} {H0 : Heap} {a : Array Value} {pc : Nat} {ls : Array Slot} {st0 rest : List Value}
theorem vx_keep {st₀ t T' : State} {L : List Loc} (h0 : st₀.heap = H) (e1 : T'.heap = t.heap) (hS : va_S A0 H0 H locs) (hA : ∀ q, q < H.size → A1 q → A0 q) (hf : ∀ q, free q → A0 q) (hL : ∀ q ∈ L, free q.base) (hF : va_F A1 st₀ t) :
    H.size ≤ T'.heap.size ∧ (∀ q : Nat, q < H.size → ¬ A1 q → T'.heap[q]? = H[q]?) ∧ va_S A0 H0 T'.heap (locs ++ L) := by
  obtain ⟨hz, hk⟩ := hF
  rw [h0] at hz hk
  exact ⟨by rw [e1]; exact hz, fun q h1 h2 => by rw [e1]; exact hk q h1 h2,
    ⟨Nat.le_trans hS.1 (by rw [e1]; exact hz), fun q h1 h2 => by rw [e1, hk q (Nat.lt_of_lt_of_le h1 hS.1) (fun z => h2 (hA q (Nat.lt_of_lt_of_le h1 hS.1) z))]; exact hS.2.1 q h1 h2, fun q hq => by
      rcases List.mem_append.mp hq with h | h
      · exact hS.2.2 q h
      · exact hf _ (hL q h)⟩⟩
theorem vx_calli {S SX : Type} {post : Int32 → S → Prop} {px : SX → Prop} {B : S → State → Prop} {BX : String → SX → State → Prop} {AX : Nat → Prop} (hr : vx_Run p l e R s m args below meth c H locs cells slots mc ms (F0 m pc ls st0) rest (va_Qi post B A1 a) (vx_X px BX AX) free) (hS : va_S A0 H0 H locs) (hA : ∀ q, q < H.size → A1 q → A0 q) (hf : ∀ q, free q → A0 q) (hAX : ∀ q, q < H.size → AX q → A0 q)
    (kx : ∀ (E : String) (ce : Cell) (q9 : Addr) (u : SX) (t : State) (H1 : Heap) (locs1 : List Loc), t.heap = H1 → s.vm.Alike t.vm → px u → BX E u t → H.size ≤ H1.size → (∀ q : Nat, q < H.size → ¬ AX q → H1[q]? = H[q]?) → va_S A0 H0 H1 locs1 → H1[q9]? = some ce → ce.vm = .none → s.vm.findClass E = some ce.cls → vx_W p l e R s m args below meth c H1 locs1 (cells + mc) (slots + ms) Q (F0 m pc ls rest) q9)
    (kk : ∀ (r : Int32) (u : S) (t : State) (H1 : Heap) (locs1 : List Loc), t.heap = H1 → s.vm.Alike t.vm → post r u → B u t → H.size ≤ H1.size → (∀ q : Nat, q < H.size → ¬ A1 q → H1[q]? = H[q]?) → va_S A0 H0 H1 locs1 → W p l e R s m args below meth c H1 locs1 (cells + mc) (slots + ms) Q (F0 m (pc + 3) ls (.int r :: rest))) : W p l e R s m args below meth c H locs cells slots Q (F0 m pc ls st0) := by
  intro T hT X
  rcases hr T hT X with ⟨v, st₀, t, T', L, h0, X', hL, e1, e2, ⟨⟨r, u, hv, hp, hb⟩, hF⟩, st⟩ | ⟨q, st₀, t, T', L, E, ce, h0, X', hL, e1, e2, ⟨u, hp, hb, hF⟩, hce, hcv, hcl, st⟩
  · cases hv
    obtain ⟨k1, k2, k3⟩ := vx_keep h0 e1 hS hA hf hL hF
    obtain ⟨t2, a1, b1⟩ := kk r u t T'.heap (locs ++ L) e1.symm (by rw [← e2]; exact X'.warmed.alike) hp hb k1 k2 k3 T' rfl X'
    exact ⟨t2, st t2 a1, b1⟩
  · obtain ⟨k1, k2, k3⟩ := vx_keep h0 e1 hS hAX hf hL hF
    obtain ⟨t2, a1, b1⟩ := kx E ce q u t T'.heap (locs ++ L) e1.symm (by rw [← e2]; exact X'.warmed.alike) hp hb k1 k2 k3 (by rw [e1]; exact hce) hcv hcl T' rfl X'
    exact ⟨t2, st.trans a1, b1⟩
theorem vx_calll {S SX : Type} {post : Int64 → S → Prop} {px : SX → Prop} {B : S → State → Prop} {BX : String → SX → State → Prop} {AX : Nat → Prop} (hr : vx_Run p l e R s m args below meth c H locs cells slots mc ms (F0 m pc ls st0) rest (va_Ql post B A1 a) (vx_X px BX AX) free) (hS : va_S A0 H0 H locs) (hA : ∀ q, q < H.size → A1 q → A0 q) (hf : ∀ q, free q → A0 q) (hAX : ∀ q, q < H.size → AX q → A0 q)
    (kx : ∀ (E : String) (ce : Cell) (q9 : Addr) (u : SX) (t : State) (H1 : Heap) (locs1 : List Loc), t.heap = H1 → s.vm.Alike t.vm → px u → BX E u t → H.size ≤ H1.size → (∀ q : Nat, q < H.size → ¬ AX q → H1[q]? = H[q]?) → va_S A0 H0 H1 locs1 → H1[q9]? = some ce → ce.vm = .none → s.vm.findClass E = some ce.cls → vx_W p l e R s m args below meth c H1 locs1 (cells + mc) (slots + ms) Q (F0 m pc ls rest) q9)
    (kk : ∀ (r : Int64) (u : S) (t : State) (H1 : Heap) (locs1 : List Loc), t.heap = H1 → s.vm.Alike t.vm → post r u → B u t → H.size ≤ H1.size → (∀ q : Nat, q < H.size → ¬ A1 q → H1[q]? = H[q]?) → va_S A0 H0 H1 locs1 → W p l e R s m args below meth c H1 locs1 (cells + mc) (slots + ms) Q (F0 m (pc + 3) ls (.long r :: rest))) : W p l e R s m args below meth c H locs cells slots Q (F0 m pc ls st0) := by
  intro T hT X
  rcases hr T hT X with ⟨v, st₀, t, T', L, h0, X', hL, e1, e2, ⟨⟨r, u, hv, hp, hb⟩, hF⟩, st⟩ | ⟨q, st₀, t, T', L, E, ce, h0, X', hL, e1, e2, ⟨u, hp, hb, hF⟩, hce, hcv, hcl, st⟩
  · cases hv
    obtain ⟨k1, k2, k3⟩ := vx_keep h0 e1 hS hA hf hL hF
    obtain ⟨t2, a1, b1⟩ := kk r u t T'.heap (locs ++ L) e1.symm (by rw [← e2]; exact X'.warmed.alike) hp hb k1 k2 k3 T' rfl X'
    exact ⟨t2, st t2 a1, b1⟩
  · obtain ⟨k1, k2, k3⟩ := vx_keep h0 e1 hS hAX hf hL hF
    obtain ⟨t2, a1, b1⟩ := kx E ce q u t T'.heap (locs ++ L) e1.symm (by rw [← e2]; exact X'.warmed.alike) hp hb k1 k2 k3 (by rw [e1]; exact hce) hcv hcl T' rfl X'
    exact ⟨t2, st.trans a1, b1⟩
theorem vx_callf {S SX : Type} {post : UInt32 → S → Prop} {px : SX → Prop} {B : S → State → Prop} {BX : String → SX → State → Prop} {AX : Nat → Prop} (hr : vx_Run p l e R s m args below meth c H locs cells slots mc ms (F0 m pc ls st0) rest (va_Qf post B A1 a) (vx_X px BX AX) free) (hS : va_S A0 H0 H locs) (hA : ∀ q, q < H.size → A1 q → A0 q) (hf : ∀ q, free q → A0 q) (hAX : ∀ q, q < H.size → AX q → A0 q)
    (kx : ∀ (E : String) (ce : Cell) (q9 : Addr) (u : SX) (t : State) (H1 : Heap) (locs1 : List Loc), t.heap = H1 → s.vm.Alike t.vm → px u → BX E u t → H.size ≤ H1.size → (∀ q : Nat, q < H.size → ¬ AX q → H1[q]? = H[q]?) → va_S A0 H0 H1 locs1 → H1[q9]? = some ce → ce.vm = .none → s.vm.findClass E = some ce.cls → vx_W p l e R s m args below meth c H1 locs1 (cells + mc) (slots + ms) Q (F0 m pc ls rest) q9)
    (kk : ∀ (r : UInt32) (u : S) (t : State) (H1 : Heap) (locs1 : List Loc), t.heap = H1 → s.vm.Alike t.vm → post r u → B u t → H.size ≤ H1.size → (∀ q : Nat, q < H.size → ¬ A1 q → H1[q]? = H[q]?) → va_S A0 H0 H1 locs1 → W p l e R s m args below meth c H1 locs1 (cells + mc) (slots + ms) Q (F0 m (pc + 3) ls (.float r :: rest))) : W p l e R s m args below meth c H locs cells slots Q (F0 m pc ls st0) := by
  intro T hT X
  rcases hr T hT X with ⟨v, st₀, t, T', L, h0, X', hL, e1, e2, ⟨⟨r, u, hv, hp, hb⟩, hF⟩, st⟩ | ⟨q, st₀, t, T', L, E, ce, h0, X', hL, e1, e2, ⟨u, hp, hb, hF⟩, hce, hcv, hcl, st⟩
  · cases hv
    obtain ⟨k1, k2, k3⟩ := vx_keep h0 e1 hS hA hf hL hF
    obtain ⟨t2, a1, b1⟩ := kk r u t T'.heap (locs ++ L) e1.symm (by rw [← e2]; exact X'.warmed.alike) hp hb k1 k2 k3 T' rfl X'
    exact ⟨t2, st t2 a1, b1⟩
  · obtain ⟨k1, k2, k3⟩ := vx_keep h0 e1 hS hAX hf hL hF
    obtain ⟨t2, a1, b1⟩ := kx E ce q u t T'.heap (locs ++ L) e1.symm (by rw [← e2]; exact X'.warmed.alike) hp hb k1 k2 k3 (by rw [e1]; exact hce) hcv hcl T' rfl X'
    exact ⟨t2, st.trans a1, b1⟩
theorem vx_calld {S SX : Type} {post : UInt64 → S → Prop} {px : SX → Prop} {B : S → State → Prop} {BX : String → SX → State → Prop} {AX : Nat → Prop} (hr : vx_Run p l e R s m args below meth c H locs cells slots mc ms (F0 m pc ls st0) rest (va_Qd post B A1 a) (vx_X px BX AX) free) (hS : va_S A0 H0 H locs) (hA : ∀ q, q < H.size → A1 q → A0 q) (hf : ∀ q, free q → A0 q) (hAX : ∀ q, q < H.size → AX q → A0 q)
    (kx : ∀ (E : String) (ce : Cell) (q9 : Addr) (u : SX) (t : State) (H1 : Heap) (locs1 : List Loc), t.heap = H1 → s.vm.Alike t.vm → px u → BX E u t → H.size ≤ H1.size → (∀ q : Nat, q < H.size → ¬ AX q → H1[q]? = H[q]?) → va_S A0 H0 H1 locs1 → H1[q9]? = some ce → ce.vm = .none → s.vm.findClass E = some ce.cls → vx_W p l e R s m args below meth c H1 locs1 (cells + mc) (slots + ms) Q (F0 m pc ls rest) q9)
    (kk : ∀ (r : UInt64) (u : S) (t : State) (H1 : Heap) (locs1 : List Loc), t.heap = H1 → s.vm.Alike t.vm → post r u → B u t → H.size ≤ H1.size → (∀ q : Nat, q < H.size → ¬ A1 q → H1[q]? = H[q]?) → va_S A0 H0 H1 locs1 → W p l e R s m args below meth c H1 locs1 (cells + mc) (slots + ms) Q (F0 m (pc + 3) ls (.double r :: rest))) : W p l e R s m args below meth c H locs cells slots Q (F0 m pc ls st0) := by
  intro T hT X
  rcases hr T hT X with ⟨v, st₀, t, T', L, h0, X', hL, e1, e2, ⟨⟨r, u, hv, hp, hb⟩, hF⟩, st⟩ | ⟨q, st₀, t, T', L, E, ce, h0, X', hL, e1, e2, ⟨u, hp, hb, hF⟩, hce, hcv, hcl, st⟩
  · cases hv
    obtain ⟨k1, k2, k3⟩ := vx_keep h0 e1 hS hA hf hL hF
    obtain ⟨t2, a1, b1⟩ := kk r u t T'.heap (locs ++ L) e1.symm (by rw [← e2]; exact X'.warmed.alike) hp hb k1 k2 k3 T' rfl X'
    exact ⟨t2, st t2 a1, b1⟩
  · obtain ⟨k1, k2, k3⟩ := vx_keep h0 e1 hS hAX hf hL hF
    obtain ⟨t2, a1, b1⟩ := kx E ce q u t T'.heap (locs ++ L) e1.symm (by rw [← e2]; exact X'.warmed.alike) hp hb k1 k2 k3 (by rw [e1]; exact hce) hcv hcl T' rfl X'
    exact ⟨t2, st.trans a1, b1⟩
theorem vx_callv {S SX : Type} {post : S → Prop} {px : SX → Prop} {B : S → State → Prop} {BX : String → SX → State → Prop} {AX : Nat → Prop} (hr : vx_Run p l e R s m args below meth c H locs cells slots mc ms (F0 m pc ls st0) rest (va_Qv post B A1 a) (vx_X px BX AX) free) (hS : va_S A0 H0 H locs) (hA : ∀ q, q < H.size → A1 q → A0 q) (hf : ∀ q, free q → A0 q) (hAX : ∀ q, q < H.size → AX q → A0 q)
    (kx : ∀ (E : String) (ce : Cell) (q9 : Addr) (u : SX) (t : State) (H1 : Heap) (locs1 : List Loc), t.heap = H1 → s.vm.Alike t.vm → px u → BX E u t → H.size ≤ H1.size → (∀ q : Nat, q < H.size → ¬ AX q → H1[q]? = H[q]?) → va_S A0 H0 H1 locs1 → H1[q9]? = some ce → ce.vm = .none → s.vm.findClass E = some ce.cls → vx_W p l e R s m args below meth c H1 locs1 (cells + mc) (slots + ms) Q (F0 m pc ls rest) q9)
    (kk : ∀ (u : S) (t : State) (H1 : Heap) (locs1 : List Loc), t.heap = H1 → s.vm.Alike t.vm → post u → B u t → H.size ≤ H1.size → (∀ q : Nat, q < H.size → ¬ A1 q → H1[q]? = H[q]?) → va_S A0 H0 H1 locs1 → W p l e R s m args below meth c H1 locs1 (cells + mc) (slots + ms) Q (F0 m (pc + 3) ls (rest))) : W p l e R s m args below meth c H locs cells slots Q (F0 m pc ls st0) := by
  intro T hT X
  rcases hr T hT X with ⟨v, st₀, t, T', L, h0, X', hL, e1, e2, ⟨⟨u, hv, hp, hb⟩, hF⟩, st⟩ | ⟨q, st₀, t, T', L, E, ce, h0, X', hL, e1, e2, ⟨u, hp, hb, hF⟩, hce, hcv, hcl, st⟩
  · cases hv
    obtain ⟨k1, k2, k3⟩ := vx_keep h0 e1 hS hA hf hL hF
    obtain ⟨t2, a1, b1⟩ := kk u t T'.heap (locs ++ L) e1.symm (by rw [← e2]; exact X'.warmed.alike) hp hb k1 k2 k3 T' rfl X'
    exact ⟨t2, st t2 a1, b1⟩
  · obtain ⟨k1, k2, k3⟩ := vx_keep h0 e1 hS hAX hf hL hF
    obtain ⟨t2, a1, b1⟩ := kx E ce q u t T'.heap (locs ++ L) e1.symm (by rw [← e2]; exact X'.warmed.alike) hp hb k1 k2 k3 (by rw [e1]; exact hce) hcv hcl T' rfl X'
    exact ⟨t2, st.trans a1, b1⟩
/-- caught by the row x of this method's table; the rows ahead don't take it -/
theorem vx_catch {own name : String} {E : String} {ce : Cell} {q : Addr} (hown : s.vm.findClass own = some m.cls) (pre : List ExceptionTableEntry) (x : ExceptionTableEntry) (suf : List ExceptionTableEntry) (hsplit : c.exceptionTable.toList = pre ++ x :: suf)
    (hpass : ∀ z ∈ pre, covers z pc = false ∨ (z.catchType ≠ 0 ∧ ∃ nm : String, (Cond.classLink own z.catchType nm).before args s = true ∧ va_Nc E nm s)) (hx : covers x pc = true) (h0 : x.catchType ≠ 0)
    (hlink : (Cond.classLink own x.catchType name).before args s = true) (hcast : (Cond.castable E name).before args s = true) (hcell : H[q]? = some ce) (hv : ce.vm = .none) (hcl : s.vm.findClass E = some ce.cls)
    (kk : W p l e R s m args below meth c H locs cells slots Q (F0 m x.handlerPc ls [.ref q])) : vx_W p l e R s m args below meth c H locs cells slots Q (F0 m pc ls rest) q := by
  intro T hT X
  have hpl : e.platform.magicAccessors = ({} : Platform).magicAccessors := by rw [X.admits.platform]
  obtain ⟨c3, c4, hc3, hc4, hasg⟩ := Cond.castable_spec hcast
  cases Option.some.inj (hc3.symm.trans hcl)
  obtain ⟨c5, hc5, hcl5⟩ := Cond.classLink_spec hown hlink e.platform hpl
  cases Option.some.inj (hc4.symm.trans hc5)
  obtain ⟨vm', X', st⟩ := X.thenCaughtThrough q (g := F0 m pc ls rest) rfl (Steps.refl _) (by rw [hT]; exact hcell) (by rw [hv]; rfl) (by obtain ⟨k9, h9, -⟩ := Vm.findClass_spec hcl; exact ⟨k9, h9⟩) pre x suf hsplit
    (fun z hz => by
      rcases hpass z hz with h | ⟨hz0, nm, hl1, hn1⟩
      · exact Or.inl h
      · obtain ⟨c6, hc6, hcl6⟩ := Cond.classLink_spec hown hl1 e.platform hpl
        obtain ⟨a8, b8, h1, h2, h3⟩ := hn1
        cases Option.some.inj (h1.symm.trans hcl)
        cases Option.some.inj (h2.symm.trans hc6)
        exact Or.inr ⟨hz0, _, hcl6, h3⟩) hx (Or.inr ⟨h0, c4, hcl5, hasg⟩)
  obtain ⟨t, a1, b1⟩ := kk (T.setVm vm') hT X'
  exact ⟨t, st.trans a1, b1⟩
end Rows
section Ends
variable {p : Program} {l : Launch} {e : Env} {R : Room} {s : State} {m : MethodId} {args : Array Value} {below : List Frame} {meth : Method} {c : Code} {H : Heap} {locs : List Loc} {cells slots : Nat} {Q : State → Prop}
variable {mc ms : Nat} {free : Addr → Prop} {A0 A1 : Nat → Prop} {H0 : Heap} {a : Array Value} {ls : Array Slot} {st0 rest : List Value}
variable {Qc : Array Value → State → Outcome → State → Prop} {XC : String → State → State → Prop}
/-- what a body that may throw owes at its end -/
def vx_MQ (below : List Frame) (Qc : Array Value → State → Outcome → State → Prop) (XC : String → State → State → Prop) (a : Array Value) (s : State) (mc ms : Nat) (free : Addr → Prop) : State → Prop := fun t =>
  ∃ o, t.status = .running ∧ Ended t below o ∧ vx_Q Qc XC mc ms free a s o t
theorem vx_ret {g : JFrame} {mc ms : Nat} (k : W p l e R s m args below meth c H locs cells slots (MQ below Qc args s mc ms free) g) : W p l e R s m args below meth c H locs cells slots (vx_MQ below Qc XC args s mc ms free) g := by
  intro T hT X
  obtain ⟨t, a1, o, b1, b2, b3, b4⟩ := k T hT X
  exact ⟨t, a1, o, b1, b2, Or.inl ⟨b3, b4⟩⟩
/-- not caught here: it goes on to the caller -/
theorem vx_widen {g : JFrame} {q : Addr} {k n : Nat} (h1 : cells ≤ k) (h2 : slots ≤ n) (kk : vx_W p l e R s m args below meth c H locs k n Q g q) : vx_W p l e R s m args below meth c H locs cells slots Q g q := fun T hT X => kk T hT (stand_widen X h1 h2)
theorem vx_out {pc : Nat} {E : String} {ce : Cell} {q : Addr} {mc ms : Nat} (hout : ∀ x ∈ c.exceptionTable.toList, covers x pc = false) (hlocks : meth.locks = false) (hcell : H[q]? = some ce) (hv : ce.vm = .none) (hcl : s.vm.findClass E = some ce.cls)
    (hx : ∀ t : State, t.heap = H → s.vm.Alike t.vm → XC E s t) (hf : ∀ z ∈ locs, free z.base) (hc : cells ≤ mc) (hs : slots ≤ ms) :
    vx_W p l e R s m args below meth c H locs cells slots (vx_MQ below Qc XC args s mc ms free) (F0 m pc ls rest) q := by
  intro T hT X
  obtain ⟨st1, hrun, hend, hW, hsm⟩ := X.leaveThrown q (g := F0 m pc ls rest) rfl rfl rfl hout hlocks
  have hcell9 : (T.setFrames (.throwing q :: below)).heap[q]? = some ce := by
    show T.heap[q]? = some ce
    rw [hT]; exact hcell
  exact ⟨_, st1, .threw q, hrun, hend, Or.inr ⟨q, rfl, E, ce, locs, hx _ hT hW.alike, hcell9, hv, hcl, hW, hsm.mono hc hs, hf⟩⟩
theorem vx_frame {U : State} {k n : Nat} (h : s.sameButNew ({ U with vm := s.vm } : State) locs k n) : s.heap.size ≤ U.heap.size ∧ ∀ q : Nat, q < s.heap.size → (∀ z ∈ locs, z.base ≠ q) → U.heap[q]? = s.heap[q]? := by
  obtain ⟨-, h2, -, -, -, h6⟩ := h
  refine ⟨h2, fun q hq hz => ?_⟩
  obtain ⟨c9, e1, e2, e3, e4⟩ := h6 q _ (Array.getElem?_eq_getElem hq)
  have hs : c9.slots = (s.heap[q]).slots := Array.ext_getElem? fun i => e4 i fun hm => hz _ hm rfl
  have h9 : c9 = s.heap[q] := by
    rw [hs] at e2
    exact e2
  have e5 : U.heap[q]? = some c9 := e1
  rw [e5, h9, Array.getElem?_eq_getElem hq]
/-- the words of a throw but the four that speak of the heap -/
def vx_no (w : Cond) : Bool := decide (w ≠ .isRef (.static Bundle.tN "UNASSIGNED_STACK" Bundle.steD)) && decide (w ≠ .isRef (.static Bundle.tN "SUPPRESSED_SENTINEL" Bundle.listD)) && decide (w ≠ .laysStatic Bundle.tN "UNASSIGNED_STACK" Bundle.steD) && decide (w ≠ .laysStatic Bundle.tN "SUPPRESSED_SENTINEL" Bundle.listD)
def vx_at0 (own : String) (ic : Nat) (X : String) (names : List String) : List Cond := (Bundle.ownAtoms0 own ic X names).filter vx_no
def vx_atS (own : String) (ic : Nat) (X : String) (names : List String) : List Cond := (Bundle.ownAtoms own ic X names).filter vx_no
/-- a word that the tables alone decide, or a good one -/
def vx_ot (w : Cond) : Bool := w.onTables || goodWord w
theorem vx_ot_at {args a' : Array Value} {s U : State} {w : Cond} (hW : s.WarmedH U.vm) (hvm : s.vm = U.vm) (hg : vx_ot w = true) (h : w.before args s = true) : w.before a' U = true := by
  simp only [vx_ot, Bool.or_eq_true] at hg
  rcases hg with hg | hg
  · exact va_tabs hg hvm h
  · exact word_at hW (good_of_word hg) h
/-- a list's words: the good ones out of the method's own list, the others by premises of their own -/
theorem vx_hat {args : Array Value} {s : State} {L B : List Cond} (h1 : ∀ w ∈ L.filter goodWord, w.before args s = true) (h2 : ∀ w ∈ L.filter (fun w => !goodWord w), w ∈ B) (h3 : ∀ w ∈ B, w.before args s = true) : ∀ w ∈ L, w.before args s = true := by
  intro w hw
  by_cases g : goodWord w = true
  · exact h1 w (List.mem_filter.mpr ⟨hw, g⟩)
  · refine h3 w (h2 w (List.mem_filter.mpr ⟨hw, ?_⟩))
    show (!goodWord w) = true
    cases hgw : goodWord w
    · rfl
    · exact absurd hgw g
theorem vx_c {args : Array Value} {s : State} {w : Cond} {B : List Cond} (h : w.before args s = true) (t : ∀ w ∈ B, w.before args s = true) : ∀ w' ∈ w :: B, w'.before args s = true := fun w' h' => (List.mem_cons.mp h').elim (fun e => by rw [e]; exact h) (t w')
theorem vx_n {args : Array Value} {s : State} : ∀ w ∈ ([] : List Cond), w.before args s = true := fun _ h => nomatch h
theorem vx_own {args : Array Value} {s : State} {L : List Cond} (h1 : ∀ w ∈ L.filter vx_no, w.before args s = true)
    (hU : (Cond.isRef (.static Bundle.tN "UNASSIGNED_STACK" Bundle.steD)).before args s = true) (hN : (Cond.isRef (.static Bundle.tN "SUPPRESSED_SENTINEL" Bundle.listD)).before args s = true)
    (lU : (Cond.laysStatic Bundle.tN "UNASSIGNED_STACK" Bundle.steD).before args s = true) (lN : (Cond.laysStatic Bundle.tN "SUPPRESSED_SENTINEL" Bundle.listD).before args s = true) : ∀ w ∈ L, w.before args s = true := by
  intro w hw
  by_cases e1 : w = .isRef (.static Bundle.tN "UNASSIGNED_STACK" Bundle.steD)
  · rw [e1]; exact hU
  · by_cases e2 : w = .isRef (.static Bundle.tN "SUPPRESSED_SENTINEL" Bundle.listD)
    · rw [e2]; exact hN
    · by_cases e3 : w = .laysStatic Bundle.tN "UNASSIGNED_STACK" Bundle.steD
      · rw [e3]; exact lU
      · by_cases e4 : w = .laysStatic Bundle.tN "SUPPRESSED_SENTINEL" Bundle.listD
        · rw [e4]; exact lN
        · exact h1 w (List.mem_filter.mpr ⟨hw, by unfold vx_no; rw [decide_eq_true e1, decide_eq_true e2, decide_eq_true e3, decide_eq_true e4]; rfl⟩)
/-- where a static field lies, its class's statics cell in H -/
def vx_L (C n d : String) (A : Nat → Prop) (U : State) (H : Heap) : Prop := ∃ (c : ClassId) (k : Class) (i : Nat) (f : Field) (a : Nat) (cell : Cell), U.vm.findClass C = some c ∧ U.fieldFound? C n d = some (c, k, i, f) ∧ f.isStatic = true ∧ k.statics = some a ∧ H[a]? = some cell ∧ cell.vm.isStatics = true ∧ cell.cls = c ∧ f.slot < cell.slots.size ∧ k.staticTypes[f.slot]? = some f.type ∧ ¬ A a
theorem vx_L.moved {C n d : String} {A : Nat → Prop} {u U : State} {H : Heap} (hvm : u.vm.Alike U.vm) (h : vx_L C n d A u H) : vx_L C n d A U H := by
  obtain ⟨c, k, i, f, a, cell, h1, h2, h3, h4, h5, h6, h7, h8, h9, h10⟩ := h
  obtain ⟨k', hi', he⟩ := State.fieldFound?_setVm hvm h2
  exact ⟨c, k', i, f, a, cell, by rw [hvm.findClass]; exact h1, hi', h3, by rw [he]; exact h4, h5, h6, h7, h8, by rw [he]; exact h9, h10⟩
theorem vx_L.kept {C n d : String} {A : Nat → Prop} {U : State} {H H1 : Heap} (h : vx_L C n d A U H) (hq : ∀ a : Nat, a < H.size → ¬ A a → H1[a]? = H[a]?) : vx_L C n d A U H1 := by
  obtain ⟨c, k, i, f, a, cell, h1, h2, h3, h4, h5, h6, h7, h8, h9, h10⟩ := h
  exact ⟨c, k, i, f, a, cell, h1, h2, h3, h4, by rw [hq a (Array.getElem?_eq_some_iff.mp h5).1 h10]; exact h5, h6, h7, h8, h9, h10⟩
theorem vx_L.narrow {C n d : String} {A B : Nat → Prop} {U : State} {H : Heap} (h : vx_L C n d A U H) (hAB : ∀ q, B q → A q) : vx_L C n d B U H := by
  obtain ⟨c, k, i, f, a, cell, h1, h2, h3, h4, h5, h6, h7, h8, h9, h10⟩ := h
  exact ⟨c, k, i, f, a, cell, h1, h2, h3, h4, h5, h6, h7, h8, h9, fun z => h10 (hAB _ z)⟩
theorem vx_L.word {C n d : String} {A : Nat → Prop} {s : State} {args : Array Value} (h : vx_L C n d A s s.heap) : (Cond.laysStatic C n d).before args s = true := by
  obtain ⟨c, k, i, f, a, cell, h1, h2, h3, h4, h5, h6, h7, h8, h9, -⟩ := h
  show (Cond.laysStatic C n d).holds args s none s [] = true
  exact Cond.laysStatic_of h1 h2 h3 h4 h5 h6 h7 h8 h9
/-- .. and what it holds: null or some reference -/
def vx_Zq (C n d : String) (A : Nat → Prop) (U : State) (H : Heap) : Prop := va_Zq C n d A U H ∧ vx_L C n d A U H
theorem vx_Zq.moved {C n d : String} {A : Nat → Prop} {u U : State} {H : Heap} (hvm : u.vm.Alike U.vm) (h : vx_Zq C n d A u H) : vx_Zq C n d A U H := ⟨va_Zq.moved hvm h.1, vx_L.moved hvm h.2⟩
theorem vx_Zq.kept {C n d : String} {A : Nat → Prop} {U : State} {H H1 : Heap} (h : vx_Zq C n d A U H) (hq : ∀ a : Nat, a < H.size → ¬ A a → H1[a]? = H[a]?) : vx_Zq C n d A U H1 := ⟨va_Zq.kept h.1 hq, vx_L.kept h.2 hq⟩
theorem vx_Zq.narrow {C n d : String} {A B : Nat → Prop} {U : State} {H : Heap} (h : vx_Zq C n d A U H) (hAB : ∀ q, B q → A q) : vx_Zq C n d B U H := ⟨va_Zq.narrow h.1 hAB, vx_L.narrow h.2 hAB⟩
theorem vx_Zqof {args : Array Value} {s : State} {C n d : String} {A : Nat → Prop} (hl : (Cond.laysStatic C n d).before args s = true) (hini : (Cond.initialized C).before args s = true) (h : (Cond.isRef (.static C n d)).before args s = true) (hA : ∀ a : Nat, a < s.heap.size → ¬ A a) : vx_Zq C n d A s s.heap := by
  refine ⟨va_Zqof hl hini h hA, ?_⟩
  obtain ⟨c, k, i, f, a, cell, h1, h2, h3, h4, h5, h6, h7, h8, h9⟩ := Cond.laysStatic_spec hl
  exact ⟨c, k, i, f, a, cell, h1, h2, h3, h4, h5, h6, h7, h8, h9, hA a (Array.getElem?_eq_some_iff.mp h5).1⟩
theorem vx_isRef {C n d : String} {v : Value} {A : Nat → Prop} {s : State} {args : Array Value} (h : va_Z C n d v A s s.heap) (hv : v.isRef = true) : (Cond.isRef (.static C n d)).before args s = true := by
  obtain ⟨cf, kf, fi, f, a, cell, h1, h2, h3, h4, h5, h6, h7, -⟩ := h
  have he : (Term.static C n d).eval args s none [] s = some v := by
    simp [Term.eval, State.fieldNamed?, h1, h2, h4, h5, h6, h7]
  simp only [Cond.before, Cond.holds, Cond.value, he]
  cases v <;> simp_all [Value.isRef]
theorem vx_isRefq {C n d : String} {A : Nat → Prop} {s : State} {args : Array Value} (h : va_Zq C n d A s s.heap) : (Cond.isRef (.static C n d)).before args s = true := by
  rcases h with h | ⟨t, h⟩
  · exact vx_isRef h rfl
  · exact vx_isRef h rfl
/-- the same frame, seen from here: as if the method were called anew in this heap -/
theorem vx_rebase {T : State} (X : Stand p l e R s m args below meth c T locs cells slots) {R' : Room} (hf : R'.frames ≤ R.frames) (hl : R'.locals ≤ R.locals) (hc : cells + R'.cells ≤ R.cells) (hs : slots + R'.slots ≤ R.slots) :
    Stand p l e R' ((T.setVm s.vm).setFrames (.invoking m args :: below)) m args below meth c T [] 0 0 := by
  have htop : (T.setVm s.vm).topJava?.isSome := X.here.top
  have hF : ((T.setVm s.vm).setFrames (.invoking m args :: below)).frames = .invoking m args :: below := State.frames_setFrames _ (State.cur_lt_of_top htop)
  obtain ⟨g₀, hg0⟩ := Option.isSome_iff_exists.mp htop
  obtain ⟨r, hr⟩ := State.topJava?_eq_some.mp hg0
  have hl9 : e.platform.stackLimits (T.setVm s.vm).me = e.platform.stackLimits s.me := X.limits
  have hb9 : (T.setVm s.vm).me.stackBytes = s.me.stackBytes := X.bytes
  refine ⟨X.admits, X.cas, X.clock, hF, ?_, X.hears, X.method, X.code, X.here, X.tail, X.warmed, ?_, ?_, ?_⟩
  · have h := X.room
    have hU : ((T.setVm s.vm).setFrames (.invoking m args :: below)).localsInUse = s.localsInUse := by
      rw [State.localsInUse_invoking hF (meth := meth) (c := c) X.method X.code, State.localsInUse_invoking X.frames X.method X.code]
    simp only [State.hasRoom, Bool.and_eq_true, decide_eq_true_eq] at h ⊢
    obtain ⟨⟨⟨⟨h1, h2, h3, h4, h5, h6⟩, h7⟩, h8⟩, h9⟩ := h
    rw [X.frames, List.length_cons] at h2 h3
    have q1 := X.heapSize
    have q2 := X.used
    simp only [hF, hU, List.length_cons, State.stackLimits_setFrames, State.stackBytes_setFrames, hl9, hb9]
    refine ⟨⟨⟨⟨by omega, by omega, by omega, by omega, by omega, h6⟩, ?_⟩, ?_⟩, X.book⟩
    · show T.heap.size + R'.cells ≤ e.platform.maxCells
      omega
    · show T.slotsUsed + R'.slots ≤ e.platform.maxSlots
      omega
  · rw [State.stackLimits_setFrames]; rfl
  · rw [State.stackBytes_setFrames]; rfl
  · refine ⟨?_, Nat.le_refl _, Nat.le_refl _, ?_, ?_, fun a c9 h9 => ⟨c9, h9, rfl, rfl, fun _ _ => rfl⟩⟩
    · obtain ⟨t, ht, -⟩ := State.frames_cons hr
      show T.setVm s.vm = { ((T.setVm s.vm).setFrames (.invoking m args :: below)).setFrames (T.setVm s.vm).frames with heap := T.heap, slotsUsed := T.slotsUsed }
      rw [State.setFrames_setFrames, State.setFrames_self ht]
      rfl
    · show T.slotsUsed = T.slotsUsed + ((T.heap.toList.drop T.heap.size).map (·.slots.size)).sum
      rw [List.drop_eq_nil_of_le (Nat.le_of_eq Array.length_toList)]
      rfl
    · show ((T.heap.toList.drop T.heap.size).map (·.slots.size)).sum ≤ 0
      rw [List.drop_eq_nil_of_le (Nat.le_of_eq Array.length_toList)]
      exact Nat.le_refl _
/-- 'throw new E()': new; dup; invokespecial; athrow -/
theorem vx_throw0 {cc : ByteArray} {pc : Nat} (hexec : p.tables.exec = Jvm.exec) (hb : c.code = cc) (hl : l.stackTraces = false) {own cls : String} {names : List String} {ik ic mc ms : Nat} {A : Nat → Prop}
    (hown : s.vm.findClass own = some m.cls) (hcls : Bundle.fit cls = true) (hnames : ∀ n ∈ names, Bundle.fit n = true)
    (hk : (Cond.classLink own ik cls).before args s = true) (hini : (Cond.initialized cls).before args s = true) (hat : ∀ w ∈ vx_at0 own ic cls names, w.before args s = true)
    (hgood : ∀ w ∈ Cond.classLink own ik cls :: Cond.initialized cls :: vx_at0 own ic cls names, vx_ot w = true)
    (hU : vx_Zq Bundle.tN "UNASSIGNED_STACK" Bundle.steD A s s.heap) (hN : vx_Zq Bundle.tN "SUPPRESSED_SENTINEL" Bundle.listD A s s.heap) (hS : va_S A s.heap H locs) (hsize : ls.size = c.maxLocals)
    (d0 : decode cc pc = .ok (.new ik, 3)) (d3 : decode cc (pc + 3) = .ok (.dup, 1)) (d4 : decode cc (pc + 4) = .ok (.invokespecial ic, 3)) (d7 : decode cc (pc + 7) = .ok (.athrow, 1))
    (hout : ∀ x ∈ c.exceptionTable.toList, covers x (pc + 7) = false)
    (hRframes : names.length + 3 < R.frames) (hRlocals : (rest.map fun v => v.category).sum + (13 * (names.length + 1) + 42) ≤ R.locals) (hRcells : cells + 1 ≤ R.cells) (hRslots : slots + 6 ≤ R.slots) (hlocks : meth.locks = false)
    (hx : ∀ t : State, s.vm.Alike t.vm → H.size ≤ t.heap.size → (∀ q : Nat, q < H.size → t.heap[q]? = H[q]?) → XC cls s t)
    (hf : ∀ z ∈ locs, free z.base) (hc : cells + 1 ≤ mc) (hs : slots + 6 ≤ ms) :
    W p l e R s m args below meth c H locs cells slots (vx_MQ below Qc XC args s mc ms free) (F0 m pc ls rest) := by
  intro T hT X
  have htr : e.platform.stackTraces = false := (show e.platform.stackTraces = l.stackTraces by rw [X.admits.platform]).trans hl
  have Y := vx_rebase X (R' := { frames := R.frames, locals := R.locals, cells := 1, slots := 6 }) (Nat.le_refl _) (Nat.le_refl _) hRcells hRslots
  obtain ⟨s', hA⟩ : ∃ z, z = (T.setVm s.vm).setFrames (.invoking m args :: below) := ⟨_, rfl⟩
  rw [← hA] at Y
  have hvm : s'.vm = s.vm := by rw [hA]; rfl
  have hhp : s'.heap = H := by rw [hA]; exact hT
  have hW0 : s.WarmedH s'.vm := by rw [hvm]; exact State.WarmedH.refl s
  have hat' : ∀ w ∈ vx_at0 own ic cls names, w.before args s' = true := fun w hw => vx_ot_at hW0 hvm.symm (hgood w (List.mem_cons_of_mem _ (List.mem_cons_of_mem _ hw))) (hat w hw)
  have hk' : (Cond.classLink own ik cls).before args s' = true := vx_ot_at hW0 hvm.symm (hgood _ List.mem_cons_self) hk
  have hini' : (Cond.initialized cls).before args s' = true := vx_ot_at hW0 hvm.symm (hgood _ (List.mem_cons_of_mem _ List.mem_cons_self)) hini
  have hU' : vx_Zq Bundle.tN "UNASSIGNED_STACK" Bundle.steD A s' s'.heap := by rw [hhp]; exact vx_Zq.moved hW0.alike (hU.kept hS.2.1)
  have hN' : vx_Zq Bundle.tN "SUPPRESSED_SENTINEL" Bundle.listD A s' s'.heap := by rw [hhp]; exact vx_Zq.moved hW0.alike (hN.kept hS.2.1)
  have h : ∀ w ∈ Bundle.ownAtoms0 own ic cls names, w.before args s' = true := vx_own hat' (vx_isRefq hU'.1) (vx_isRefq hN'.1) hU'.2.word hN'.2.word
  have hown' : s'.vm.findClass own = some m.cls := by rw [hvm]; exact hown
  have hins : (Cond.instantiable cls 6).before args s' = true := h _ (by simp [Bundle.ownAtoms0])
  obtain ⟨vm₁, cX, kX, hfX, hkX, -, -, X₁, st1⟩ := Y.newCold hexec (own := own) (C := cls) (index := ik) (n := 6) hown' hk' hins hini'
    (g := F0 m pc ls rest) rfl (by rw [hb]; exact d0) (Nat.le_refl _) (Nat.le_refl _)
  generalize hT1 : (T.setVm vm₁).pushCell { cls := cX, slots := kX.instanceTypes.map defaultValue, vm := .none } = T1 at X₁ st1
  have hcat : (Value.ref T.heap.size).category = 1 := rfl
  have hcellA : T1.heap[T.heap.size]? = some (freshCell cX kX) := by rw [← hT1]; exact State.heap_pushCell_size _ _
  have d3' : decode c.code (pc + 3) = .ok (.dup, 1) := by rw [hb]; exact d3
  obtain ⟨U, hsteps, hrun, hend, hW, hsame, ce, hce, hO⟩ := X₁.ctorThrow0 hexec htr (own := own) (cls := cls) (names := names) (ic := ic) hown' hcls hnames h (fun x hx => nomatch hx) hfX hkX hcellA (by rw [hhp, hT]; exact Nat.le_refl _)
    (g := { method := m, pc := pc + 4, locals := ls, stack := .ref T.heap.size :: .ref T.heap.size :: rest, locked := none }) rfl hsize rfl rfl (rest := rest) rfl
    (by rw [hb]; exact d4) (by rw [hb]; exact d7) hout hRframes (by simp only [List.map_cons, List.sum_cons, hcat]; omega) hlocks
  obtain ⟨f1, f2⟩ := vx_frame hsame
  rw [hhp] at f1 f2
  have hWs : s.WarmedH U.vm := State.WarmedH.trans hW0 hW
  have hcl : s.vm.findClass cls = some ce.cls := by
    have h9 := hO.cls
    rw [hvm] at h9
    exact h9
  have hall : s.sameButNew ({ U with vm := s.vm } : State) locs mc ms := by
    subst hA
    obtain ⟨e1, e2⟩ := hsame
    rw [State.setFrames_setFrames] at e1
    have h2 : (T.setVm s.vm).sameButNew ({ U with vm := s.vm } : State) [] (0 + 1) (0 + 6) := ⟨e1, e2⟩
    have h3 := X.same.trans h2
    rw [List.append_nil] at h3
    exact h3.mono hc hs
  refine ⟨U, ?_, .threw T.heap.size, hrun, hend, Or.inr ⟨T.heap.size, rfl, cls, ce, locs, hx U hWs.alike f1 (fun q hq => f2 q hq (fun z hz => nomatch hz)), hce, hO.vm, hcl, hWs, hall, hf⟩⟩
  refine st1 _ ?_
  show Steps p.tables e below (T1.setTop { method := m, pc := pc + 3, locals := ls, stack := .ref T.heap.size :: rest, locked := none }) _
  jvm_step X₁.here [X₁.here.top, hexec, d3', Value.category]
  exact hsteps
/-- 'throw new E("text")': new; dup; ldc; invokespecial; athrow -/
theorem vx_throwS {cc : ByteArray} {pc : Nat} (hexec : p.tables.exec = Jvm.exec) (hb : c.code = cc) (hl : l.stackTraces = false) {own cls text : String} {names : List String} {ik is ic mc ms sa : Nat} {A : Nat → Prop}
    (hown : s.vm.findClass own = some m.cls) (hcls : Bundle.fit cls = true) (hnames : ∀ n ∈ names, Bundle.fit n = true)
    (hk : (Cond.classLink own ik cls).before args s = true) (hini : (Cond.initialized cls).before args s = true) (hstr : vk_R own is text sa s) (hat : ∀ w ∈ vx_atS own ic cls names, w.before args s = true)
    (hgood : ∀ w ∈ Cond.classLink own ik cls :: Cond.initialized cls :: vx_atS own ic cls names, vx_ot w = true)
    (hU : vx_Zq Bundle.tN "UNASSIGNED_STACK" Bundle.steD A s s.heap) (hN : vx_Zq Bundle.tN "SUPPRESSED_SENTINEL" Bundle.listD A s s.heap) (hS : va_S A s.heap H locs) (hsize : ls.size = c.maxLocals)
    (d0 : decode cc pc = .ok (.new ik, 3)) (d3 : decode cc (pc + 3) = .ok (.dup, 1)) (d4 : decode cc (pc + 4) = .ok (.ldc is, 2)) (d6 : decode cc (pc + 6) = .ok (.invokespecial ic, 3)) (d9 : decode cc (pc + 9) = .ok (.athrow, 1))
    (hout : ∀ x ∈ c.exceptionTable.toList, covers x (pc + 9) = false)
    (hRframes : names.length + 3 < R.frames) (hRlocals : (rest.map fun v => v.category).sum + (13 * (names.length + 1) + 43) ≤ R.locals) (hRcells : cells + 1 ≤ R.cells) (hRslots : slots + 6 ≤ R.slots) (hlocks : meth.locks = false)
    (hx : ∀ t : State, s.vm.Alike t.vm → H.size ≤ t.heap.size → (∀ q : Nat, q < H.size → t.heap[q]? = H[q]?) → XC cls s t)
    (hf : ∀ z ∈ locs, free z.base) (hc : cells + 1 ≤ mc) (hs : slots + 6 ≤ ms) :
    W p l e R s m args below meth c H locs cells slots (vx_MQ below Qc XC args s mc ms free) (F0 m pc ls rest) := by
  intro T hT X
  have htr : e.platform.stackTraces = false := (show e.platform.stackTraces = l.stackTraces by rw [X.admits.platform]).trans hl
  have Y := vx_rebase X (R' := { frames := R.frames, locals := R.locals, cells := 1, slots := 6 }) (Nat.le_refl _) (Nat.le_refl _) hRcells hRslots
  obtain ⟨s', hA⟩ : ∃ z, z = (T.setVm s.vm).setFrames (.invoking m args :: below) := ⟨_, rfl⟩
  rw [← hA] at Y
  have hvm : s'.vm = s.vm := by rw [hA]; rfl
  have hhp : s'.heap = H := by rw [hA]; exact hT
  have hW0 : s.WarmedH s'.vm := by rw [hvm]; exact State.WarmedH.refl s
  have hat' : ∀ w ∈ vx_atS own ic cls names, w.before args s' = true := fun w hw => vx_ot_at hW0 hvm.symm (hgood w (List.mem_cons_of_mem _ (List.mem_cons_of_mem _ hw))) (hat w hw)
  have hk' : (Cond.classLink own ik cls).before args s' = true := vx_ot_at hW0 hvm.symm (hgood _ List.mem_cons_self) hk
  have hini' : (Cond.initialized cls).before args s' = true := vx_ot_at hW0 hvm.symm (hgood _ (List.mem_cons_of_mem _ List.mem_cons_self)) hini
  have hU' : vx_Zq Bundle.tN "UNASSIGNED_STACK" Bundle.steD A s' s'.heap := by rw [hhp]; exact vx_Zq.moved hW0.alike (hU.kept hS.2.1)
  have hN' : vx_Zq Bundle.tN "SUPPRESSED_SENTINEL" Bundle.listD A s' s'.heap := by rw [hhp]; exact vx_Zq.moved hW0.alike (hN.kept hS.2.1)
  have h : ∀ w ∈ Bundle.ownAtoms own ic cls names, w.before args s' = true := vx_own hat' (vx_isRefq hU'.1) (vx_isRefq hN'.1) hU'.2.word hN'.2.word
  have hown' : s'.vm.findClass own = some m.cls := by rw [hvm]; exact hown
  have hins : (Cond.instantiable cls 6).before args s' = true := h _ (by simp [Bundle.ownAtoms])
  obtain ⟨vm₁, cX, kX, hfX, hkX, -, -, X₁, st1⟩ := Y.newCold hexec (own := own) (C := cls) (index := ik) (n := 6) hown' hk' hins hini'
    (g := F0 m pc ls rest) rfl (by rw [hb]; exact d0) (Nat.le_refl _) (Nat.le_refl _)
  generalize hT1 : (T.setVm vm₁).pushCell { cls := cX, slots := kX.instanceTypes.map defaultValue, vm := .none } = T1 at X₁ st1
  have hcat : (Value.ref T.heap.size).category = 1 := rfl
  have hcellA : T1.heap[T.heap.size]? = some (freshCell cX kX) := by rw [← hT1]; exact State.heap_pushCell_size _ _
  have d3' : decode c.code (pc + 3) = .ok (.dup, 1) := by rw [hb]; exact d3
  have d4' : decode c.code (pc + 4) = .ok (.ldc is, 2) := by rw [hb]; exact d4
  have hstr' : vk_R own is text sa s' := vk_R.warm hW0 hstr
  obtain ⟨U, hsteps, hrun, hend, hW, hsame, ce, hce, hO⟩ := X₁.ctorThrowS hexec htr (own := own) (cls := cls) (names := names) (ic := ic) hown' hcls hnames h (fun x hx => nomatch hx) hfX hkX hcellA (by rw [hhp, hT]; exact Nat.le_refl _) (msg := .ref sa) rfl
    (g := { method := m, pc := pc + 6, locals := ls, stack := .ref sa :: .ref T.heap.size :: .ref T.heap.size :: rest, locked := none }) rfl hsize rfl rfl (rest := rest) rfl
    (by rw [hb]; exact d6) (by rw [hb]; exact d9) hout hRframes (by simp only [List.map_cons, List.sum_cons, hcat]; omega) hlocks
  obtain ⟨f1, f2⟩ := vx_frame hsame
  rw [hhp] at f1 f2
  have hWs : s.WarmedH U.vm := State.WarmedH.trans hW0 hW
  have hcl : s.vm.findClass cls = some ce.cls := by
    have h9 := hO.cls
    rw [hvm] at h9
    exact h9
  have hall : s.sameButNew ({ U with vm := s.vm } : State) locs mc ms := by
    subst hA
    obtain ⟨e1, e2⟩ := hsame
    rw [State.setFrames_setFrames] at e1
    have h2 : (T.setVm s.vm).sameButNew ({ U with vm := s.vm } : State) [] (0 + 1) (0 + 6) := ⟨e1, e2⟩
    have h3 := X.same.trans h2
    rw [List.append_nil] at h3
    exact h3.mono hc hs
  refine ⟨U, ?_, .threw T.heap.size, hrun, hend, Or.inr ⟨T.heap.size, rfl, cls, ce, locs, hx U hWs.alike f1 (fun q hq => f2 q hq (fun z hz => nomatch hz)), hce, hO.vm, hcl, hWs, hall, hf⟩⟩
  refine st1 _ ?_
  show Steps p.tables e below (T1.setTop { method := m, pc := pc + 3, locals := ls, stack := .ref T.heap.size :: rest, locked := none }) _
  jvm_step X₁.here [X₁.here.top, hexec, d3', Value.category]
  exact X₁.ldcString hexec (own := own) (text := text) (index := is) (a := sa) hown' hstr'.1 hstr'.2
    (g := { method := m, pc := pc + 4, locals := ls, stack := .ref T.heap.size :: .ref T.heap.size :: rest, locked := none }) rfl d4' _ hsteps
/-- 'throw new E("text")', the text by a wide index -/
theorem vx_throwSW {cc : ByteArray} {pc : Nat} (hexec : p.tables.exec = Jvm.exec) (hb : c.code = cc) (hl : l.stackTraces = false) {own cls text : String} {names : List String} {ik is ic mc ms sa : Nat} {A : Nat → Prop}
    (hown : s.vm.findClass own = some m.cls) (hcls : Bundle.fit cls = true) (hnames : ∀ n ∈ names, Bundle.fit n = true)
    (hk : (Cond.classLink own ik cls).before args s = true) (hini : (Cond.initialized cls).before args s = true) (hstr : vk_R own is text sa s) (hat : ∀ w ∈ vx_atS own ic cls names, w.before args s = true)
    (hgood : ∀ w ∈ Cond.classLink own ik cls :: Cond.initialized cls :: vx_atS own ic cls names, vx_ot w = true)
    (hU : vx_Zq Bundle.tN "UNASSIGNED_STACK" Bundle.steD A s s.heap) (hN : vx_Zq Bundle.tN "SUPPRESSED_SENTINEL" Bundle.listD A s s.heap) (hS : va_S A s.heap H locs) (hsize : ls.size = c.maxLocals)
    (d0 : decode cc pc = .ok (.new ik, 3)) (d3 : decode cc (pc + 3) = .ok (.dup, 1)) (d4 : decode cc (pc + 4) = .ok (.ldc_w is, 3)) (d7 : decode cc (pc + 7) = .ok (.invokespecial ic, 3)) (d10 : decode cc (pc + 10) = .ok (.athrow, 1))
    (hout : ∀ x ∈ c.exceptionTable.toList, covers x (pc + 10) = false)
    (hRframes : names.length + 3 < R.frames) (hRlocals : (rest.map fun v => v.category).sum + (13 * (names.length + 1) + 43) ≤ R.locals) (hRcells : cells + 1 ≤ R.cells) (hRslots : slots + 6 ≤ R.slots) (hlocks : meth.locks = false)
    (hx : ∀ t : State, s.vm.Alike t.vm → H.size ≤ t.heap.size → (∀ q : Nat, q < H.size → t.heap[q]? = H[q]?) → XC cls s t)
    (hf : ∀ z ∈ locs, free z.base) (hc : cells + 1 ≤ mc) (hs : slots + 6 ≤ ms) :
    W p l e R s m args below meth c H locs cells slots (vx_MQ below Qc XC args s mc ms free) (F0 m pc ls rest) := by
  intro T hT X
  have htr : e.platform.stackTraces = false := (show e.platform.stackTraces = l.stackTraces by rw [X.admits.platform]).trans hl
  have Y := vx_rebase X (R' := { frames := R.frames, locals := R.locals, cells := 1, slots := 6 }) (Nat.le_refl _) (Nat.le_refl _) hRcells hRslots
  obtain ⟨s', hA⟩ : ∃ z, z = (T.setVm s.vm).setFrames (.invoking m args :: below) := ⟨_, rfl⟩
  rw [← hA] at Y
  have hvm : s'.vm = s.vm := by rw [hA]; rfl
  have hhp : s'.heap = H := by rw [hA]; exact hT
  have hW0 : s.WarmedH s'.vm := by rw [hvm]; exact State.WarmedH.refl s
  have hat' : ∀ w ∈ vx_atS own ic cls names, w.before args s' = true := fun w hw => vx_ot_at hW0 hvm.symm (hgood w (List.mem_cons_of_mem _ (List.mem_cons_of_mem _ hw))) (hat w hw)
  have hk' : (Cond.classLink own ik cls).before args s' = true := vx_ot_at hW0 hvm.symm (hgood _ List.mem_cons_self) hk
  have hini' : (Cond.initialized cls).before args s' = true := vx_ot_at hW0 hvm.symm (hgood _ (List.mem_cons_of_mem _ List.mem_cons_self)) hini
  have hU' : vx_Zq Bundle.tN "UNASSIGNED_STACK" Bundle.steD A s' s'.heap := by rw [hhp]; exact vx_Zq.moved hW0.alike (hU.kept hS.2.1)
  have hN' : vx_Zq Bundle.tN "SUPPRESSED_SENTINEL" Bundle.listD A s' s'.heap := by rw [hhp]; exact vx_Zq.moved hW0.alike (hN.kept hS.2.1)
  have h : ∀ w ∈ Bundle.ownAtoms own ic cls names, w.before args s' = true := vx_own hat' (vx_isRefq hU'.1) (vx_isRefq hN'.1) hU'.2.word hN'.2.word
  have hown' : s'.vm.findClass own = some m.cls := by rw [hvm]; exact hown
  have hins : (Cond.instantiable cls 6).before args s' = true := h _ (by simp [Bundle.ownAtoms])
  obtain ⟨vm₁, cX, kX, hfX, hkX, -, -, X₁, st1⟩ := Y.newCold hexec (own := own) (C := cls) (index := ik) (n := 6) hown' hk' hins hini'
    (g := F0 m pc ls rest) rfl (by rw [hb]; exact d0) (Nat.le_refl _) (Nat.le_refl _)
  generalize hT1 : (T.setVm vm₁).pushCell { cls := cX, slots := kX.instanceTypes.map defaultValue, vm := .none } = T1 at X₁ st1
  have hcat : (Value.ref T.heap.size).category = 1 := rfl
  have hcellA : T1.heap[T.heap.size]? = some (freshCell cX kX) := by rw [← hT1]; exact State.heap_pushCell_size _ _
  have d3' : decode c.code (pc + 3) = .ok (.dup, 1) := by rw [hb]; exact d3
  have d4' : decode c.code (pc + 4) = .ok (.ldc_w is, 3) := by rw [hb]; exact d4
  have hstr' : vk_R own is text sa s' := vk_R.warm hW0 hstr
  obtain ⟨U, hsteps, hrun, hend, hW, hsame, ce, hce, hO⟩ := X₁.ctorThrowS hexec htr (own := own) (cls := cls) (names := names) (ic := ic) hown' hcls hnames h (fun x hx => nomatch hx) hfX hkX hcellA (by rw [hhp, hT]; exact Nat.le_refl _) (msg := .ref sa) rfl
    (g := { method := m, pc := pc + 7, locals := ls, stack := .ref sa :: .ref T.heap.size :: .ref T.heap.size :: rest, locked := none }) rfl hsize rfl rfl (rest := rest) rfl
    (by rw [hb]; exact d7) (by rw [hb]; exact d10) hout hRframes (by simp only [List.map_cons, List.sum_cons, hcat]; omega) hlocks
  obtain ⟨f1, f2⟩ := vx_frame hsame
  rw [hhp] at f1 f2
  have hWs : s.WarmedH U.vm := State.WarmedH.trans hW0 hW
  have hcl : s.vm.findClass cls = some ce.cls := by
    have h9 := hO.cls
    rw [hvm] at h9
    exact h9
  have hall : s.sameButNew ({ U with vm := s.vm } : State) locs mc ms := by
    subst hA
    obtain ⟨e1, e2⟩ := hsame
    rw [State.setFrames_setFrames] at e1
    have h2 : (T.setVm s.vm).sameButNew ({ U with vm := s.vm } : State) [] (0 + 1) (0 + 6) := ⟨e1, e2⟩
    have h3 := X.same.trans h2
    rw [List.append_nil] at h3
    exact h3.mono hc hs
  refine ⟨U, ?_, .threw T.heap.size, hrun, hend, Or.inr ⟨T.heap.size, rfl, cls, ce, locs, hx U hWs.alike f1 (fun q hq => f2 q hq (fun z hz => nomatch hz)), hce, hO.vm, hcl, hWs, hall, hf⟩⟩
  refine st1 _ ?_
  show Steps p.tables e below (T1.setTop { method := m, pc := pc + 3, locals := ls, stack := .ref T.heap.size :: rest, locked := none }) _
  jvm_step X₁.here [X₁.here.top, hexec, d3', Value.category]
  exact X₁.ldcStringW hexec (own := own) (text := text) (index := is) (a := sa) hown' hstr'.1 hstr'.2
    (g := { method := m, pc := pc + 4, locals := ls, stack := .ref T.heap.size :: .ref T.heap.size :: rest, locked := none }) rfl d4' _ hsteps
end Ends
section Bodies
variable {l : Launch}
theorem vx_ofW {y : MethodName} {ws ws' : List Cond} {rm : Room} {Pc : Array Value → State → Prop} {Qc : Array Value → State → Outcome → State → Prop} {XC : String → State → State → Prop} {mc ms : Nat} {free : Addr → Prop} {cc : ByteArray} {maxL : Nat} {ret : Option FieldType}
    (hy : plainName y.cls = true) (hw : ws = Cond.code y cc maxL ret :: ws')
    (body : ∀ p e s m args below meth c s₁, BodyLoose p l y (headSpec ws rm) cc maxL ret e s m args below meth c s₁ → c.maxLocals = maxL → (∀ x ∈ c.exceptionTable.toList, False) → Pc args s →
      W p l e (headSpec ws rm).room s m args below meth c s.heap [] 0 0 (vx_MQ below Qc XC args s mc ms free) (entryFrame m args maxL)) : vx_Met l y ws rm Pc Qc XC mc ms free := by
  refine MetFree.of_bodyS (code := cc) (maxLocals := maxL) (ret := ret) hy ?_ ?_
  · intro args s m h hn
    obtain ⟨meth, c, h1, h2, h3, h4, h5, h6, -, -⟩ := Cond.code_spec hn (atoms_spec (ws := ws) h _ (by rw [hw]; exact List.mem_cons_self))
    exact ⟨meth, c, h1, h2, h3, h4, h5, h6⟩
  · intro p e s m args below meth c s₁ B hml hP _
    have hh0 : s₁.heap = s.heap := by rw [B.state]; rfl
    have ht : ∀ x ∈ c.exceptionTable.toList, False := by
      obtain ⟨meth9, c9, h1, h2, -, -, -, -, h7, -⟩ := Cond.code_spec B.named (atoms_spec (ws := ws) B.pre _ (by rw [hw]; exact List.mem_cons_self))
      cases Option.some.inj (h1.symm.trans B.method)
      cases Option.some.inj (h2.symm.trans (Stand.of_body B).code)
      intro x hx
      rw [Array.isEmpty_iff.mp h7] at hx
      cases hx
    obtain ⟨t, a1, o, b1, b2, b3⟩ := body p e s m args below meth c s₁ B hml ht hP s₁ hh0 (Stand.of_body B)
    exact ⟨t, o, a1, b1, b2, b3⟩
/-- the table of a body with handlers -/
theorem vx_table {p : Program} {x y : MethodName} {S : Spec} {cc bytes : ByteArray} {maxL maxL' : Nat} {ret ret' : Option FieldType} {e : Env} {s s₁ : State} {m : MethodId} {args : Array Value} {below : List Frame} {meth : Method} {c : Code} {hh : List (Nat × Nat × Nat × Nat)}
    (B : BodyLoose p l y S cc maxL ret e s m args below meth c s₁) (h : (Cond.codeWith y bytes maxL' ret' hh).before args s = true) : c.exceptionTable.toList = tableOf hh := by
  obtain ⟨m9, meth9, c9, hn9, h1, h2, -, -, h6, -⟩ := Cond.codeWith_spec h
  cases Option.some.inj (hn9.symm.trans B.named)
  cases Option.some.inj (h1.symm.trans B.method)
  cases Option.some.inj (h2.symm.trans (Stand.of_body B).code)
  rw [← h6, table_eq]
end Bodies
end VXA
/-! ===== END ===== -/
/-! ===== BEGIN a static call of a method with an exception table ===== -/
section VXS
variable {p : Program} {l : Launch} {e : Env} {R : Room} {s : State} {m : MethodId} {args : Array Value} {below : List Frame} {meth : Method} {c : Code} {T : State} {H : Heap} {locs : List Loc} {cells slots : Nat}
abbrev vx_CSW (R : Room) (s : State) (args : Array Value) (own : String) (index : Nat) (y : MethodName) (bytes : ByteArray) (maxL : Nat) (ret : Option FieldType) (hh : List (Nat × Nat × Nat × Nat)) (ws : List Cond) (rm : Room) (mc ms n : Nat) : Prop :=
  (rm.cells = mc ∧ rm.slots = ms ∧ rm.frames + 1 ≤ R.frames ∧ 8 + (maxL + 11) + rm.locals ≤ R.locals ∧ (∀ w ∈ ws, ∀ (a' : Array Value) (U : State), s.WarmedH U.vm → w.before a' U = true) ∧ Cond.codeWith y bytes maxL ret hh ∈ ws) ∧
  (Cond.codeWith y bytes maxL ret hh).before args s = true ∧ (Cond.initialized y.cls).before args s = true ∧ (y.cls ≠ "java/lang/invoke/MethodHandle" ∧ y.cls ≠ "java/lang/invoke/VarHandle") ∧
  (∀ sig, parseMethodDescriptor y.desc = some sig → n = sig.parameters.length) ∧ (Cond.methodLink own index y).before args s = true ∧ (Cond.static y).before args s = true
theorem vx_cwSW {own : String} {index maxL mc ms : Nat} {y : MethodName} {bytes : ByteArray} {ret : Option FieldType} {hh : List (Nat × Nat × Nat × Nat)} {Ts ws ws' : List Cond} {rm : Room} (n : Nat) (ht : ∀ w ∈ Ts, w.before args s = true) (hT : GoodIn Ts (va_wsS own index y ws)) (hw : ws = Cond.codeWith y bytes maxL ret hh :: ws') (hrc : rm.cells = mc) (hrs : rm.slots = ms)
    (hd : y.cls ≠ "java/lang/invoke/MethodHandle" ∧ y.cls ≠ "java/lang/invoke/VarHandle" ∧ (parseMethodDescriptor y.desc).map (fun d => d.parameters.length) = some n) (hR : rm.frames + 1 ≤ R.frames ∧ 8 + (maxL + 11) + rm.locals ≤ R.locals) :
    vx_CSW R s args own index y bytes maxL ret hh ws rm mc ms n := by
  have ok : ∀ w ∈ va_wsS own index y ws, w.before args s = true := fun w h => ht w (hT w h).1
  have hG : GoodIn Ts ws := fun w h => hT w (by unfold va_wsS; exact List.mem_append_right _ h)
  have hc : Cond.codeWith y bytes maxL ret hh ∈ ws := by rw [hw]; exact List.mem_cons_self
  refine ⟨⟨hrc, hrs, hR.1, hR.2, pay_in ht hG, hc⟩, ht _ (hG _ hc).1, ok _ (by simp [va_wsS]), ⟨hd.1, hd.2.1⟩, fun sig h => ?_, ok _ (by simp [va_wsS]), ok _ (by simp [va_wsS])⟩
  have h2 := hd.2.2
  rw [h] at h2
  exact (Option.some.inj h2).symm
theorem vx_callSW (X : Stand p l e R s m args below meth c T locs cells slots) (hexec : p.tables.exec = Jvm.exec) {own : String} {index : Nat} {y : MethodName} {bytes : ByteArray} {maxL : Nat} {ret : Option FieldType} {hh : List (Nat × Nat × Nat × Nat)}
    (hown : s.vm.findClass own = some m.cls) (hlink : (Cond.methodLink own index y).before args s = true) (hstat : (Cond.static y).before args s = true) (hinit : (Cond.initialized y.cls).before args s = true)
    (hcode : (Cond.codeWith y bytes maxL ret hh).before args s = true) (hy : y.cls ≠ "java/lang/invoke/MethodHandle" ∧ y.cls ≠ "java/lang/invoke/VarHandle")
    {W9 : Nat} {Pre : Pt → Array Value → Prop} {Post : Pt → Array Value → Option Value → Pt → Prop} (hK : Back l R p e below s args y 3 W9 Pre Post)
    {g : JFrame} (hg : g.method = m) (hsize : g.locals.size = c.maxLocals) {argsL rest : List Value} (hlen : ∀ sig, parseMethodDescriptor y.desc = some sig → argsL.length = sig.parameters.length)
    (hstack : g.stack = argsL.reverse ++ rest) (hW : 2 * g.monitorRoom + (rest.map fun v => v.category).sum ≤ W9) (hdg : decode c.code g.pc = .ok (.invokestatic index, 3))
    (hpre : ∀ vm₁, s.WarmedH vm₁ → Pre ⟨T.setVm vm₁, locs, cells, slots⟩ argsL.toArray) :
    ∃ (v : Option Value) (vm₁ : Vm) (B : Pt), s.WarmedH vm₁ ∧ Stand p l e R s m args below meth c B.U B.locs B.cells B.slots ∧ Post ⟨T.setVm vm₁, locs, cells, slots⟩ argsL.toArray v B ∧
      ∀ target, Steps p.tables e below (B.U.setTop { g with pc := g.pc + 3, stack := v.toList ++ rest }) target → Steps p.tables e below (T.setTop g) target := by
  obtain ⟨mk, methM, cM, hnamed, hmethM, -, -, -, -, -, -, hsigM⟩ := Cond.codeWith_spec hcode
  have hstatic : methM.isStatic = true := Cond.static_spec hnamed hmethM hstat
  obtain ⟨kP, hkP, -⟩ := className_of_methodNamed hnamed
  have hinitP : kP.init = .initialized := Cond.initialized_spec (findClass_of_methodNamed hnamed) hkP hinit
  obtain ⟨vm₁, X₁, hstep₁⟩ := X.invokestatic hexec hown hlink hnamed hmethM hstatic hkP hinitP hy (g := g) hg (argsL := argsL) (rest := rest) (hlen _ hsigM) hstack hdg
  obtain ⟨v, B, X', hpost, hsteps⟩ := hK m meth c ⟨T.setVm vm₁, locs, cells, slots⟩ { g with stack := rest } (.invokestatic index) mk argsL.toArray X₁ hg hsize hdg hW (X₁.named hnamed) (hpre vm₁ X₁.warmed)
  exact ⟨v, vm₁, B, X₁.warmed, X', hpost, fun target h => hstep₁ _ fun acts => by rw [doInvoke_state]; exact hsteps.trans h⟩
theorem vx_runSW {y : MethodName} {bytes cc : ByteArray} {maxL nL mc ms n index : Nat} {ret : Option FieldType} {hh : List (Nat × Nat × Nat × Nat)} {ws : List Cond} {rm : Room} {Pc : Array Value → State → Prop} {Qc : Array Value → State → Outcome → State → Prop} {free : Addr → Prop} {Ts : List Cond} {own : String} {As rest : List Value} {g : JFrame}
    (S : CallFix p m c cc nL s args Ts own) (hM : Met l y ws rm Pc Qc mc ms free) (cw : vx_CSW R s args own index y bytes maxL ret hh ws rm mc ms n) (hp : PreS s H Pc As)
    (hg : g.method = m) (hn : As.length = n) (hsize : g.locals.size = nL) (hstack : g.stack = As.reverse ++ rest) (hW : 2 * g.monitorRoom + (rest.map fun v => v.category).sum ≤ 8) (hdg : decode cc g.pc = .ok (.invokestatic index, 3)) (hf : cells + mc ≤ R.cells ∧ slots + ms ≤ R.slots) :
    va_Run p l e R s m args below meth c H locs cells slots mc ms g rest (Qc As.toArray) (free) := by
  obtain ⟨⟨hrc, hrs, hfr, hlo, hws, hcw⟩, hcode, hini, hy, hlen, hl, hstt⟩ := cw
  have hK : Back l R p e below s args y 3 8 (PreOf R mc ms Pc) (PostOf Qc mc ms free) := va_backW (hh := hh) (bytes := bytes) (maxL := maxL) (ret := ret) hM hp.1 hrc hrs hfr hlo hws hcw (fun a' U hW => word_at hW (Or.inl (by first | rfl | simp [Cond.onTables, Cond.keeps, Cond.steady])) hini)
  obtain ⟨hx, hb, hml, ho, -⟩ := S
  intro T hT X
  obtain ⟨v, vm₁, ⟨U', l2, c2, s2⟩, hW₁, X', ⟨g', mk, t, L, e1, e2, hq, h1, hL, h2, h3⟩, st⟩ := vx_callSW X hx (hh := hh) (bytes := bytes) (maxL := maxL) (ret := ret) ho hl hstt hini hcode hy hK hg (hsize.trans hml.symm) (argsL := As) (rest := rest) (fun sig h => hn.trans (hlen sig h)) hstack hW (by rw [hb]; exact hdg)
    (fun vm₁ hW₁ => ⟨hf.1, hf.2, hp.2 (T.setVm vm₁) hT hW₁⟩)
  dsimp only [Pt.U, Pt.locs, Pt.cells, Pt.slots] at X' e1 e2 h1 h2 h3 st
  subst h1; subst h2; subst h3
  exact ⟨v, (T.setVm vm₁).calling g' mk As.toArray, t, U', L, hT, X', hL, e1, e2, hq, st⟩
/-- not caught here, past rows that name other classes: it goes on to the caller -/
theorem vx_outP {p : Program} {l : Launch} {e : Env} {R : Room} {s : State} {m : MethodId} {args : Array Value} {below : List Frame} {meth : Method} {c : Code} {H : Heap} {locs : List Loc} {cells slots : Nat} {free : Addr → Prop} {ls : Array Slot} {rest : List Value} {Qc : Array Value → State → Outcome → State → Prop} {XC : String → State → State → Prop}
    {pc : Nat} {own E : String} {ce : Cell} {q : Addr} {mc ms : Nat} (hown : s.vm.findClass own = some m.cls) (hlocks : meth.locks = false)
    (hpass : ∀ z ∈ c.exceptionTable.toList, covers z pc = false ∨ (z.catchType ≠ 0 ∧ ∃ nm : String, (Cond.classLink own z.catchType nm).before args s = true ∧ va_Nc E nm s)) (hcell : H[q]? = some ce) (hv : ce.vm = .none) (hcl : s.vm.findClass E = some ce.cls)
    (hx : ∀ t : State, t.heap = H → s.vm.Alike t.vm → XC E s t) (hf : ∀ z ∈ locs, free z.base) (hc : cells ≤ mc) (hs : slots ≤ ms) :
    vx_W p l e R s m args below meth c H locs cells slots (vx_MQ below Qc XC args s mc ms free) (F0 m pc ls rest) q := by
  intro T hT X
  have hpl : e.platform.magicAccessors = ({} : Platform).magicAccessors := by rw [X.admits.platform]
  obtain ⟨vm', hW', X', st⟩ := X.outThrough hlocks q (g := F0 m pc ls rest) rfl rfl rfl (cell := ce) (by rw [hT]; exact hcell) (by rw [hv]; rfl)
    (by obtain ⟨k9, h9, -⟩ := Vm.findClass_spec hcl; exact ⟨k9, h9⟩) (fun z hz => by
      rcases hpass z hz with h | ⟨hz0, nm, hl1, hn1⟩
      · exact Or.inl h
      · obtain ⟨c6, hc6, hcl6⟩ := Cond.classLink_spec hown hl1 e.platform hpl
        obtain ⟨a8, b8, h1, h2, h3⟩ := hn1
        cases Option.some.inj (h1.symm.trans hcl)
        cases Option.some.inj (h2.symm.trans hc6)
        exact Or.inr ⟨hz0, _, hcl6, h3⟩)
  obtain ⟨g₀, hfr⟩ := X'.frames_eq
  have hcell9 : ((T.setVm vm').setFrames (.throwing q :: below)).heap[q]? = some ce := by
    show T.heap[q]? = some ce
    rw [hT]; exact hcell
  have hend : Ended ((T.setVm vm').setFrames (.throwing q :: below)) below (.threw q) := State.frames_setFrames _ (State.cur_lt_of_frames hfr)
  refine ⟨(T.setVm vm').setFrames (.throwing q :: below), ?_, .threw q, X'.here.running, hend, Or.inr ⟨q, rfl, E, ce, locs, hx _ hT (X'.ends _).1.alike, hcell9, hv, hcl, (X'.ends _).1, (X'.ends _).2.mono hc hs, hf⟩⟩
  rw [X.pushThrowing_eq]
  exact st
/-- a thing of a world lies in the heap -/
theorem vx_lt {D : va_G} {cl : List vw_C} {ws : va_W} {H1 : Heap} (h : va_P D cl ws H1) {k : Nat} {q : Nat × va_E} (hk : ws[k]? = some q) : q.1 < H1.size := (h k q hk).lt
end VXS
/-! ===== END ===== -/
/-! ===== BEGIN methods with a table of their own: called by a name, returning or throwing ===== -/
section VXH
/-! vx_backW, vx_callVX, vx_callSX, vx_callVW, vx_runVW, vx_runVX, vx_runSX, vx_ofWH follow the same proofs as their sisters above (Free/Laws.lean, Shelf42/LK1.lean); vx_outP calls Shelf42/NT130.lean (outThrough). -/
section
variable {l : Launch} {R : Room} {p : Program} {e : Env} {below : List Frame} {s : State} {sargs : Array Value} {y : MethodName} {len W9 : Nat}
theorem vx_backW {ws : List Cond} {rm : Room} {Pc : Array Value → State → Prop} {Qc : Array Value → State → Outcome → State → Prop} {XC : String → State → State → Prop} {mc ms : Nat} {free : Addr → Prop} {bytes : ByteArray} {maxL : Nat} {ret : Option FieldType} {hh : List (Nat × Nat × Nat × Nat)}
    (hM : vx_Met l y ws rm Pc Qc XC mc ms free) (hblind : FrameBlind Pc) (hrc : rm.cells = mc) (hrs : rm.slots = ms)
    (hframes : rm.frames + 1 ≤ R.frames) (hlocals : W9 + (maxL + 11) + rm.locals ≤ R.locals)
    (hws : ∀ w ∈ ws, ∀ a' U, s.WarmedH U.vm → w.before a' U = true) (hcode : Cond.codeWith y bytes maxL ret hh ∈ ws) (hinit : ∀ a' U, s.WarmedH U.vm → (Cond.initialized y.cls).before a' U = true) :
    vx_Back l R p e below s sargs y len W9 (PreOf R mc ms Pc) (PostOf Qc mc ms free) (vx_Post XC mc ms free) := by
  intro m meth c A g ig mk a X hg hsize hdg hW hn hp
  have h1 : (headSpec ws rm).pre.before a A.U = true := atoms_intro fun w hw => hws w hw _ _ X.warmed
  have h2 : (Cond.codeWith y bytes maxL ret hh).before a A.U = true := hws _ hcode _ _ X.warmed
  have h3 : (Cond.initialized y.cls).before a A.U = true := hinit _ _ X.warmed
  have h4 : A.cells + (headSpec ws rm).room.cells ≤ R.cells := by rw [show (headSpec ws rm).room.cells = mc from hrc]; exact hp.1
  have h5 : A.slots + (headSpec ws rm).room.slots ≤ R.slots := by rw [show (headSpec ws rm).room.slots = ms from hrs]; exact hp.2.1
  have hPc : Pc a (A.U.calling g mk a) := hblind _ _ _ _ hp.2.2
  obtain ⟨U, Ls, c0, s0⟩ := A
  dsimp only [Pt.U, Pt.locs, Pt.cells, Pt.slots] at h1 h2 h3 h4 h5 X hn hPc ⊢
  obtain ⟨m9, methY, cY, hn9, hmY, hcY, -, hlY, -⟩ := Cond.codeWith_spec h2
  cases Option.some.inj (hn9.symm.trans hn)
  obtain ⟨kY, hkY, -⟩ := className_of_methodNamed hn
  have hinitY : kY.init = .initialized := Cond.initialized_spec (findClass_of_methodNamed hn) hkY h3
  have h : At U g.method c below := by rw [hg]; exact X.here
  have hlocals9 : W9 + (maxL + 11) + (headSpec ws rm).room.locals ≤ R.locals := hlocals
  have happ : (headSpec ws rm).appliesLoose y e.platform (U.calling g mk a) = true :=
    Spec.appliesLoose_calling (g := g) h hdg hn hkY hinitY
      (X.room_calling (g := g) (R' := (headSpec ws rm).room) hsize hmY hcY hframes (by rw [hlY]; omega) h4 h5) h1
  obtain ⟨mid, hmid⟩ := h.above
  have hfr : (U.setTop g).frames = (.java g :: mid) ++ below := by rw [State.frames_setTop' g h.top, hmid]; rfl
  obtain ⟨o, s₂, hsteps, -, hend, hq⟩ := Steps.callFree hM p X.admits X.cas X.clock (acts := []) hfr happ hPc trivial
  have hq' : vx_Q Qc XC mc ms free a (U.calling g mk a) o s₂ := hq
  rw [State.frames_setTop' g h.top] at hend
  obtain ⟨g₀, hg0⟩ := Option.isSome_iff_exists.mp h.top
  obtain ⟨r, hr⟩ := State.topJava?_eq_some.mp hg0
  have hr' : (({ U with heap := s₂.heap, slotsUsed := s₂.slotsUsed } : State).setVm s₂.vm).frames = .java g₀ :: r := hr
  rcases hq' with ⟨hqc, L, hfe, hL⟩ | ⟨q, rfl, E, ce, L, hx, hce, hcv, hcl, hW₂, hsm, hL⟩
  · obtain ⟨⟨v, rfl⟩, hW₂, e2, q2, q3, q4, q5, q6⟩ := id hfe
    have e3 : s₂ = ({ (U.calling g mk a).setFrames s₂.frames with heap := s₂.heap, slotsUsed := s₂.slotsUsed } : State).setVm s₂.vm := by
      have : s₂ = ({ s₂ with vm := (U.calling g mk a).vm } : State).setVm s₂.vm := rfl
      rw [e2] at this
      exact this
    obtain ⟨c₂, i₂, len₂, hc₂, hd₂, hf₂⟩ := hend
    have hW' : U.WarmedH s₂.vm := hW₂
    have hcc : c₂ = c := by
      have h1 : s₂.code? g.method = U.code? g.method := by
        rw [State.code?_eq, State.code?_eq, hW'.alike.method?]
      exact Option.some.inj (hc₂.symm.trans (h1.trans h.code))
    subst hcc
    have hlen : len₂ = len := by rw [hdg] at hd₂; cases hd₂; rfl
    subst hlen
    have hs₂ : s₂ = (({ U with heap := s₂.heap, slotsUsed := s₂.slotsUsed } : State).setVm s₂.vm).setTop { g with pc := g.pc + len₂, stack := v.toList ++ g.stack } := by
      refine e3.trans ?_
      rw [hf₂, State.calling_eq h.top, State.setFrames_setFrames, State.setTop_of_frames _ hr', hr]
      rfl
    have hsame : U.sameButNew ({ U with heap := s₂.heap, slotsUsed := s₂.slotsUsed } : State) L mc ms := by
      refine ⟨?_, q2, q3, q4, q5, q6⟩
      obtain ⟨t, ht, -⟩ := State.frames_cons hr
      show ({ U with heap := s₂.heap, slotsUsed := s₂.slotsUsed } : State) = { U.setFrames U.frames with heap := s₂.heap, slotsUsed := s₂.slotsUsed }
      rw [State.setFrames_self ht]
    subst hg
    refine Or.inl ⟨v, ⟨(({ U with heap := s₂.heap, slotsUsed := s₂.slotsUsed } : State).setVm s₂.vm), Ls ++ L, c0 + mc, s0 + ms⟩,
      ⟨X.admits, X.cas, X.clock, X.frames, X.room, X.hears, X.method, X.code, (X.here.setHeapUsed s₂.heap s₂.slotsUsed).setVm hW'.alike, X.tail, State.WarmedH.trans X.warmed hW', X.limits, X.bytes, X.same.trans (hsame.setVm s.vm)⟩,
      ⟨g, mk, s₂, L, rfl, rfl, hqc, rfl, hL, rfl, rfl⟩, ?_⟩
    show Steps p.tables e below _ ((({ U with heap := s₂.heap, slotsUsed := s₂.slotsUsed } : State).setVm s₂.vm).setTop { g with pc := g.pc + len₂, stack := v.toList ++ g.stack })
    rw [← hs₂]
    exact hsteps
  · obtain ⟨e2, q2, q3, q4, q5, q6⟩ := id hsm
    have e3 : s₂ = ({ (U.calling g mk a).setFrames s₂.frames with heap := s₂.heap, slotsUsed := s₂.slotsUsed } : State).setVm s₂.vm := by
      have : s₂ = ({ s₂ with vm := (U.calling g mk a).vm } : State).setVm s₂.vm := rfl
      rw [e2] at this
      exact this
    have hf₂ : s₂.frames = .throwing q :: .java g :: U.frames.tail := hend
    have hW' : U.WarmedH s₂.vm := hW₂
    have hs₂ : s₂ = ((({ U with heap := s₂.heap, slotsUsed := s₂.slotsUsed } : State).setVm s₂.vm).setTop g).pushFrame (.throwing q) := by
      refine e3.trans ?_
      rw [hf₂, State.calling_eq h.top, State.setFrames_setFrames, State.pushFrame, State.frames_setTop _ hr', State.setTop_of_frames _ hr', State.setFrames_setFrames, hr]
      rfl
    have hsame : U.sameButNew ({ U with heap := s₂.heap, slotsUsed := s₂.slotsUsed } : State) L mc ms := by
      refine ⟨?_, q2, q3, q4, q5, q6⟩
      obtain ⟨t, ht, -⟩ := State.frames_cons hr
      show ({ U with heap := s₂.heap, slotsUsed := s₂.slotsUsed } : State) = { U.setFrames U.frames with heap := s₂.heap, slotsUsed := s₂.slotsUsed }
      rw [State.setFrames_self ht]
    subst hg
    refine Or.inr ⟨q, ⟨(({ U with heap := s₂.heap, slotsUsed := s₂.slotsUsed } : State).setVm s₂.vm), Ls ++ L, c0 + mc, s0 + ms⟩,
      ⟨X.admits, X.cas, X.clock, X.frames, X.room, X.hears, X.method, X.code, (X.here.setHeapUsed s₂.heap s₂.slotsUsed).setVm hW'.alike, X.tail, State.WarmedH.trans X.warmed hW', X.limits, X.bytes, X.same.trans (hsame.setVm s.vm)⟩,
      ⟨g, mk, s₂, L, E, ce, rfl, rfl, hx, hce, hcv, hcl, rfl, hL, rfl, rfl⟩, ?_⟩
    show Steps p.tables e below _ (((({ U with heap := s₂.heap, slotsUsed := s₂.slotsUsed } : State).setVm s₂.vm).setTop g).pushFrame (.throwing q))
    rw [← hs₂]
    exact hsteps
end
variable {p : Program} {l : Launch} {e : Env} {R : Room} {s : State} {m : MethodId} {args : Array Value} {below : List Frame} {meth : Method} {c : Code} {T : State} {H : Heap} {locs : List Loc} {cells slots : Nat}
theorem vx_callVX (X : Stand p l e R s m args below meth c T locs cells slots) (hexec : p.tables.exec = Jvm.exec) {own C : String} {index : Nat} {y : MethodName} {bytes : ByteArray} {maxL : Nat} {ret : Option FieldType} {hh : List (Nat × Nat × Nat × Nat)}
    (hown : s.vm.findClass own = some m.cls) (hlink : (Cond.methodLink own index y).before args s = true) (hinst : (Cond.instanceMethod y).before args s = true) (hsel : (Cond.selects C y y).before args s = true)
    (hcode : (Cond.codeWith y bytes maxL ret hh).before args s = true) (hy : y.cls ≠ "java/lang/invoke/MethodHandle" ∧ y.cls ≠ "java/lang/invoke/VarHandle")
    {W9 : Nat} {Pre : Pt → Array Value → Prop} {Post : Pt → Array Value → Option Value → Pt → Prop} {PostX : Pt → Array Value → Addr → Pt → Prop} (hK : vx_Back l R p e below s args y 3 W9 Pre Post PostX)
    {b : Addr} {cellB : Cell} (hcell : T.heap[b]? = some cellB) (hobj : cellB.vm.isStatics = false) (hcls : s.vm.findClass C = some cellB.cls)
    {g : JFrame} (hg : g.method = m) (hsize : g.locals.size = c.maxLocals) {argsL rest : List Value} (hlen : ∀ sig, parseMethodDescriptor y.desc = some sig → argsL.length = sig.parameters.length)
    (hstack : g.stack = argsL.reverse ++ .ref b :: rest) (hW : 2 * g.monitorRoom + (rest.map fun v => v.category).sum ≤ W9) (hdg : decode c.code g.pc = .ok (.invokevirtual index, 3))
    (hpre : ∀ vm₁, s.WarmedH vm₁ → Pre ⟨T.setVm vm₁, locs, cells, slots⟩ (Value.ref b :: argsL).toArray) :
    (∃ (v : Option Value) (vm₁ : Vm) (B : Pt), s.WarmedH vm₁ ∧ Stand p l e R s m args below meth c B.U B.locs B.cells B.slots ∧ Post ⟨T.setVm vm₁, locs, cells, slots⟩ (Value.ref b :: argsL).toArray v B ∧
      ∀ target, Steps p.tables e below (B.U.setTop { g with pc := g.pc + 3, stack := v.toList ++ rest }) target → Steps p.tables e below (T.setTop g) target) ∨
    (∃ (q : Addr) (vm₁ : Vm) (B : Pt), s.WarmedH vm₁ ∧ Stand p l e R s m args below meth c B.U B.locs B.cells B.slots ∧ PostX ⟨T.setVm vm₁, locs, cells, slots⟩ (Value.ref b :: argsL).toArray q B ∧
      Steps p.tables e below (T.setTop g) ((B.U.setTop { g with stack := rest }).pushFrame (.throwing q))) := by
  obtain ⟨mk, methM, hnamed, hmethM, hstM, habM⟩ := Cond.instanceMethod_spec hinst
  obtain ⟨m8, methM', cM, hn8, hmethM', -, -, -, -, -, -, hsigM⟩ := Cond.codeWith_spec hcode
  cases Option.some.inj (hn8.symm.trans hnamed)
  cases hmethM.symm.trans hmethM'
  obtain ⟨c2, r2, m2, q1, q2, q3, q4, kP, hkP, hkPi⟩ := Cond.selects_spec hsel
  cases hcls.symm.trans q1
  cases (State.methodFound?_of_named hnamed hy).symm.trans q2
  cases hnamed.symm.trans q3
  have hselP : selectMethod e.platform s.vm cellB.cls mk = .method mk := by rw [Launch.admits_selectMethod X.admits]; exact q4
  obtain ⟨vm₁, X₁, hstep₁⟩ := X.invokevirtual hexec hown hlink hnamed hmethM hstM hkP hkPi hy (a := b) (cell := cellB) hcell
    (fun z h => by rw [h] at hobj; cases hobj) hselP hmethM habM hkP hkPi (g := g) hg (argsL := argsL) (rest := rest) (hlen _ hsigM) hstack hdg
  rcases hK m meth c ⟨T.setVm vm₁, locs, cells, slots⟩ { g with stack := rest } (.invokevirtual index) mk (Value.ref b :: argsL).toArray X₁ hg hsize hdg hW (X₁.named hnamed) (hpre vm₁ X₁.warmed) with ⟨v, B, X', hpost, hsteps⟩ | ⟨q, B, X', hpost, hsteps⟩
  · exact Or.inl ⟨v, vm₁, B, X₁.warmed, X', hpost, fun target h => hstep₁ _ fun acts => by rw [doInvoke_state]; exact hsteps.trans h⟩
  · exact Or.inr ⟨q, vm₁, B, X₁.warmed, X', hpost, hstep₁ _ fun acts => by rw [doInvoke_state]; exact hsteps⟩
theorem vx_callSX (X : Stand p l e R s m args below meth c T locs cells slots) (hexec : p.tables.exec = Jvm.exec) {own : String} {index : Nat} {y : MethodName} {bytes : ByteArray} {maxL : Nat} {ret : Option FieldType} {hh : List (Nat × Nat × Nat × Nat)}
    (hown : s.vm.findClass own = some m.cls) (hlink : (Cond.methodLink own index y).before args s = true) (hstat : (Cond.static y).before args s = true) (hinit : (Cond.initialized y.cls).before args s = true)
    (hcode : (Cond.codeWith y bytes maxL ret hh).before args s = true) (hy : y.cls ≠ "java/lang/invoke/MethodHandle" ∧ y.cls ≠ "java/lang/invoke/VarHandle")
    {W9 : Nat} {Pre : Pt → Array Value → Prop} {Post : Pt → Array Value → Option Value → Pt → Prop} {PostX : Pt → Array Value → Addr → Pt → Prop} (hK : vx_Back l R p e below s args y 3 W9 Pre Post PostX)
    {g : JFrame} (hg : g.method = m) (hsize : g.locals.size = c.maxLocals) {argsL rest : List Value} (hlen : ∀ sig, parseMethodDescriptor y.desc = some sig → argsL.length = sig.parameters.length)
    (hstack : g.stack = argsL.reverse ++ rest) (hW : 2 * g.monitorRoom + (rest.map fun v => v.category).sum ≤ W9) (hdg : decode c.code g.pc = .ok (.invokestatic index, 3))
    (hpre : ∀ vm₁, s.WarmedH vm₁ → Pre ⟨T.setVm vm₁, locs, cells, slots⟩ argsL.toArray) :
    (∃ (v : Option Value) (vm₁ : Vm) (B : Pt), s.WarmedH vm₁ ∧ Stand p l e R s m args below meth c B.U B.locs B.cells B.slots ∧ Post ⟨T.setVm vm₁, locs, cells, slots⟩ argsL.toArray v B ∧
      ∀ target, Steps p.tables e below (B.U.setTop { g with pc := g.pc + 3, stack := v.toList ++ rest }) target → Steps p.tables e below (T.setTop g) target) ∨
    (∃ (q : Addr) (vm₁ : Vm) (B : Pt), s.WarmedH vm₁ ∧ Stand p l e R s m args below meth c B.U B.locs B.cells B.slots ∧ PostX ⟨T.setVm vm₁, locs, cells, slots⟩ argsL.toArray q B ∧
      Steps p.tables e below (T.setTop g) ((B.U.setTop { g with stack := rest }).pushFrame (.throwing q))) := by
  obtain ⟨mk, methM, cM, hnamed, hmethM, -, -, -, -, -, -, hsigM⟩ := Cond.codeWith_spec hcode
  have hstatic : methM.isStatic = true := Cond.static_spec hnamed hmethM hstat
  obtain ⟨kP, hkP, -⟩ := className_of_methodNamed hnamed
  have hinitP : kP.init = .initialized := Cond.initialized_spec (findClass_of_methodNamed hnamed) hkP hinit
  obtain ⟨vm₁, X₁, hstep₁⟩ := X.invokestatic hexec hown hlink hnamed hmethM hstatic hkP hinitP hy (g := g) hg (argsL := argsL) (rest := rest) (hlen _ hsigM) hstack hdg
  rcases hK m meth c ⟨T.setVm vm₁, locs, cells, slots⟩ { g with stack := rest } (.invokestatic index) mk argsL.toArray X₁ hg hsize hdg hW (X₁.named hnamed) (hpre vm₁ X₁.warmed) with ⟨v, B, X', hpost, hsteps⟩ | ⟨q, B, X', hpost, hsteps⟩
  · exact Or.inl ⟨v, vm₁, B, X₁.warmed, X', hpost, fun target h => hstep₁ _ fun acts => by rw [doInvoke_state]; exact hsteps.trans h⟩
  · exact Or.inr ⟨q, vm₁, B, X₁.warmed, X', hpost, hstep₁ _ fun acts => by rw [doInvoke_state]; exact hsteps⟩
theorem vx_callVW (X : Stand p l e R s m args below meth c T locs cells slots) (hexec : p.tables.exec = Jvm.exec) {own C : String} {index : Nat} {y : MethodName} {bytes : ByteArray} {maxL : Nat} {ret : Option FieldType} {hh : List (Nat × Nat × Nat × Nat)}
    (hown : s.vm.findClass own = some m.cls) (hlink : (Cond.methodLink own index y).before args s = true) (hinst : (Cond.instanceMethod y).before args s = true) (hsel : (Cond.selects C y y).before args s = true)
    (hcode : (Cond.codeWith y bytes maxL ret hh).before args s = true) (hy : y.cls ≠ "java/lang/invoke/MethodHandle" ∧ y.cls ≠ "java/lang/invoke/VarHandle")
    {W9 : Nat} {Pre : Pt → Array Value → Prop} {Post : Pt → Array Value → Option Value → Pt → Prop} (hK : Back l R p e below s args y 3 W9 Pre Post)
    {b : Addr} {cellB : Cell} (hcell : T.heap[b]? = some cellB) (hobj : cellB.vm.isStatics = false) (hcls : s.vm.findClass C = some cellB.cls)
    {g : JFrame} (hg : g.method = m) (hsize : g.locals.size = c.maxLocals) {argsL rest : List Value} (hlen : ∀ sig, parseMethodDescriptor y.desc = some sig → argsL.length = sig.parameters.length)
    (hstack : g.stack = argsL.reverse ++ .ref b :: rest) (hW : 2 * g.monitorRoom + (rest.map fun v => v.category).sum ≤ W9) (hdg : decode c.code g.pc = .ok (.invokevirtual index, 3))
    (hpre : ∀ vm₁, s.WarmedH vm₁ → Pre ⟨T.setVm vm₁, locs, cells, slots⟩ (Value.ref b :: argsL).toArray) :
    ∃ (v : Option Value) (vm₁ : Vm) (B : Pt), s.WarmedH vm₁ ∧ Stand p l e R s m args below meth c B.U B.locs B.cells B.slots ∧ Post ⟨T.setVm vm₁, locs, cells, slots⟩ (Value.ref b :: argsL).toArray v B ∧
      ∀ target, Steps p.tables e below (B.U.setTop { g with pc := g.pc + 3, stack := v.toList ++ rest }) target → Steps p.tables e below (T.setTop g) target := by
  obtain ⟨mk, methM, hnamed, hmethM, hstM, habM⟩ := Cond.instanceMethod_spec hinst
  obtain ⟨m8, methM', cM, hn8, hmethM', -, -, -, -, -, -, hsigM⟩ := Cond.codeWith_spec hcode
  cases Option.some.inj (hn8.symm.trans hnamed)
  cases hmethM.symm.trans hmethM'
  obtain ⟨c2, r2, m2, q1, q2, q3, q4, kP, hkP, hkPi⟩ := Cond.selects_spec hsel
  cases hcls.symm.trans q1
  cases (State.methodFound?_of_named hnamed hy).symm.trans q2
  cases hnamed.symm.trans q3
  have hselP : selectMethod e.platform s.vm cellB.cls mk = .method mk := by rw [Launch.admits_selectMethod X.admits]; exact q4
  obtain ⟨vm₁, X₁, hstep₁⟩ := X.invokevirtual hexec hown hlink hnamed hmethM hstM hkP hkPi hy (a := b) (cell := cellB) hcell
    (fun z h => by rw [h] at hobj; cases hobj) hselP hmethM habM hkP hkPi (g := g) hg (argsL := argsL) (rest := rest) (hlen _ hsigM) hstack hdg
  obtain ⟨v, B, X', hpost, hsteps⟩ := hK m meth c ⟨T.setVm vm₁, locs, cells, slots⟩ { g with stack := rest } (.invokevirtual index) mk (Value.ref b :: argsL).toArray X₁ hg hsize hdg hW (X₁.named hnamed) (hpre vm₁ X₁.warmed)
  exact ⟨v, vm₁, B, X₁.warmed, X', hpost, fun target h => hstep₁ _ fun acts => by rw [doInvoke_state]; exact hsteps.trans h⟩
abbrev vx_CVW (R : Room) (s : State) (args : Array Value) (own C : String) (index : Nat) (y : MethodName) (bytes : ByteArray) (maxL : Nat) (ret : Option FieldType) (hh : List (Nat × Nat × Nat × Nat)) (ws : List Cond) (rm : Room) (mc ms n : Nat) : Prop :=
  (rm.cells = mc ∧ rm.slots = ms ∧ rm.frames + 1 ≤ R.frames ∧ 8 + (maxL + 11) + rm.locals ≤ R.locals ∧ (∀ w ∈ ws, ∀ (a' : Array Value) (U : State), s.WarmedH U.vm → w.before a' U = true) ∧ Cond.codeWith y bytes maxL ret hh ∈ ws) ∧
  (Cond.codeWith y bytes maxL ret hh).before args s = true ∧ (Cond.initialized y.cls).before args s = true ∧ (y.cls ≠ "java/lang/invoke/MethodHandle" ∧ y.cls ≠ "java/lang/invoke/VarHandle") ∧
  (∀ sig, parseMethodDescriptor y.desc = some sig → n = sig.parameters.length) ∧ (Cond.methodLink own index y).before args s = true ∧ (Cond.instanceMethod y).before args s = true ∧ (Cond.selects C y y).before args s = true
theorem vx_cwVW {own C : String} {index maxL mc ms : Nat} {y : MethodName} {bytes : ByteArray} {ret : Option FieldType} {hh : List (Nat × Nat × Nat × Nat)} {Ts ws ws' : List Cond} {rm : Room} (n : Nat) (ht : ∀ w ∈ Ts, w.before args s = true) (hT : GoodIn Ts (wsV own index C y ws)) (hw : ws = Cond.codeWith y bytes maxL ret hh :: ws') (hrc : rm.cells = mc) (hrs : rm.slots = ms)
    (hd : y.cls = C ∧ y.cls ≠ "java/lang/invoke/MethodHandle" ∧ y.cls ≠ "java/lang/invoke/VarHandle" ∧ (parseMethodDescriptor y.desc).map (fun d => d.parameters.length) = some n) (hR : rm.frames + 1 ≤ R.frames ∧ 8 + (maxL + 11) + rm.locals ≤ R.locals) :
    vx_CVW R s args own C index y bytes maxL ret hh ws rm mc ms n := by
  obtain ⟨hC, hd⟩ := hd
  subst hC
  have ok : ∀ w ∈ wsV own index y.cls y ws, w.before args s = true := fun w h => ht w (hT w h).1
  have hG : GoodIn Ts ws := fun w h => hT w (by unfold wsV; exact List.mem_append_right _ h)
  have hc : Cond.codeWith y bytes maxL ret hh ∈ ws := by rw [hw]; exact List.mem_cons_self
  refine ⟨⟨hrc, hrs, hR.1, hR.2, pay_in ht hG, hc⟩, ht _ (hG _ hc).1, ok _ (by simp [wsV]), ⟨hd.1, hd.2.1⟩, fun sig h => ?_, ok _ (by simp [wsV]), ok _ (by simp [wsV]), ok _ (by simp [wsV])⟩
  have h2 := hd.2.2
  rw [h] at h2
  exact (Option.some.inj h2).symm
theorem vx_runVW {y : MethodName} {bytes cc : ByteArray} {maxL nL mc ms n index : Nat} {ret : Option FieldType} {hh : List (Nat × Nat × Nat × Nat)} {ws : List Cond} {rm : Room} {Pc : Array Value → State → Prop} {Qc : Array Value → State → Outcome → State → Prop} {free : Addr → Prop} {Ts : List Cond} {own C : String} {b : Addr} {As rest : List Value} {g : JFrame}
    (S : CallFix p m c cc nL s args Ts own) (hM : Met l y ws rm Pc Qc mc ms free) (cw : vx_CVW R s args own C index y bytes maxL ret hh ws rm mc ms n) (hp : PreV s H C b Pc As)
    (hg : g.method = m) (hn : As.length = n) (hsize : g.locals.size = nL) (hstack : g.stack = As.reverse ++ .ref b :: rest) (hW : 2 * g.monitorRoom + (rest.map fun v => v.category).sum ≤ 8) (hdg : decode cc g.pc = .ok (.invokevirtual index, 3)) (hf : cells + mc ≤ R.cells ∧ slots + ms ≤ R.slots) :
    va_Run p l e R s m args below meth c H locs cells slots mc ms g rest (Qc (Value.ref b :: As).toArray) free := by
  obtain ⟨⟨hrc, hrs, hfr, hlo, hws, hcw⟩, hcode, hini, hy, hlen, hl, hin, hse⟩ := cw
  have hK : Back l R p e below s args y 3 8 (PreOf R mc ms Pc) (PostOf Qc mc ms free) := va_backW (hh := hh) (bytes := bytes) (maxL := maxL) (ret := ret) hM hp.1 hrc hrs hfr hlo hws hcw (fun a' U hW => word_at hW (Or.inl (by first | rfl | simp [Cond.onTables, Cond.keeps, Cond.steady])) hini)
  obtain ⟨hx, hb, hml, ho, -⟩ := S
  obtain ⟨-, ⟨cellB, hcB, hoB, hclB⟩, hPc⟩ := hp
  intro T hT X
  obtain ⟨v, vm₁, ⟨U', l2, c2, s2⟩, hW₁, X', ⟨g', mk, t, L, e1, e2, hq, h1, hL, h2, h3⟩, st⟩ := vx_callVW X hx (C := C) (hh := hh) (bytes := bytes) (maxL := maxL) (ret := ret) ho hl hin hse hcode hy hK (by rw [hT]; exact hcB) hoB hclB hg (hsize.trans hml.symm) (argsL := As) (rest := rest) (fun sig h => hn.trans (hlen sig h)) hstack hW (by rw [hb]; exact hdg)
    (fun vm₁ hW₁ => ⟨hf.1, hf.2, hPc (T.setVm vm₁) hT hW₁⟩)
  dsimp only [Pt.U, Pt.locs, Pt.cells, Pt.slots] at X' e1 e2 h1 h2 h3 st
  subst h1; subst h2; subst h3
  exact ⟨v, (T.setVm vm₁).calling g' mk (Value.ref b :: As).toArray, t, U', L, hT, X', hL, e1, e2, hq, st⟩
section
variable {y : MethodName} {bytes cc : ByteArray} {maxL nL mc ms n index : Nat} {ret : Option FieldType} {ws : List Cond} {rm : Room} {Pc : Array Value → State → Prop} {Qc : Array Value → State → Outcome → State → Prop} {XC : String → State → State → Prop} {free : Addr → Prop} {Ts : List Cond} {own C : String} {b : Addr} {As rest : List Value} {g : JFrame}
theorem vx_runVX {hh : List (Nat × Nat × Nat × Nat)} (S : CallFix p m c cc nL s args Ts own) (hM : vx_Met l y ws rm Pc Qc XC mc ms free) (cw : vx_CVW R s args own C index y bytes maxL ret hh ws rm mc ms n) (hp : PreV s H C b Pc As)
    (hg : g.method = m) (hn : As.length = n) (hsize : g.locals.size = nL) (hstack : g.stack = As.reverse ++ .ref b :: rest) (hW : 2 * g.monitorRoom + (rest.map fun v => v.category).sum ≤ 8) (hdg : decode cc g.pc = .ok (.invokevirtual index, 3)) (hf : cells + mc ≤ R.cells ∧ slots + ms ≤ R.slots) :
    vx_Run p l e R s m args below meth c H locs cells slots mc ms g rest (Qc (Value.ref b :: As).toArray) XC free := by
  obtain ⟨⟨hrc, hrs, hfr, hlo, hws, hcw⟩, hcode, hini, hy, hlen, hl, hin, hse⟩ := cw
  have hK : vx_Back l R p e below s args y 3 8 (PreOf R mc ms Pc) (PostOf Qc mc ms free) (vx_Post XC mc ms free) := vx_backW (hh := hh) (bytes := bytes) (maxL := maxL) (ret := ret) hM hp.1 hrc hrs hfr hlo hws hcw (fun a' U hW => word_at hW (Or.inl (by first | rfl | simp [Cond.onTables, Cond.keeps, Cond.steady])) hini)
  obtain ⟨hx, hb, hml, ho, -⟩ := S
  obtain ⟨-, ⟨cellB, hcB, hoB, hclB⟩, hPc⟩ := hp
  intro T hT X
  rcases vx_callVX X hx (C := C) (hh := hh) (bytes := bytes) (maxL := maxL) (ret := ret) ho hl hin hse hcode hy hK (by rw [hT]; exact hcB) hoB hclB hg (hsize.trans hml.symm) (argsL := As) (rest := rest) (fun sig h => hn.trans (hlen sig h)) hstack hW (by rw [hb]; exact hdg)
    (fun vm₁ hW₁ => ⟨hf.1, hf.2, hPc (T.setVm vm₁) hT hW₁⟩) with ⟨v, vm₁, ⟨U', l2, c2, s2⟩, hW₁, X', ⟨g', mk, t, L, e1, e2, hq, h1, hL, h2, h3⟩, st⟩ | ⟨q, vm₁, ⟨U', l2, c2, s2⟩, hW₁, X', ⟨g', mk, t, L, E, ce, e1, e2, hq, hce, hcv, hcl, h1, hL, h2, h3⟩, st⟩
  · dsimp only [Pt.U, Pt.locs, Pt.cells, Pt.slots] at X' e1 e2 h1 h2 h3 st
    subst h1; subst h2; subst h3
    exact Or.inl ⟨v, (T.setVm vm₁).calling g' mk (Value.ref b :: As).toArray, t, U', L, hT, X', hL, e1, e2, hq, st⟩
  · dsimp only [Pt.U, Pt.locs, Pt.cells, Pt.slots] at X' e1 e2 h1 h2 h3 st hcl
    subst h1; subst h2; subst h3
    exact Or.inr ⟨q, (T.setVm vm₁).calling g' mk (Value.ref b :: As).toArray, t, U', L, E, ce, hT, X', hL, e1, e2, hq, hce, hcv, vx_cls hW₁ hcl, st⟩
theorem vx_runSX {hh : List (Nat × Nat × Nat × Nat)} (S : CallFix p m c cc nL s args Ts own) (hM : vx_Met l y ws rm Pc Qc XC mc ms free) (cw : vx_CSW R s args own index y bytes maxL ret hh ws rm mc ms n) (hp : PreS s H Pc As)
    (hg : g.method = m) (hn : As.length = n) (hsize : g.locals.size = nL) (hstack : g.stack = As.reverse ++ rest) (hW : 2 * g.monitorRoom + (rest.map fun v => v.category).sum ≤ 8) (hdg : decode cc g.pc = .ok (.invokestatic index, 3)) (hf : cells + mc ≤ R.cells ∧ slots + ms ≤ R.slots) :
    vx_Run p l e R s m args below meth c H locs cells slots mc ms g rest (Qc As.toArray) XC free := by
  obtain ⟨⟨hrc, hrs, hfr, hlo, hws, hcw⟩, hcode, hini, hy, hlen, hl, hstt⟩ := cw
  have hK : vx_Back l R p e below s args y 3 8 (PreOf R mc ms Pc) (PostOf Qc mc ms free) (vx_Post XC mc ms free) := vx_backW (hh := hh) (bytes := bytes) (maxL := maxL) (ret := ret) hM hp.1 hrc hrs hfr hlo hws hcw (fun a' U hW => word_at hW (Or.inl (by first | rfl | simp [Cond.onTables, Cond.keeps, Cond.steady])) hini)
  obtain ⟨hx, hb, hml, ho, -⟩ := S
  intro T hT X
  rcases vx_callSX X hx (hh := hh) (bytes := bytes) (maxL := maxL) (ret := ret) ho hl hstt hini hcode hy hK hg (hsize.trans hml.symm) (argsL := As) (rest := rest) (fun sig h => hn.trans (hlen sig h)) hstack hW (by rw [hb]; exact hdg)
    (fun vm₁ hW₁ => ⟨hf.1, hf.2, hp.2 (T.setVm vm₁) hT hW₁⟩) with ⟨v, vm₁, ⟨U', l2, c2, s2⟩, hW₁, X', ⟨g', mk, t, L, e1, e2, hq, h1, hL, h2, h3⟩, st⟩ | ⟨q, vm₁, ⟨U', l2, c2, s2⟩, hW₁, X', ⟨g', mk, t, L, E, ce, e1, e2, hq, hce, hcv, hcl, h1, hL, h2, h3⟩, st⟩
  · dsimp only [Pt.U, Pt.locs, Pt.cells, Pt.slots] at X' e1 e2 h1 h2 h3 st
    subst h1; subst h2; subst h3
    exact Or.inl ⟨v, (T.setVm vm₁).calling g' mk As.toArray, t, U', L, hT, X', hL, e1, e2, hq, st⟩
  · dsimp only [Pt.U, Pt.locs, Pt.cells, Pt.slots] at X' e1 e2 h1 h2 h3 st hcl
    subst h1; subst h2; subst h3
    exact Or.inr ⟨q, (T.setVm vm₁).calling g' mk As.toArray, t, U', L, E, ce, hT, X', hL, e1, e2, hq, hce, hcv, vx_cls hW₁ hcl, st⟩
end
end VXH
theorem vx_ofWH {l : Launch} {y : MethodName} {ws ws' : List Cond} {rm : Room} {Pc : Array Value → State → Prop} {Qc : Array Value → State → Outcome → State → Prop} {XC : String → State → State → Prop} {mc ms : Nat} {free : Addr → Prop} {cc : ByteArray} {maxL : Nat} {ret : Option FieldType} {hh : List (Nat × Nat × Nat × Nat)}
    (hy : plainName y.cls = true) (hw : ws = Cond.codeWith y cc maxL ret hh :: ws')
    (body : ∀ p e s m args below meth c s₁, BodyLoose p l y (headSpec ws rm) cc maxL ret e s m args below meth c s₁ → c.maxLocals = maxL → Pc args s →
      W p l e (headSpec ws rm).room s m args below meth c s.heap [] 0 0 (vx_MQ below Qc XC args s mc ms free) (entryFrame m args maxL)) : vx_Met l y ws rm Pc Qc XC mc ms free := by
  refine MetFree.of_bodyS (code := cc) (maxLocals := maxL) (ret := ret) hy ?_ ?_
  · intro args s m h hn
    obtain ⟨m9, meth, c, hn9, h1, h2, h3, h4, -, h5, h6, -⟩ := Cond.codeWith_spec (atoms_spec (ws := ws) h _ (by rw [hw]; exact List.mem_cons_self))
    cases hn.symm.trans hn9
    exact ⟨meth, c, h1, h2, h3, h4, h5, h6⟩
  · intro p e s m args below meth c s₁ B hml hP _
    have hh0 : s₁.heap = s.heap := by rw [B.state]; rfl
    obtain ⟨t, a1, o, b1, b2, b3⟩ := body p e s m args below meth c s₁ B hml hP s₁ hh0 (Stand.of_body B)
    exact ⟨t, o, a1, b1, b2, b3⟩
/-! ===== END ===== -/
end
section
-- ===== PART A: goes FIRST, ahead of the names: the tables' words, and 'selects' of the private methods out of them =====
/-- a private method of a class that the tables say can be made, by its rows of tables_1 -/
def lw_okq (q : MethodName × Nat) : Prop := (q.1.cls ≠ "java/lang/invoke/MethodHandle" ∧ q.1.cls ≠ "java/lang/invoke/VarHandle") ∧ Cond.instantiable q.1.cls q.2 ∈ tables_1 ∧ Cond.privateMethod q.1 ∈ tables_1 ∧ Cond.instanceMethod q.1 ∈ tables_1
theorem lw_p0 : lw_okq (⟨"PusherRoom$RoomText", "clear", "()V"⟩, 10) := ⟨⟨by decide +kernel, by decide +kernel⟩, List.mem_of_getElem? (i := 54) (by decide +kernel), List.mem_of_getElem? (i := 60) (by decide +kernel), List.mem_of_getElem? (i := 61) (by decide +kernel)⟩
theorem lw_p1 : lw_okq (⟨"java/lang/Throwable", "fillInStackTrace", "(I)Ljava/lang/Throwable;"⟩, 6) := ⟨⟨by decide +kernel, by decide +kernel⟩, List.mem_of_getElem? (i := 415) (by decide +kernel), List.mem_of_getElem? (i := 413) (by decide +kernel), List.mem_of_getElem? (i := 414) (by decide +kernel)⟩
theorem lw_p2 : lw_okq (⟨"PusherRoom$RoomText", "endRow", "()Z"⟩, 10) := ⟨⟨by decide +kernel, by decide +kernel⟩, List.mem_of_getElem? (i := 54) (by decide +kernel), List.mem_of_getElem? (i := 485) (by decide +kernel), List.mem_of_getElem? (i := 486) (by decide +kernel)⟩
theorem lw_p3 : lw_okq (⟨"PusherRoom$RoomText", "addCell", "(C)Z"⟩, 10) := ⟨⟨by decide +kernel, by decide +kernel⟩, List.mem_of_getElem? (i := 54) (by decide +kernel), List.mem_of_getElem? (i := 489) (by decide +kernel), List.mem_of_getElem? (i := 490) (by decide +kernel)⟩
theorem lw_p4 : lw_okq (⟨"PusherRoom$Grid", "pulled", "(J)J"⟩, 7) := ⟨⟨by decide +kernel, by decide +kernel⟩, List.mem_of_getElem? (i := 107) (by decide +kernel), List.mem_of_getElem? (i := 615) (by decide +kernel), List.mem_of_getElem? (i := 616) (by decide +kernel)⟩
theorem lw_p5 : lw_okq (⟨"PusherRoom", "requireRoom", "()V"⟩, 12) := ⟨⟨by decide +kernel, by decide +kernel⟩, List.mem_of_getElem? (i := 31) (by decide +kernel), List.mem_of_getElem? (i := 653) (by decide +kernel), List.mem_of_getElem? (i := 654) (by decide +kernel)⟩
theorem lw_p6 : lw_okq (⟨"PusherRoom$Matching", "measure", "(J)I"⟩, 3) := ⟨⟨by decide +kernel, by decide +kernel⟩, List.mem_of_getElem? (i := 250) (by decide +kernel), List.mem_of_getElem? (i := 818) (by decide +kernel), List.mem_of_getElem? (i := 819) (by decide +kernel)⟩
theorem lw_p7 : lw_okq (⟨"PusherRoom$Matching", "measureFrom", "(II)V"⟩, 3) := ⟨⟨by decide +kernel, by decide +kernel⟩, List.mem_of_getElem? (i := 250) (by decide +kernel), List.mem_of_getElem? (i := 823) (by decide +kernel), List.mem_of_getElem? (i := 824) (by decide +kernel)⟩
theorem lw_p8 : lw_okq (⟨"PusherRoom$Matching", "offer", "(II)V"⟩, 3) := ⟨⟨by decide +kernel, by decide +kernel⟩, List.mem_of_getElem? (i := 250) (by decide +kernel), List.mem_of_getElem? (i := 833) (by decide +kernel), List.mem_of_getElem? (i := 834) (by decide +kernel)⟩
theorem lw_p9 : lw_okq (⟨"PusherRoom$Matching", "offerTo", "(III)V"⟩, 3) := ⟨⟨by decide +kernel, by decide +kernel⟩, List.mem_of_getElem? (i := 250) (by decide +kernel), List.mem_of_getElem? (i := 838) (by decide +kernel), List.mem_of_getElem? (i := 839) (by decide +kernel)⟩
theorem lw_p10 : lw_okq (⟨"PusherRoom$Position", "ahead", "(I)J"⟩, 3) := ⟨⟨by decide +kernel, by decide +kernel⟩, List.mem_of_getElem? (i := 148) (by decide +kernel), List.mem_of_getElem? (i := 912) (by decide +kernel), List.mem_of_getElem? (i := 913) (by decide +kernel)⟩
theorem lw_p11 : lw_okq (⟨"PusherRoom$Position", "boxReason", "(JI)I"⟩, 3) := ⟨⟨by decide +kernel, by decide +kernel⟩, List.mem_of_getElem? (i := 148) (by decide +kernel), List.mem_of_getElem? (i := 917) (by decide +kernel), List.mem_of_getElem? (i := 918) (by decide +kernel)⟩
theorem lw_p12 : lw_okq (⟨"PusherRoom", "keepRefusal", "(II)V"⟩, 12) := ⟨⟨by decide +kernel, by decide +kernel⟩, List.mem_of_getElem? (i := 31) (by decide +kernel), List.mem_of_getElem? (i := 926) (by decide +kernel), List.mem_of_getElem? (i := 927) (by decide +kernel)⟩
theorem lw_p13 : lw_okq (⟨"PusherRoom$History", "forgetOldest", "()V"⟩, 4) := ⟨⟨by decide +kernel, by decide +kernel⟩, List.mem_of_getElem? (i := 215) (by decide +kernel), List.mem_of_getElem? (i := 968) (by decide +kernel), List.mem_of_getElem? (i := 969) (by decide +kernel)⟩
theorem lw_p14 : lw_okq (⟨"PusherRoom", "requirePush", "(II)V"⟩, 12) := ⟨⟨by decide +kernel, by decide +kernel⟩, List.mem_of_getElem? (i := 31) (by decide +kernel), List.mem_of_getElem? (i := 981) (by decide +kernel), List.mem_of_getElem? (i := 982) (by decide +kernel)⟩
theorem lw_p15 : lw_okq (⟨"PusherRoom", "requireBox", "(II)V"⟩, 12) := ⟨⟨by decide +kernel, by decide +kernel⟩, List.mem_of_getElem? (i := 31) (by decide +kernel), List.mem_of_getElem? (i := 985) (by decide +kernel), List.mem_of_getElem? (i := 986) (by decide +kernel)⟩
def lw_privs_1 : List (MethodName × Nat) := [(⟨"PusherRoom$RoomText", "clear", "()V"⟩, 10), (⟨"java/lang/Throwable", "fillInStackTrace", "(I)Ljava/lang/Throwable;"⟩, 6), (⟨"PusherRoom$RoomText", "endRow", "()Z"⟩, 10), (⟨"PusherRoom$RoomText", "addCell", "(C)Z"⟩, 10), (⟨"PusherRoom$Grid", "pulled", "(J)J"⟩, 7), (⟨"PusherRoom", "requireRoom", "()V"⟩, 12), (⟨"PusherRoom$Matching", "measure", "(J)I"⟩, 3), (⟨"PusherRoom$Matching", "measureFrom", "(II)V"⟩, 3), (⟨"PusherRoom$Matching", "offer", "(II)V"⟩, 3), (⟨"PusherRoom$Matching", "offerTo", "(III)V"⟩, 3), (⟨"PusherRoom$Position", "ahead", "(I)J"⟩, 3), (⟨"PusherRoom$Position", "boxReason", "(JI)I"⟩, 3), (⟨"PusherRoom", "keepRefusal", "(II)V"⟩, 12), (⟨"PusherRoom$History", "forgetOldest", "()V"⟩, 4), (⟨"PusherRoom", "requirePush", "(II)V"⟩, 12), (⟨"PusherRoom", "requireBox", "(II)V"⟩, 12)]
theorem lw_r1 : ∀ q ∈ lw_privs_1, lw_okq q := List.forall_mem_cons.mpr ⟨lw_p0, List.forall_mem_cons.mpr ⟨lw_p1, List.forall_mem_cons.mpr ⟨lw_p2, List.forall_mem_cons.mpr ⟨lw_p3, List.forall_mem_cons.mpr ⟨lw_p4, List.forall_mem_cons.mpr ⟨lw_p5, List.forall_mem_cons.mpr ⟨lw_p6, List.forall_mem_cons.mpr ⟨lw_p7, List.forall_mem_cons.mpr ⟨lw_p8, List.forall_mem_cons.mpr ⟨lw_p9, List.forall_mem_cons.mpr ⟨lw_p10, List.forall_mem_cons.mpr ⟨lw_p11, List.forall_mem_cons.mpr ⟨lw_p12, List.forall_mem_cons.mpr ⟨lw_p13, List.forall_mem_cons.mpr ⟨lw_p14, List.forall_mem_cons.mpr ⟨lw_p15, fun _ h => absurd h List.not_mem_nil⟩⟩⟩⟩⟩⟩⟩⟩⟩⟩⟩⟩⟩⟩⟩⟩
theorem lw_p16 : lw_okq (⟨"PusherRoom$Game", "walkTo", "(J)V"⟩, 7) := ⟨⟨by decide +kernel, by decide +kernel⟩, List.mem_of_getElem? (i := 101) (by decide +kernel), List.mem_of_getElem? (i := 1010) (by decide +kernel), List.mem_of_getElem? (i := 1011) (by decide +kernel)⟩
theorem lw_p17 : lw_okq (⟨"PusherRoom$Game", "directionInto", "(J)I"⟩, 7) := ⟨⟨by decide +kernel, by decide +kernel⟩, List.mem_of_getElem? (i := 101) (by decide +kernel), List.mem_of_getElem? (i := 1023) (by decide +kernel), List.mem_of_getElem? (i := 1024) (by decide +kernel)⟩
theorem lw_p18 : lw_okq (⟨"PusherRoom", "commitOrThrow", "()V"⟩, 12) := ⟨⟨by decide +kernel, by decide +kernel⟩, List.mem_of_getElem? (i := 31) (by decide +kernel), List.mem_of_getElem? (i := 1030) (by decide +kernel), List.mem_of_getElem? (i := 1031) (by decide +kernel)⟩
theorem lw_p19 : lw_okq (⟨"PusherRoom", "playElements", "(I)Z"⟩, 12) := ⟨⟨by decide +kernel, by decide +kernel⟩, List.mem_of_getElem? (i := 31) (by decide +kernel), List.mem_of_getElem? (i := 1076) (by decide +kernel), List.mem_of_getElem? (i := 1077) (by decide +kernel)⟩
theorem lw_p20 : lw_okq (⟨"PusherRoom", "playElement", "(II)Z"⟩, 12) := ⟨⟨by decide +kernel, by decide +kernel⟩, List.mem_of_getElem? (i := 31) (by decide +kernel), List.mem_of_getElem? (i := 1084) (by decide +kernel), List.mem_of_getElem? (i := 1085) (by decide +kernel)⟩
theorem lw_p21 : lw_okq (⟨"PusherRoom", "searchAndKeep", "(IZ)V"⟩, 12) := ⟨⟨by decide +kernel, by decide +kernel⟩, List.mem_of_getElem? (i := 31) (by decide +kernel), List.mem_of_getElem? (i := 1128) (by decide +kernel), List.mem_of_getElem? (i := 1129) (by decide +kernel)⟩
theorem lw_p22 : lw_okq (⟨"PusherRoom$Search", "add", "(JIII)V"⟩, 11) := ⟨⟨by decide +kernel, by decide +kernel⟩, List.mem_of_getElem? (i := 266) (by decide +kernel), List.mem_of_getElem? (i := 1140) (by decide +kernel), List.mem_of_getElem? (i := 1141) (by decide +kernel)⟩
theorem lw_p23 : lw_okq (⟨"PusherRoom$Search", "slotFor", "(JI)I"⟩, 11) := ⟨⟨by decide +kernel, by decide +kernel⟩, List.mem_of_getElem? (i := 266) (by decide +kernel), List.mem_of_getElem? (i := 1144) (by decide +kernel), List.mem_of_getElem? (i := 1145) (by decide +kernel)⟩
theorem lw_p24 : lw_okq (⟨"PusherRoom$Search", "visit", "(I)V"⟩, 11) := ⟨⟨by decide +kernel, by decide +kernel⟩, List.mem_of_getElem? (i := 266) (by decide +kernel), List.mem_of_getElem? (i := 1152) (by decide +kernel), List.mem_of_getElem? (i := 1153) (by decide +kernel)⟩
theorem lw_p25 : lw_okq (⟨"PusherRoom$Search", "lookAt", "(IJII)V"⟩, 11) := ⟨⟨by decide +kernel, by decide +kernel⟩, List.mem_of_getElem? (i := 266) (by decide +kernel), List.mem_of_getElem? (i := 1160) (by decide +kernel), List.mem_of_getElem? (i := 1161) (by decide +kernel)⟩
theorem lw_p26 : lw_okq (⟨"PusherRoomModel", "hasRoom", "()Z"⟩, 36) := ⟨⟨by decide +kernel, by decide +kernel⟩, List.mem_of_getElem? (i := 1295) (by decide +kernel), List.mem_of_getElem? (i := 1422) (by decide +kernel), List.mem_of_getElem? (i := 1423) (by decide +kernel)⟩
theorem lw_p27 : lw_okq (⟨"PusherRoomModel", "roomFault", "()I"⟩, 36) := ⟨⟨by decide +kernel, by decide +kernel⟩, List.mem_of_getElem? (i := 1295) (by decide +kernel), List.mem_of_getElem? (i := 1441) (by decide +kernel), List.mem_of_getElem? (i := 1442) (by decide +kernel)⟩
theorem lw_p28 : lw_okq (⟨"PusherRoomModel", "fails", "(I)I"⟩, 36) := ⟨⟨by decide +kernel, by decide +kernel⟩, List.mem_of_getElem? (i := 1295) (by decide +kernel), List.mem_of_getElem? (i := 1454) (by decide +kernel), List.mem_of_getElem? (i := 1455) (by decide +kernel)⟩
theorem lw_p29 : lw_okq (⟨"PusherRoomModel", "lays", "(I)I"⟩, 36) := ⟨⟨by decide +kernel, by decide +kernel⟩, List.mem_of_getElem? (i := 1295) (by decide +kernel), List.mem_of_getElem? (i := 1458) (by decide +kernel), List.mem_of_getElem? (i := 1459) (by decide +kernel)⟩
theorem lw_p30 : lw_okq (⟨"PusherRoomModel", "isOpen", "(I)Z"⟩, 36) := ⟨⟨by decide +kernel, by decide +kernel⟩, List.mem_of_getElem? (i := 1295) (by decide +kernel), List.mem_of_getElem? (i := 1466) (by decide +kernel), List.mem_of_getElem? (i := 1467) (by decide +kernel)⟩
theorem lw_p31 : lw_okq (⟨"PusherRoomModel", "isBox", "(I)Z"⟩, 36) := ⟨⟨by decide +kernel, by decide +kernel⟩, List.mem_of_getElem? (i := 1295) (by decide +kernel), List.mem_of_getElem? (i := 1470) (by decide +kernel), List.mem_of_getElem? (i := 1471) (by decide +kernel)⟩
def lw_privs_2 : List (MethodName × Nat) := [(⟨"PusherRoom$Game", "walkTo", "(J)V"⟩, 7), (⟨"PusherRoom$Game", "directionInto", "(J)I"⟩, 7), (⟨"PusherRoom", "commitOrThrow", "()V"⟩, 12), (⟨"PusherRoom", "playElements", "(I)Z"⟩, 12), (⟨"PusherRoom", "playElement", "(II)Z"⟩, 12), (⟨"PusherRoom", "searchAndKeep", "(IZ)V"⟩, 12), (⟨"PusherRoom$Search", "add", "(JIII)V"⟩, 11), (⟨"PusherRoom$Search", "slotFor", "(JI)I"⟩, 11), (⟨"PusherRoom$Search", "visit", "(I)V"⟩, 11), (⟨"PusherRoom$Search", "lookAt", "(IJII)V"⟩, 11), (⟨"PusherRoomModel", "hasRoom", "()Z"⟩, 36), (⟨"PusherRoomModel", "roomFault", "()I"⟩, 36), (⟨"PusherRoomModel", "fails", "(I)I"⟩, 36), (⟨"PusherRoomModel", "lays", "(I)I"⟩, 36), (⟨"PusherRoomModel", "isOpen", "(I)Z"⟩, 36), (⟨"PusherRoomModel", "isBox", "(I)Z"⟩, 36)]
theorem lw_r2 : ∀ q ∈ lw_privs_2, lw_okq q := List.forall_mem_cons.mpr ⟨lw_p16, List.forall_mem_cons.mpr ⟨lw_p17, List.forall_mem_cons.mpr ⟨lw_p18, List.forall_mem_cons.mpr ⟨lw_p19, List.forall_mem_cons.mpr ⟨lw_p20, List.forall_mem_cons.mpr ⟨lw_p21, List.forall_mem_cons.mpr ⟨lw_p22, List.forall_mem_cons.mpr ⟨lw_p23, List.forall_mem_cons.mpr ⟨lw_p24, List.forall_mem_cons.mpr ⟨lw_p25, List.forall_mem_cons.mpr ⟨lw_p26, List.forall_mem_cons.mpr ⟨lw_p27, List.forall_mem_cons.mpr ⟨lw_p28, List.forall_mem_cons.mpr ⟨lw_p29, List.forall_mem_cons.mpr ⟨lw_p30, List.forall_mem_cons.mpr ⟨lw_p31, fun _ h => absurd h List.not_mem_nil⟩⟩⟩⟩⟩⟩⟩⟩⟩⟩⟩⟩⟩⟩⟩⟩
theorem lw_p32 : lw_okq (⟨"PusherRoomModel", "isGoal", "(I)Z"⟩, 36) := ⟨⟨by decide +kernel, by decide +kernel⟩, List.mem_of_getElem? (i := 1295) (by decide +kernel), List.mem_of_getElem? (i := 1474) (by decide +kernel), List.mem_of_getElem? (i := 1475) (by decide +kernel)⟩
theorem lw_p33 : lw_okq (⟨"PusherRoomModel", "dies", "()V"⟩, 36) := ⟨⟨by decide +kernel, by decide +kernel⟩, List.mem_of_getElem? (i := 1295) (by decide +kernel), List.mem_of_getElem? (i := 1482) (by decide +kernel), List.mem_of_getElem? (i := 1483) (by decide +kernel)⟩
theorem lw_p34 : lw_okq (⟨"PusherRoomModel", "size", "()I"⟩, 36) := ⟨⟨by decide +kernel, by decide +kernel⟩, List.mem_of_getElem? (i := 1295) (by decide +kernel), List.mem_of_getElem? (i := 1486) (by decide +kernel), List.mem_of_getElem? (i := 1487) (by decide +kernel)⟩
theorem lw_p35 : lw_okq (⟨"PusherRoomModel", "pushesTo", "(I)V"⟩, 36) := ⟨⟨by decide +kernel, by decide +kernel⟩, List.mem_of_getElem? (i := 1295) (by decide +kernel), List.mem_of_getElem? (i := 1490) (by decide +kernel), List.mem_of_getElem? (i := 1491) (by decide +kernel)⟩
theorem lw_p36 : lw_okq (⟨"PusherRoomModel", "beside", "(II)I"⟩, 36) := ⟨⟨by decide +kernel, by decide +kernel⟩, List.mem_of_getElem? (i := 1295) (by decide +kernel), List.mem_of_getElem? (i := 1497) (by decide +kernel), List.mem_of_getElem? (i := 1498) (by decide +kernel)⟩
theorem lw_p37 : lw_okq (⟨"PusherRoomModel", "walksFrom", "(I)V"⟩, 36) := ⟨⟨by decide +kernel, by decide +kernel⟩, List.mem_of_getElem? (i := 1295) (by decide +kernel), List.mem_of_getElem? (i := 1501) (by decide +kernel), List.mem_of_getElem? (i := 1502) (by decide +kernel)⟩
theorem lw_p38 : lw_okq (⟨"PusherRoomModel", "freezes", "()V"⟩, 36) := ⟨⟨by decide +kernel, by decide +kernel⟩, List.mem_of_getElem? (i := 1295) (by decide +kernel), List.mem_of_getElem? (i := 1505) (by decide +kernel), List.mem_of_getElem? (i := 1506) (by decide +kernel)⟩
theorem lw_p39 : lw_okq (⟨"PusherRoomModel", "isBlocked", "(II)Z"⟩, 36) := ⟨⟨by decide +kernel, by decide +kernel⟩, List.mem_of_getElem? (i := 1295) (by decide +kernel), List.mem_of_getElem? (i := 1509) (by decide +kernel), List.mem_of_getElem? (i := 1510) (by decide +kernel)⟩
theorem lw_p40 : lw_okq (⟨"PusherRoomModel", "isIn", "(II)Z"⟩, 36) := ⟨⟨by decide +kernel, by decide +kernel⟩, List.mem_of_getElem? (i := 1295) (by decide +kernel), List.mem_of_getElem? (i := 1513) (by decide +kernel), List.mem_of_getElem? (i := 1514) (by decide +kernel)⟩
theorem lw_p41 : lw_okq (⟨"PusherRoomModel", "isTunnel", "(II)Z"⟩, 36) := ⟨⟨by decide +kernel, by decide +kernel⟩, List.mem_of_getElem? (i := 1295) (by decide +kernel), List.mem_of_getElem? (i := 1517) (by decide +kernel), List.mem_of_getElem? (i := 1518) (by decide +kernel)⟩
theorem lw_p42 : lw_okq (⟨"PusherRoomModel", "counted", "(Z)I"⟩, 36) := ⟨⟨by decide +kernel, by decide +kernel⟩, List.mem_of_getElem? (i := 1295) (by decide +kernel), List.mem_of_getElem? (i := 1525) (by decide +kernel), List.mem_of_getElem? (i := 1526) (by decide +kernel)⟩
theorem lw_p43 : lw_okq (⟨"PusherRoomModel", "recordedPushes", "()I"⟩, 36) := ⟨⟨by decide +kernel, by decide +kernel⟩, List.mem_of_getElem? (i := 1295) (by decide +kernel), List.mem_of_getElem? (i := 1529) (by decide +kernel), List.mem_of_getElem? (i := 1530) (by decide +kernel)⟩
theorem lw_p44 : lw_okq (⟨"PusherRoomModel", "groups", "()I"⟩, 36) := ⟨⟨by decide +kernel, by decide +kernel⟩, List.mem_of_getElem? (i := 1295) (by decide +kernel), List.mem_of_getElem? (i := 1533) (by decide +kernel), List.mem_of_getElem? (i := 1534) (by decide +kernel)⟩
theorem lw_p45 : lw_okq (⟨"PusherRoomModel", "goalRooms", "(I)I"⟩, 36) := ⟨⟨by decide +kernel, by decide +kernel⟩, List.mem_of_getElem? (i := 1295) (by decide +kernel), List.mem_of_getElem? (i := 1537) (by decide +kernel), List.mem_of_getElem? (i := 1538) (by decide +kernel)⟩
theorem lw_p46 : lw_okq (⟨"PusherRoomModel", "gathers", "(I)Z"⟩, 36) := ⟨⟨by decide +kernel, by decide +kernel⟩, List.mem_of_getElem? (i := 1295) (by decide +kernel), List.mem_of_getElem? (i := 1541) (by decide +kernel), List.mem_of_getElem? (i := 1542) (by decide +kernel)⟩
theorem lw_p47 : lw_okq (⟨"PusherRoomModel", "isSolved", "()Z"⟩, 36) := ⟨⟨by decide +kernel, by decide +kernel⟩, List.mem_of_getElem? (i := 1295) (by decide +kernel), List.mem_of_getElem? (i := 1545) (by decide +kernel), List.mem_of_getElem? (i := 1546) (by decide +kernel)⟩
def lw_privs_3 : List (MethodName × Nat) := [(⟨"PusherRoomModel", "isGoal", "(I)Z"⟩, 36), (⟨"PusherRoomModel", "dies", "()V"⟩, 36), (⟨"PusherRoomModel", "size", "()I"⟩, 36), (⟨"PusherRoomModel", "pushesTo", "(I)V"⟩, 36), (⟨"PusherRoomModel", "beside", "(II)I"⟩, 36), (⟨"PusherRoomModel", "walksFrom", "(I)V"⟩, 36), (⟨"PusherRoomModel", "freezes", "()V"⟩, 36), (⟨"PusherRoomModel", "isBlocked", "(II)Z"⟩, 36), (⟨"PusherRoomModel", "isIn", "(II)Z"⟩, 36), (⟨"PusherRoomModel", "isTunnel", "(II)Z"⟩, 36), (⟨"PusherRoomModel", "counted", "(Z)I"⟩, 36), (⟨"PusherRoomModel", "recordedPushes", "()I"⟩, 36), (⟨"PusherRoomModel", "groups", "()I"⟩, 36), (⟨"PusherRoomModel", "goalRooms", "(I)I"⟩, 36), (⟨"PusherRoomModel", "gathers", "(I)Z"⟩, 36), (⟨"PusherRoomModel", "isSolved", "()Z"⟩, 36)]
theorem lw_r3 : ∀ q ∈ lw_privs_3, lw_okq q := List.forall_mem_cons.mpr ⟨lw_p32, List.forall_mem_cons.mpr ⟨lw_p33, List.forall_mem_cons.mpr ⟨lw_p34, List.forall_mem_cons.mpr ⟨lw_p35, List.forall_mem_cons.mpr ⟨lw_p36, List.forall_mem_cons.mpr ⟨lw_p37, List.forall_mem_cons.mpr ⟨lw_p38, List.forall_mem_cons.mpr ⟨lw_p39, List.forall_mem_cons.mpr ⟨lw_p40, List.forall_mem_cons.mpr ⟨lw_p41, List.forall_mem_cons.mpr ⟨lw_p42, List.forall_mem_cons.mpr ⟨lw_p43, List.forall_mem_cons.mpr ⟨lw_p44, List.forall_mem_cons.mpr ⟨lw_p45, List.forall_mem_cons.mpr ⟨lw_p46, List.forall_mem_cons.mpr ⟨lw_p47, fun _ h => absurd h List.not_mem_nil⟩⟩⟩⟩⟩⟩⟩⟩⟩⟩⟩⟩⟩⟩⟩⟩
theorem lw_p48 : lw_okq (⟨"PusherRoomModel", "oneMore", "(I)V"⟩, 36) := ⟨⟨by decide +kernel, by decide +kernel⟩, List.mem_of_getElem? (i := 1295) (by decide +kernel), List.mem_of_getElem? (i := 1557) (by decide +kernel), List.mem_of_getElem? (i := 1558) (by decide +kernel)⟩
theorem lw_p49 : lw_okq (⟨"PusherRoomModel", "stuckFor", "()I"⟩, 36) := ⟨⟨by decide +kernel, by decide +kernel⟩, List.mem_of_getElem? (i := 1295) (by decide +kernel), List.mem_of_getElem? (i := 1565) (by decide +kernel), List.mem_of_getElem? (i := 1566) (by decide +kernel)⟩
theorem lw_p50 : lw_okq (⟨"PusherRoomModel", "ordered", "(I)I"⟩, 36) := ⟨⟨by decide +kernel, by decide +kernel⟩, List.mem_of_getElem? (i := 1295) (by decide +kernel), List.mem_of_getElem? (i := 1573) (by decide +kernel), List.mem_of_getElem? (i := 1574) (by decide +kernel)⟩
theorem lw_p51 : lw_okq (⟨"PusherRoomModel", "plainSteps", "(I)V"⟩, 36) := ⟨⟨by decide +kernel, by decide +kernel⟩, List.mem_of_getElem? (i := 1295) (by decide +kernel), List.mem_of_getElem? (i := 1577) (by decide +kernel), List.mem_of_getElem? (i := 1578) (by decide +kernel)⟩
theorem lw_p52 : lw_okq (⟨"PusherRoomModel", "reasonForStep", "(I)I"⟩, 36) := ⟨⟨by decide +kernel, by decide +kernel⟩, List.mem_of_getElem? (i := 1295) (by decide +kernel), List.mem_of_getElem? (i := 1585) (by decide +kernel), List.mem_of_getElem? (i := 1586) (by decide +kernel)⟩
theorem lw_p53 : lw_okq (⟨"PusherRoomModel", "reasonForBox", "(II)I"⟩, 36) := ⟨⟨by decide +kernel, by decide +kernel⟩, List.mem_of_getElem? (i := 1295) (by decide +kernel), List.mem_of_getElem? (i := 1589) (by decide +kernel), List.mem_of_getElem? (i := 1590) (by decide +kernel)⟩
theorem lw_p54 : lw_okq (⟨"PusherRoomModel", "keeps", "(II)I"⟩, 36) := ⟨⟨by decide +kernel, by decide +kernel⟩, List.mem_of_getElem? (i := 1295) (by decide +kernel), List.mem_of_getElem? (i := 1593) (by decide +kernel), List.mem_of_getElem? (i := 1594) (by decide +kernel)⟩
theorem lw_p55 : lw_okq (⟨"PusherRoomModel", "remembers", "()V"⟩, 36) := ⟨⟨by decide +kernel, by decide +kernel⟩, List.mem_of_getElem? (i := 1295) (by decide +kernel), List.mem_of_getElem? (i := 1597) (by decide +kernel), List.mem_of_getElem? (i := 1598) (by decide +kernel)⟩
theorem lw_p56 : lw_okq (⟨"PusherRoomModel", "commands", "()V"⟩, 36) := ⟨⟨by decide +kernel, by decide +kernel⟩, List.mem_of_getElem? (i := 1295) (by decide +kernel), List.mem_of_getElem? (i := 1601) (by decide +kernel), List.mem_of_getElem? (i := 1602) (by decide +kernel)⟩
theorem lw_p57 : lw_okq (⟨"PusherRoomModel", "goes", "(I)I"⟩, 36) := ⟨⟨by decide +kernel, by decide +kernel⟩, List.mem_of_getElem? (i := 1295) (by decide +kernel), List.mem_of_getElem? (i := 1605) (by decide +kernel), List.mem_of_getElem? (i := 1606) (by decide +kernel)⟩
theorem lw_p58 : lw_okq (⟨"PusherRoomModel", "pushing", "(IIZ)I"⟩, 36) := ⟨⟨by decide +kernel, by decide +kernel⟩, List.mem_of_getElem? (i := 1295) (by decide +kernel), List.mem_of_getElem? (i := 1613) (by decide +kernel), List.mem_of_getElem? (i := 1614) (by decide +kernel)⟩
theorem lw_p59 : lw_okq (⟨"PusherRoomModel", "pushStops", "(II)I"⟩, 36) := ⟨⟨by decide +kernel, by decide +kernel⟩, List.mem_of_getElem? (i := 1295) (by decide +kernel), List.mem_of_getElem? (i := 1617) (by decide +kernel), List.mem_of_getElem? (i := 1618) (by decide +kernel)⟩
theorem lw_p60 : lw_okq (⟨"PusherRoomModel", "reasonForPush", "(II)I"⟩, 36) := ⟨⟨by decide +kernel, by decide +kernel⟩, List.mem_of_getElem? (i := 1295) (by decide +kernel), List.mem_of_getElem? (i := 1621) (by decide +kernel), List.mem_of_getElem? (i := 1622) (by decide +kernel)⟩
theorem lw_p61 : lw_okq (⟨"PusherRoomModel", "walksAndPushes", "(II)V"⟩, 36) := ⟨⟨by decide +kernel, by decide +kernel⟩, List.mem_of_getElem? (i := 1295) (by decide +kernel), List.mem_of_getElem? (i := 1625) (by decide +kernel), List.mem_of_getElem? (i := 1626) (by decide +kernel)⟩
theorem lw_p62 : lw_okq (⟨"PusherRoomModel", "isNearer", "(I)Z"⟩, 36) := ⟨⟨by decide +kernel, by decide +kernel⟩, List.mem_of_getElem? (i := 1295) (by decide +kernel), List.mem_of_getElem? (i := 1629) (by decide +kernel), List.mem_of_getElem? (i := 1630) (by decide +kernel)⟩
theorem lw_p63 : lw_okq (⟨"PusherRoomModel", "goesBack", "()V"⟩, 36) := ⟨⟨by decide +kernel, by decide +kernel⟩, List.mem_of_getElem? (i := 1295) (by decide +kernel), List.mem_of_getElem? (i := 1633) (by decide +kernel), List.mem_of_getElem? (i := 1634) (by decide +kernel)⟩
def lw_privs_4 : List (MethodName × Nat) := [(⟨"PusherRoomModel", "oneMore", "(I)V"⟩, 36), (⟨"PusherRoomModel", "stuckFor", "()I"⟩, 36), (⟨"PusherRoomModel", "ordered", "(I)I"⟩, 36), (⟨"PusherRoomModel", "plainSteps", "(I)V"⟩, 36), (⟨"PusherRoomModel", "reasonForStep", "(I)I"⟩, 36), (⟨"PusherRoomModel", "reasonForBox", "(II)I"⟩, 36), (⟨"PusherRoomModel", "keeps", "(II)I"⟩, 36), (⟨"PusherRoomModel", "remembers", "()V"⟩, 36), (⟨"PusherRoomModel", "commands", "()V"⟩, 36), (⟨"PusherRoomModel", "goes", "(I)I"⟩, 36), (⟨"PusherRoomModel", "pushing", "(IIZ)I"⟩, 36), (⟨"PusherRoomModel", "pushStops", "(II)I"⟩, 36), (⟨"PusherRoomModel", "reasonForPush", "(II)I"⟩, 36), (⟨"PusherRoomModel", "walksAndPushes", "(II)V"⟩, 36), (⟨"PusherRoomModel", "isNearer", "(I)Z"⟩, 36), (⟨"PusherRoomModel", "goesBack", "()V"⟩, 36)]
theorem lw_r4 : ∀ q ∈ lw_privs_4, lw_okq q := List.forall_mem_cons.mpr ⟨lw_p48, List.forall_mem_cons.mpr ⟨lw_p49, List.forall_mem_cons.mpr ⟨lw_p50, List.forall_mem_cons.mpr ⟨lw_p51, List.forall_mem_cons.mpr ⟨lw_p52, List.forall_mem_cons.mpr ⟨lw_p53, List.forall_mem_cons.mpr ⟨lw_p54, List.forall_mem_cons.mpr ⟨lw_p55, List.forall_mem_cons.mpr ⟨lw_p56, List.forall_mem_cons.mpr ⟨lw_p57, List.forall_mem_cons.mpr ⟨lw_p58, List.forall_mem_cons.mpr ⟨lw_p59, List.forall_mem_cons.mpr ⟨lw_p60, List.forall_mem_cons.mpr ⟨lw_p61, List.forall_mem_cons.mpr ⟨lw_p62, List.forall_mem_cons.mpr ⟨lw_p63, fun _ h => absurd h List.not_mem_nil⟩⟩⟩⟩⟩⟩⟩⟩⟩⟩⟩⟩⟩⟩⟩⟩
theorem lw_p64 : lw_okq (⟨"PusherRoomModel", "stepsFault", "()I"⟩, 36) := ⟨⟨by decide +kernel, by decide +kernel⟩, List.mem_of_getElem? (i := 1295) (by decide +kernel), List.mem_of_getElem? (i := 1649) (by decide +kernel), List.mem_of_getElem? (i := 1650) (by decide +kernel)⟩
theorem lw_p65 : lw_okq (⟨"PusherRoomModel", "reasonForLetter", "(I)I"⟩, 36) := ⟨⟨by decide +kernel, by decide +kernel⟩, List.mem_of_getElem? (i := 1295) (by decide +kernel), List.mem_of_getElem? (i := 1656) (by decide +kernel), List.mem_of_getElem? (i := 1657) (by decide +kernel)⟩
theorem lw_p66 : lw_okq (⟨"PusherRoomModel", "searches", "(IZ)I"⟩, 36) := ⟨⟨by decide +kernel, by decide +kernel⟩, List.mem_of_getElem? (i := 1295) (by decide +kernel), List.mem_of_getElem? (i := 1672) (by decide +kernel), List.mem_of_getElem? (i := 1673) (by decide +kernel)⟩
theorem lw_p67 : lw_okq (⟨"PusherRoomModel", "finds", "(III)V"⟩, 36) := ⟨⟨by decide +kernel, by decide +kernel⟩, List.mem_of_getElem? (i := 1295) (by decide +kernel), List.mem_of_getElem? (i := 1676) (by decide +kernel), List.mem_of_getElem? (i := 1677) (by decide +kernel)⟩
theorem lw_p68 : lw_okq (⟨"PusherRoomModel", "boxSet", "()J"⟩, 36) := ⟨⟨by decide +kernel, by decide +kernel⟩, List.mem_of_getElem? (i := 1295) (by decide +kernel), List.mem_of_getElem? (i := 1680) (by decide +kernel), List.mem_of_getElem? (i := 1681) (by decide +kernel)⟩
theorem lw_p69 : lw_okq (⟨"PusherRoomModel", "lowestHere", "()I"⟩, 36) := ⟨⟨by decide +kernel, by decide +kernel⟩, List.mem_of_getElem? (i := 1295) (by decide +kernel), List.mem_of_getElem? (i := 1684) (by decide +kernel), List.mem_of_getElem? (i := 1685) (by decide +kernel)⟩
theorem lw_p70 : lw_okq (⟨"PusherRoomModel", "takes", "(I)V"⟩, 36) := ⟨⟨by decide +kernel, by decide +kernel⟩, List.mem_of_getElem? (i := 1295) (by decide +kernel), List.mem_of_getElem? (i := 1688) (by decide +kernel), List.mem_of_getElem? (i := 1689) (by decide +kernel)⟩
theorem lw_p71 : lw_okq (⟨"PusherRoomModel", "visits", "(IIZ)V"⟩, 36) := ⟨⟨by decide +kernel, by decide +kernel⟩, List.mem_of_getElem? (i := 1295) (by decide +kernel), List.mem_of_getElem? (i := 1692) (by decide +kernel), List.mem_of_getElem? (i := 1693) (by decide +kernel)⟩
def lw_privs_5 : List (MethodName × Nat) := [(⟨"PusherRoomModel", "stepsFault", "()I"⟩, 36), (⟨"PusherRoomModel", "reasonForLetter", "(I)I"⟩, 36), (⟨"PusherRoomModel", "searches", "(IZ)I"⟩, 36), (⟨"PusherRoomModel", "finds", "(III)V"⟩, 36), (⟨"PusherRoomModel", "boxSet", "()J"⟩, 36), (⟨"PusherRoomModel", "lowestHere", "()I"⟩, 36), (⟨"PusherRoomModel", "takes", "(I)V"⟩, 36), (⟨"PusherRoomModel", "visits", "(IIZ)V"⟩, 36)]
theorem lw_r5 : ∀ q ∈ lw_privs_5, lw_okq q := List.forall_mem_cons.mpr ⟨lw_p64, List.forall_mem_cons.mpr ⟨lw_p65, List.forall_mem_cons.mpr ⟨lw_p66, List.forall_mem_cons.mpr ⟨lw_p67, List.forall_mem_cons.mpr ⟨lw_p68, List.forall_mem_cons.mpr ⟨lw_p69, List.forall_mem_cons.mpr ⟨lw_p70, List.forall_mem_cons.mpr ⟨lw_p71, fun _ h => absurd h List.not_mem_nil⟩⟩⟩⟩⟩⟩⟩⟩
def lw_privs : List (MethodName × Nat) := lw_privs_1 ++ (lw_privs_2 ++ (lw_privs_3 ++ (lw_privs_4 ++ (lw_privs_5))))
def lw_tbl : List Cond := k2_sels lw_privs ++ tables_1
theorem lw_privs_ok : ∀ q ∈ lw_privs, lw_okq q := by
  show ∀ q ∈ lw_privs_1 ++ (lw_privs_2 ++ (lw_privs_3 ++ (lw_privs_4 ++ (lw_privs_5)))), lw_okq q
  exact List.forall_mem_append.mpr ⟨lw_r1, List.forall_mem_append.mpr ⟨lw_r2, List.forall_mem_append.mpr ⟨lw_r3, List.forall_mem_append.mpr ⟨lw_r4, lw_r5⟩⟩⟩⟩
end
section
def RX0 : String := "PusherRoom$Game"
def TX0 : u_T := fun k => match k with
  | 0 => ("PusherRoom$Game", "grid", "LPusherRoom$Grid;", true)
  | 1 => ("PusherRoom$Game", "now", "LPusherRoom$Position;", true)
  | 2 => ("PusherRoom$Game", "start", "LPusherRoom$Position;", true)
  | 3 => ("PusherRoom$Game", "again", "LPusherRoom$Position;", true)
  | 4 => ("PusherRoom$Game", "layers", "LPusherRoom$Layers;", true)
  | 5 => ("PusherRoom$Game", "record", "[I", true)
  | _ => ("PusherRoom$Game", "steps", "I", false)
def tyX0 : Nat → FieldType := fun k => match k with
  | 0 => .object "PusherRoom$Grid"
  | 1 => .object "PusherRoom$Position"
  | 2 => .object "PusherRoom$Position"
  | 3 => .object "PusherRoom$Position"
  | 4 => .object "PusherRoom$Layers"
  | 5 => .array .int
  | _ => .int
abbrev wsX00 : List Cond := u_ws RX0 TX0 7
theorem nmX0 : ∀ a, a < 7 → ∀ b, b < 7 → a ≠ b → (TX0 a).2.1 ≠ (TX0 b).2.1 := by decide +kernel
theorem tyX0_ok : ∀ k, k < 7 → parseFieldDescriptor (TX0 k).2.2.1 = some (tyX0 k) := by decide +kernel
abbrev cX0_init : ByteArray := prog_2_method_1_code
def yX0_init : MethodName := ⟨RX0, "<init>", "()V"⟩
abbrev cX0_begin : ByteArray := prog_2_method_2_code
def yX0_begin : MethodName := ⟨RX0, "begin", "(LPusherRoom$RoomText;)V"⟩
abbrev cX0_copy : ByteArray := prog_2_method_3_code
def yX0_copy : MethodName := ⟨RX0, "copy", "(LPusherRoom$Game;)V"⟩
abbrev cX0_returnTo : ByteArray := prog_2_method_4_code
def yX0_returnTo : MethodName := ⟨RX0, "returnTo", "(JII)V"⟩
abbrev cX0_signOf : ByteArray := prog_2_method_5_code
def yX0_signOf : MethodName := ⟨RX0, "signOf", "(I)C"⟩
abbrev cX0_makeStep : ByteArray := prog_2_method_6_code
def yX0_makeStep : MethodName := ⟨RX0, "makeStep", "(I)Z"⟩
abbrev cX0_pushBox : ByteArray := prog_2_method_7_code
def yX0_pushBox : MethodName := ⟨RX0, "pushBox", "(II)V"⟩
abbrev cX0_pushBoxOn : ByteArray := prog_2_method_8_code
def yX0_pushBoxOn : MethodName := ⟨RX0, "pushBoxOn", "(II)I"⟩
abbrev cX0_walkTo : ByteArray := prog_2_method_9_code
def yX0_walkTo : MethodName := ⟨RX0, "walkTo", "(J)V"⟩
abbrev cX0_directionInto : ByteArray := prog_2_method_10_code
def yX0_directionInto : MethodName := ⟨RX0, "directionInto", "(J)I"⟩
abbrev cX0_pushes : ByteArray := prog_2_method_11_code
def yX0_pushes : MethodName := ⟨RX0, "pushes", "()I"⟩
abbrev cX0_comesOutAgain : ByteArray := prog_2_method_12_code
def yX0_comesOutAgain : MethodName := ⟨RX0, "comesOutAgain", "()Z"⟩
def RX1 : String := "PusherRoom$GoalRooms"
def TX1 : u_T := fun k => match k with
  | 0 => ("PusherRoom$GoalRooms", "grid", "LPusherRoom$Grid;", true)
  | _ => ("PusherRoom$GoalRooms", "layers", "LPusherRoom$Layers;", true)
def tyX1 : Nat → FieldType := fun k => match k with
  | 0 => .object "PusherRoom$Grid"
  | _ => .object "PusherRoom$Layers"
abbrev wsX10 : List Cond := u_ws RX1 TX1 2
theorem nmX1 : ∀ a, a < 2 → ∀ b, b < 2 → a ≠ b → (TX1 a).2.1 ≠ (TX1 b).2.1 := by decide +kernel
theorem tyX1_ok : ∀ k, k < 2 → parseFieldDescriptor (TX1 k).2.2.1 = some (tyX1 k) := by decide +kernel
abbrev cX1_init : ByteArray := prog_3_method_1_code
def yX1_init : MethodName := ⟨RX1, "<init>", "(LPusherRoom$Grid;)V"⟩
abbrev cX1_howMany : ByteArray := prog_3_method_2_code
def yX1_howMany : MethodName := ⟨RX1, "howMany", "()I"⟩
abbrev cX1_goalsOf : ByteArray := prog_3_method_3_code
def yX1_goalsOf : MethodName := ⟨RX1, "goalsOf", "(I)J"⟩
abbrev cX1_entrances : ByteArray := prog_3_method_4_code
def yX1_entrances : MethodName := ⟨RX1, "entrances", "(J)J"⟩
abbrev cX1_goalAt : ByteArray := prog_3_method_5_code
def yX1_goalAt : MethodName := ⟨RX1, "goalAt", "(JI)I"⟩
def RX2 : String := "PusherRoom$Grid"
def TX2 : u_T := fun k => match k with
  | 0 => ("PusherRoom$Grid", "rows", "I", false)
  | 1 => ("PusherRoom$Grid", "columns", "I", false)
  | 2 => ("PusherRoom$Grid", "open", "J", false)
  | 3 => ("PusherRoom$Grid", "goals", "J", false)
  | 4 => ("PusherRoom$Grid", "dead", "J", false)
  | 5 => ("PusherRoom$Grid", "firstColumn", "J", false)
  | _ => ("PusherRoom$Grid", "lastColumn", "J", false)
def tyX2 : Nat → FieldType := fun k => match k with
  | 0 => .int
  | 1 => .int
  | 2 => .long
  | 3 => .long
  | 4 => .long
  | 5 => .long
  | _ => .long
abbrev wsX20 : List Cond := u_ws RX2 TX2 7
theorem nmX2 : ∀ a, a < 7 → ∀ b, b < 7 → a ≠ b → (TX2 a).2.1 ≠ (TX2 b).2.1 := by decide +kernel
theorem tyX2_ok : ∀ k, k < 7 → parseFieldDescriptor (TX2 k).2.2.1 = some (tyX2 k) := by decide +kernel
abbrev cX2_init : ByteArray := prog_4_method_1_code
def yX2_init : MethodName := ⟨RX2, "<init>", "()V"⟩
abbrev cX2_lay : ByteArray := prog_4_method_2_code
def yX2_lay : MethodName := ⟨RX2, "lay", "(LPusherRoom$RoomText;)V"⟩
abbrev cX2_copy : ByteArray := prog_4_method_3_code
def yX2_copy : MethodName := ⟨RX2, "copy", "(LPusherRoom$Grid;)V"⟩
abbrev cX2_isLaid : ByteArray := prog_4_method_4_code
def yX2_isLaid : MethodName := ⟨RX2, "isLaid", "()Z"⟩
abbrev cX2_hasPlace : ByteArray := prog_4_method_5_code
def yX2_hasPlace : MethodName := ⟨RX2, "hasPlace", "(II)Z"⟩
abbrev cX2_moved : ByteArray := prog_4_method_6_code
def yX2_moved : MethodName := ⟨RX2, "moved", "(JI)J"⟩
abbrev cX2_beside : ByteArray := prog_4_method_7_code
def yX2_beside : MethodName := ⟨RX2, "beside", "(J)J"⟩
abbrev cX2_spread : ByteArray := prog_4_method_8_code
def yX2_spread : MethodName := ⟨RX2, "spread", "(JJ)J"⟩
abbrev cX2_groups : ByteArray := prog_4_method_9_code
def yX2_groups : MethodName := ⟨RX2, "groups", "(J)I"⟩
abbrev cX2_lonePushed : ByteArray := prog_4_method_10_code
def yX2_lonePushed : MethodName := ⟨RX2, "lonePushed", "(J)J"⟩
abbrev cX2_pulled : ByteArray := prog_4_method_11_code
def yX2_pulled : MethodName := ⟨RX2, "pulled", "(J)J"⟩
abbrev cX2_leastPushes : ByteArray := prog_4_method_12_code
def yX2_leastPushes : MethodName := ⟨RX2, "leastPushes", "(JJ)I"⟩
abbrev cX2_frozen : ByteArray := prog_4_method_13_code
def yX2_frozen : MethodName := ⟨RX2, "frozen", "(J)J"⟩
abbrev cX2_stuckReason : ByteArray := prog_4_method_14_code
def yX2_stuckReason : MethodName := ⟨RX2, "stuckReason", "(J)I"⟩
abbrev cX2_stuckDetail : ByteArray := prog_4_method_15_code
def yX2_stuckDetail : MethodName := ⟨RX2, "stuckDetail", "(JI)I"⟩
abbrev cX2_tunnelsInRow : ByteArray := prog_4_method_16_code
def yX2_tunnelsInRow : MethodName := ⟨RX2, "tunnelsInRow", "()J"⟩
abbrev cX2_tunnelsInColumn : ByteArray := prog_4_method_17_code
def yX2_tunnelsInColumn : MethodName := ⟨RX2, "tunnelsInColumn", "()J"⟩
abbrev cX2_tunnelsAlong : ByteArray := prog_4_method_18_code
def yX2_tunnelsAlong : MethodName := ⟨RX2, "tunnelsAlong", "(I)J"⟩
def RX3 : String := "PusherRoom$History"
def TX3 : u_T := fun k => match k with
  | 0 => ("PusherRoom$History", "boxes", "[J", true)
  | 1 => ("PusherRoom$History", "players", "[I", true)
  | 2 => ("PusherRoom$History", "steps", "[I", true)
  | _ => ("PusherRoom$History", "size", "I", false)
def tyX3 : Nat → FieldType := fun k => match k with
  | 0 => .array .long
  | 1 => .array .int
  | 2 => .array .int
  | _ => .int
abbrev wsX30 : List Cond := u_ws RX3 TX3 4
theorem nmX3 : ∀ a, a < 4 → ∀ b, b < 4 → a ≠ b → (TX3 a).2.1 ≠ (TX3 b).2.1 := by decide +kernel
theorem tyX3_ok : ∀ k, k < 4 → parseFieldDescriptor (TX3 k).2.2.1 = some (tyX3 k) := by decide +kernel
abbrev cX3_init : ByteArray := prog_5_method_1_code
def yX3_init : MethodName := ⟨RX3, "<init>", "()V"⟩
abbrev cX3_clear : ByteArray := prog_5_method_2_code
def yX3_clear : MethodName := ⟨RX3, "clear", "()V"⟩
abbrev cX3_begin : ByteArray := prog_5_method_3_code
def yX3_begin : MethodName := ⟨RX3, "begin", "(LPusherRoom$Game;)V"⟩
abbrev cX3_rollBack : ByteArray := prog_5_method_4_code
def yX3_rollBack : MethodName := ⟨RX3, "rollBack", "(LPusherRoom$Game;)V"⟩
abbrev cX3_commit : ByteArray := prog_5_method_5_code
def yX3_commit : MethodName := ⟨RX3, "commit", "()V"⟩
abbrev cX3_forgetOldest : ByteArray := prog_5_method_6_code
def yX3_forgetOldest : MethodName := ⟨RX3, "forgetOldest", "()V"⟩
abbrev cX3_goBack : ByteArray := prog_5_method_7_code
def yX3_goBack : MethodName := ⟨RX3, "goBack", "(LPusherRoom$Game;)V"⟩
def RX4 : String := "PusherRoom$Layers"
def TX4 : u_T := fun k => match k with
  | 0 => ("PusherRoom$Layers", "sets", "[J", true)
  | _ => ("PusherRoom$Layers", "size", "I", false)
def tyX4 : Nat → FieldType := fun k => match k with
  | 0 => .array .long
  | _ => .int
abbrev wsX40 : List Cond := u_ws RX4 TX4 2
theorem nmX4 : ∀ a, a < 2 → ∀ b, b < 2 → a ≠ b → (TX4 a).2.1 ≠ (TX4 b).2.1 := by decide +kernel
theorem tyX4_ok : ∀ k, k < 2 → parseFieldDescriptor (TX4 k).2.2.1 = some (tyX4 k) := by decide +kernel
abbrev cX4_init : ByteArray := prog_6_method_1_code
def yX4_init : MethodName := ⟨RX4, "<init>", "()V"⟩
abbrev cX4_lay : ByteArray := prog_6_method_2_code
def yX4_lay : MethodName := ⟨RX4, "lay", "(LPusherRoom$Grid;JJ)V"⟩
abbrev cX4_at : ByteArray := prog_6_method_3_code
def yX4_at : MethodName := ⟨RX4, "at", "(I)J"⟩
abbrev cX4_find : ByteArray := prog_6_method_4_code
def yX4_find : MethodName := ⟨RX4, "find", "(I)I"⟩
def RX5 : String := "PusherRoom$Matching"
def TX5 : u_T := fun k => match k with
  | 0 => ("PusherRoom$Matching", "grid", "LPusherRoom$Grid;", true)
  | 1 => ("PusherRoom$Matching", "distances", "[I", true)
  | _ => ("PusherRoom$Matching", "sums", "[I", true)
def tyX5 : Nat → FieldType := fun k => match k with
  | 0 => .object "PusherRoom$Grid"
  | 1 => .array .int
  | _ => .array .int
abbrev wsX50 : List Cond := u_ws RX5 TX5 3
theorem nmX5 : ∀ a, a < 3 → ∀ b, b < 3 → a ≠ b → (TX5 a).2.1 ≠ (TX5 b).2.1 := by decide +kernel
theorem tyX5_ok : ∀ k, k < 3 → parseFieldDescriptor (TX5 k).2.2.1 = some (tyX5 k) := by decide +kernel
abbrev cX5_init : ByteArray := prog_7_method_1_code
def yX5_init : MethodName := ⟨RX5, "<init>", "(LPusherRoom$Grid;)V"⟩
abbrev cX5_leastSum : ByteArray := prog_7_method_2_code
def yX5_leastSum : MethodName := ⟨RX5, "leastSum", "(J)I"⟩
abbrev cX5_measure : ByteArray := prog_7_method_3_code
def yX5_measure : MethodName := ⟨RX5, "measure", "(J)I"⟩
abbrev cX5_measureFrom : ByteArray := prog_7_method_4_code
def yX5_measureFrom : MethodName := ⟨RX5, "measureFrom", "(II)V"⟩
abbrev cX5_offer : ByteArray := prog_7_method_5_code
def yX5_offer : MethodName := ⟨RX5, "offer", "(II)V"⟩
abbrev cX5_offerTo : ByteArray := prog_7_method_6_code
def yX5_offerTo : MethodName := ⟨RX5, "offerTo", "(III)V"⟩
def RX6 : String := "PusherRoom$Position"
def TX6 : u_T := fun k => match k with
  | 0 => ("PusherRoom$Position", "grid", "LPusherRoom$Grid;", true)
  | 1 => ("PusherRoom$Position", "boxes", "J", false)
  | _ => ("PusherRoom$Position", "player", "I", false)
def tyX6 : Nat → FieldType := fun k => match k with
  | 0 => .object "PusherRoom$Grid"
  | 1 => .long
  | _ => .int
abbrev wsX60 : List Cond := u_ws RX6 TX6 3
theorem nmX6 : ∀ a, a < 3 → ∀ b, b < 3 → a ≠ b → (TX6 a).2.1 ≠ (TX6 b).2.1 := by decide +kernel
theorem tyX6_ok : ∀ k, k < 3 → parseFieldDescriptor (TX6 k).2.2.1 = some (tyX6 k) := by decide +kernel
abbrev cX6_init : ByteArray := prog_8_method_1_code
def yX6_init : MethodName := ⟨RX6, "<init>", "(LPusherRoom$Grid;)V"⟩
abbrev cX6_put : ByteArray := prog_8_method_2_code
def yX6_put : MethodName := ⟨RX6, "put", "(JI)V"⟩
abbrev cX6_isLike : ByteArray := prog_8_method_3_code
def yX6_isLike : MethodName := ⟨RX6, "isLike", "(LPusherRoom$Position;)Z"⟩
abbrev cX6_isSolved : ByteArray := prog_8_method_4_code
def yX6_isSolved : MethodName := ⟨RX6, "isSolved", "()Z"⟩
abbrev cX6_free : ByteArray := prog_8_method_5_code
def yX6_free : MethodName := ⟨RX6, "free", "()J"⟩
abbrev cX6_area : ByteArray := prog_8_method_6_code
def yX6_area : MethodName := ⟨RX6, "area", "()J"⟩
abbrev cX6_ahead : ByteArray := prog_8_method_7_code
def yX6_ahead : MethodName := ⟨RX6, "ahead", "(I)J"⟩
abbrev cX6_stepReason : ByteArray := prog_8_method_8_code
def yX6_stepReason : MethodName := ⟨RX6, "stepReason", "(I)I"⟩
abbrev cX6_boxReason : ByteArray := prog_8_method_9_code
def yX6_boxReason : MethodName := ⟨RX6, "boxReason", "(JI)I"⟩
abbrev cX6_stepDetail : ByteArray := prog_8_method_10_code
def yX6_stepDetail : MethodName := ⟨RX6, "stepDetail", "(II)I"⟩
abbrev cX6_letterReason : ByteArray := prog_8_method_11_code
def yX6_letterReason : MethodName := ⟨RX6, "letterReason", "(IZ)I"⟩
abbrev cX6_pushReason : ByteArray := prog_8_method_12_code
def yX6_pushReason : MethodName := ⟨RX6, "pushReason", "(II)I"⟩
abbrev cX6_pushDetail : ByteArray := prog_8_method_13_code
def yX6_pushDetail : MethodName := ⟨RX6, "pushDetail", "(III)I"⟩
abbrev cX6_behind : ByteArray := prog_8_method_14_code
def yX6_behind : MethodName := ⟨RX6, "behind", "(II)J"⟩
abbrev cX6_move : ByteArray := prog_8_method_15_code
def yX6_move : MethodName := ⟨RX6, "move", "(I)Z"⟩
def RX7 : String := "PusherRoom$RoomText"
def TX7 : u_T := fun k => match k with
  | 0 => ("PusherRoom$RoomText", "rows", "I", false)
  | 1 => ("PusherRoom$RoomText", "columns", "I", false)
  | 2 => ("PusherRoom$RoomText", "open", "J", false)
  | 3 => ("PusherRoom$RoomText", "goals", "J", false)
  | 4 => ("PusherRoom$RoomText", "boxes", "J", false)
  | 5 => ("PusherRoom$RoomText", "player", "I", false)
  | 6 => ("PusherRoom$RoomText", "width", "I", false)
  | 7 => ("PusherRoom$RoomText", "cellsRead", "I", false)
  | 8 => ("PusherRoom$RoomText", "goalCount", "I", false)
  | _ => ("PusherRoom$RoomText", "boxCount", "I", false)
def tyX7 : Nat → FieldType := fun k => match k with
  | 0 => .int
  | 1 => .int
  | 2 => .long
  | 3 => .long
  | 4 => .long
  | 5 => .int
  | 6 => .int
  | 7 => .int
  | 8 => .int
  | _ => .int
abbrev wsX70 : List Cond := u_ws RX7 TX7 10
theorem nmX7 : ∀ a, a < 10 → ∀ b, b < 10 → a ≠ b → (TX7 a).2.1 ≠ (TX7 b).2.1 := by decide +kernel
theorem tyX7_ok : ∀ k, k < 10 → parseFieldDescriptor (TX7 k).2.2.1 = some (tyX7 k) := by decide +kernel
abbrev cX7_init : ByteArray := prog_9_method_1_code
def yX7_init : MethodName := ⟨RX7, "<init>", "()V"⟩
abbrev cX7_clear : ByteArray := prog_9_method_2_code
def yX7_clear : MethodName := ⟨RX7, "clear", "()V"⟩
abbrev cX7_read : ByteArray := prog_9_method_3_code
def yX7_read : MethodName := ⟨RX7, "read", "(LPusherRoom$TextInput;I)I"⟩
abbrev cX7_endRow : ByteArray := prog_9_method_4_code
def yX7_endRow : MethodName := ⟨RX7, "endRow", "()Z"⟩
abbrev cX7_addCell : ByteArray := prog_9_method_5_code
def yX7_addCell : MethodName := ⟨RX7, "addCell", "(C)Z"⟩
abbrev cX7_isRoom : ByteArray := prog_9_method_6_code
def yX7_isRoom : MethodName := ⟨RX7, "isRoom", "()Z"⟩
abbrev cX7_isSide : ByteArray := prog_9_method_7_code
def yX7_isSide : MethodName := ⟨RX7, "isSide", "(I)Z"⟩
def RX8 : String := "PusherRoom$Search"
def TX8 : u_T := fun k => match k with
  | 0 => ("PusherRoom$Search", "grid", "LPusherRoom$Grid;", true)
  | 1 => ("PusherRoom$Search", "boxes", "[J", true)
  | 2 => ("PusherRoom$Search", "players", "[I", true)
  | 3 => ("PusherRoom$Search", "parents", "[I", true)
  | 4 => ("PusherRoom$Search", "pushes", "[I", true)
  | 5 => ("PusherRoom$Search", "slots", "[I", true)
  | 6 => ("PusherRoom$Search", "limit", "I", false)
  | 7 => ("PusherRoom$Search", "withTables", "Z", false)
  | 8 => ("PusherRoom$Search", "found", "I", false)
  | 9 => ("PusherRoom$Search", "solved", "I", false)
  | _ => ("PusherRoom$Search", "hasGivenUp", "Z", false)
def tyX8 : Nat → FieldType := fun k => match k with
  | 0 => .object "PusherRoom$Grid"
  | 1 => .array .long
  | 2 => .array .int
  | 3 => .array .int
  | 4 => .array .int
  | 5 => .array .int
  | 6 => .int
  | 7 => .boolean
  | 8 => .int
  | 9 => .int
  | _ => .boolean
abbrev wsX80 : List Cond := u_ws RX8 TX8 11
theorem nmX8 : ∀ a, a < 11 → ∀ b, b < 11 → a ≠ b → (TX8 a).2.1 ≠ (TX8 b).2.1 := by decide +kernel
theorem tyX8_ok : ∀ k, k < 11 → parseFieldDescriptor (TX8 k).2.2.1 = some (tyX8 k) := by decide +kernel
abbrev cX8_init : ByteArray := prog_10_method_1_code
def yX8_init : MethodName := ⟨RX8, "<init>", "(LPusherRoom$Grid;)V"⟩
abbrev cX8_run : ByteArray := prog_10_method_2_code
def yX8_run : MethodName := ⟨RX8, "run", "(LPusherRoom$Position;IZ)V"⟩
abbrev cX8_visit : ByteArray := prog_10_method_3_code
def yX8_visit : MethodName := ⟨RX8, "visit", "(I)V"⟩
abbrev cX8_lookAt : ByteArray := prog_10_method_4_code
def yX8_lookAt : MethodName := ⟨RX8, "lookAt", "(IJII)V"⟩
abbrev cX8_add : ByteArray := prog_10_method_5_code
def yX8_add : MethodName := ⟨RX8, "add", "(JIII)V"⟩
abbrev cX8_slotFor : ByteArray := prog_10_method_6_code
def yX8_slotFor : MethodName := ⟨RX8, "slotFor", "(JI)I"⟩
abbrev cX8_parentOf : ByteArray := prog_10_method_7_code
def yX8_parentOf : MethodName := ⟨RX8, "parentOf", "(I)I"⟩
abbrev cX8_pushTo : ByteArray := prog_10_method_8_code
def yX8_pushTo : MethodName := ⟨RX8, "pushTo", "(I)I"⟩
def RX9 : String := "PusherRoom$Solution"
def TX9 : u_T := fun k => match k with
  | 0 => ("PusherRoom$Solution", "parts", "[I", true)
  | 1 => ("PusherRoom$Solution", "pushes", "I", false)
  | _ => ("PusherRoom$Solution", "positions", "I", false)
def tyX9 : Nat → FieldType := fun k => match k with
  | 0 => .array .int
  | 1 => .int
  | _ => .int
abbrev wsX90 : List Cond := u_ws RX9 TX9 3
theorem nmX9 : ∀ a, a < 3 → ∀ b, b < 3 → a ≠ b → (TX9 a).2.1 ≠ (TX9 b).2.1 := by decide +kernel
theorem tyX9_ok : ∀ k, k < 3 → parseFieldDescriptor (TX9 k).2.2.1 = some (tyX9 k) := by decide +kernel
abbrev cX9_init : ByteArray := prog_11_method_1_code
def yX9_init : MethodName := ⟨RX9, "<init>", "()V"⟩
abbrev cX9_keep : ByteArray := prog_11_method_2_code
def yX9_keep : MethodName := ⟨RX9, "keep", "(LPusherRoom$Search;)V"⟩
abbrev cX9_depthOf : ByteArray := prog_11_method_3_code
def yX9_depthOf : MethodName := ⟨RX9, "depthOf", "(LPusherRoom$Search;)I"⟩
abbrev cX9_cellAt : ByteArray := prog_11_method_4_code
def yX9_cellAt : MethodName := ⟨RX9, "cellAt", "(I)I"⟩
abbrev cX9_directionAt : ByteArray := prog_11_method_5_code
def yX9_directionAt : MethodName := ⟨RX9, "directionAt", "(I)I"⟩
def RX10 : String := "PusherRoom$TextInput"
def TX10 : u_T := fun k => match k with
  | 0 => ("PusherRoom$TextInput", "signs", "[C", true)
  | _ => ("PusherRoom$TextInput", "length", "I", false)
def tyX10 : Nat → FieldType := fun k => match k with
  | 0 => .array .char
  | _ => .int
abbrev wsX100 : List Cond := u_ws RX10 TX10 2
theorem nmX10 : ∀ a, a < 2 → ∀ b, b < 2 → a ≠ b → (TX10 a).2.1 ≠ (TX10 b).2.1 := by decide +kernel
theorem tyX10_ok : ∀ k, k < 2 → parseFieldDescriptor (TX10 k).2.2.1 = some (tyX10 k) := by decide +kernel
abbrev cX10_init : ByteArray := prog_12_method_1_code
def yX10_init : MethodName := ⟨RX10, "<init>", "()V"⟩
abbrev cX10_add : ByteArray := prog_12_method_2_code
def yX10_add : MethodName := ⟨RX10, "add", "(C)V"⟩
abbrev cX10_take : ByteArray := prog_12_method_3_code
def yX10_take : MethodName := ⟨RX10, "take", "()I"⟩
abbrev cX10_at : ByteArray := prog_12_method_4_code
def yX10_at : MethodName := ⟨RX10, "at", "(I)C"⟩
abbrev cX10_faultAsSteps : ByteArray := prog_12_method_5_code
def yX10_faultAsSteps : MethodName := ⟨RX10, "faultAsSteps", "(I)I"⟩
abbrev cX10_isDigit : ByteArray := prog_12_method_6_code
def yX10_isDigit : MethodName := ⟨RX10, "isDigit", "(CI)Z"⟩
def RX11 : String := "PusherRoom"
def TX11 : u_T := fun k => match k with
  | 0 => ("PusherRoom", "input", "LPusherRoom$TextInput;", true)
  | 1 => ("PusherRoom", "roomText", "LPusherRoom$RoomText;", true)
  | 2 => ("PusherRoom", "game", "LPusherRoom$Game;", true)
  | 3 => ("PusherRoom", "saved", "LPusherRoom$Game;", true)
  | 4 => ("PusherRoom", "history", "LPusherRoom$History;", true)
  | 5 => ("PusherRoom", "goalRooms", "LPusherRoom$GoalRooms;", true)
  | 6 => ("PusherRoom", "matching", "LPusherRoom$Matching;", true)
  | 7 => ("PusherRoom", "search", "LPusherRoom$Search;", true)
  | 8 => ("PusherRoom", "solution", "LPusherRoom$Solution;", true)
  | 9 => ("PusherRoom", "keptReason", "I", false)
  | 10 => ("PusherRoom", "keptDetail", "I", false)
  | _ => ("PusherRoom", "refusedStep", "I", false)
def tyX11 : Nat → FieldType := fun k => match k with
  | 0 => .object "PusherRoom$TextInput"
  | 1 => .object "PusherRoom$RoomText"
  | 2 => .object "PusherRoom$Game"
  | 3 => .object "PusherRoom$Game"
  | 4 => .object "PusherRoom$History"
  | 5 => .object "PusherRoom$GoalRooms"
  | 6 => .object "PusherRoom$Matching"
  | 7 => .object "PusherRoom$Search"
  | 8 => .object "PusherRoom$Solution"
  | 9 => .int
  | 10 => .int
  | _ => .int
abbrev wsX110 : List Cond := u_ws RX11 TX11 12
theorem nmX11 : ∀ a, a < 12 → ∀ b, b < 12 → a ≠ b → (TX11 a).2.1 ≠ (TX11 b).2.1 := by decide +kernel
theorem tyX11_ok : ∀ k, k < 12 → parseFieldDescriptor (TX11 k).2.2.1 = some (tyX11 k) := by decide +kernel
abbrev cX11_init : ByteArray := prog_1_method_1_code
def yX11_init : MethodName := ⟨RX11, "<init>", "()V"⟩
abbrev cX11_feed : ByteArray := prog_1_method_2_code
def yX11_feed : MethodName := ⟨RX11, "feed", "(C)I"⟩
abbrev cX11_readRoom : ByteArray := prog_1_method_3_code
def yX11_readRoom : MethodName := ⟨RX11, "readRoom", "()I"⟩
abbrev cX11_cell : ByteArray := prog_1_method_4_code
def yX11_cell : MethodName := ⟨RX11, "cell", "(II)C"⟩
abbrev cX11_cells : ByteArray := prog_1_method_5_code
def yX11_cells : MethodName := ⟨RX11, "cells", "(I)J"⟩
abbrev cX11_count : ByteArray := prog_1_method_6_code
def yX11_count : MethodName := ⟨RX11, "count", "(I)I"⟩
abbrev cX11_distance : ByteArray := prog_1_method_7_code
def yX11_distance : MethodName := ⟨RX11, "distance", "(II)I"⟩
abbrev cX11_bound : ByteArray := prog_1_method_8_code
def yX11_bound : MethodName := ⟨RX11, "bound", "()I"⟩
abbrev cX11_stuck : ByteArray := prog_1_method_9_code
def yX11_stuck : MethodName := ⟨RX11, "stuck", "(Z)I"⟩
abbrev cX11_goalRoom : ByteArray := prog_1_method_10_code
def yX11_goalRoom : MethodName := ⟨RX11, "goalRoom", "(II)I"⟩
abbrev cX11_step : ByteArray := prog_1_method_11_code
def yX11_step : MethodName := ⟨RX11, "step", "(I)I"⟩
abbrev cX11_push : ByteArray := prog_1_method_12_code
def yX11_push : MethodName := ⟨RX11, "push", "(II)I"⟩
abbrev cX11_longPush : ByteArray := prog_1_method_13_code
def yX11_longPush : MethodName := ⟨RX11, "longPush", "(II)I"⟩
abbrev cX11_play : ByteArray := prog_1_method_14_code
def yX11_play : MethodName := ⟨RX11, "play", "()I"⟩
abbrev cX11_refused : ByteArray := prog_1_method_15_code
def yX11_refused : MethodName := ⟨RX11, "refused", "()I"⟩
abbrev cX11_refusal : ByteArray := prog_1_method_16_code
def yX11_refusal : MethodName := ⟨RX11, "refusal", "(Z)I"⟩
abbrev cX11_refuses : ByteArray := prog_1_method_17_code
def yX11_refuses : MethodName := ⟨RX11, "refuses", "(II)I"⟩
abbrev cX11_solve : ByteArray := prog_1_method_18_code
def yX11_solve : MethodName := ⟨RX11, "solve", "(IZ)I"⟩
abbrev cX11_solution : ByteArray := prog_1_method_19_code
def yX11_solution : MethodName := ⟨RX11, "solution", "(IZ)I"⟩
abbrev cX11_finish : ByteArray := prog_1_method_20_code
def yX11_finish : MethodName := ⟨RX11, "finish", "(I)I"⟩
abbrev cX11_recorded : ByteArray := prog_1_method_21_code
def yX11_recorded : MethodName := ⟨RX11, "recorded", "(I)C"⟩
abbrev cX11_isReplayed : ByteArray := prog_1_method_22_code
def yX11_isReplayed : MethodName := ⟨RX11, "isReplayed", "()Z"⟩
abbrev cX11_undo : ByteArray := prog_1_method_23_code
def yX11_undo : MethodName := ⟨RX11, "undo", "()I"⟩
abbrev cX11_saveSnapshot : ByteArray := prog_1_method_24_code
def yX11_saveSnapshot : MethodName := ⟨RX11, "saveSnapshot", "()I"⟩
abbrev cX11_restoreSnapshot : ByteArray := prog_1_method_25_code
def yX11_restoreSnapshot : MethodName := ⟨RX11, "restoreSnapshot", "()I"⟩
abbrev cX11_requireRoom : ByteArray := prog_1_method_26_code
def yX11_requireRoom : MethodName := ⟨RX11, "requireRoom", "()V"⟩
abbrev cX11_requireDirection : ByteArray := prog_1_method_27_code
def yX11_requireDirection : MethodName := ⟨RX11, "requireDirection", "(I)V"⟩
abbrev cX11_requireBox : ByteArray := prog_1_method_28_code
def yX11_requireBox : MethodName := ⟨RX11, "requireBox", "(II)V"⟩
abbrev cX11_requirePush : ByteArray := prog_1_method_29_code
def yX11_requirePush : MethodName := ⟨RX11, "requirePush", "(II)V"⟩
abbrev cX11_keepRefusal : ByteArray := prog_1_method_30_code
def yX11_keepRefusal : MethodName := ⟨RX11, "keepRefusal", "(II)V"⟩
abbrev cX11_commitOrThrow : ByteArray := prog_1_method_31_code
def yX11_commitOrThrow : MethodName := ⟨RX11, "commitOrThrow", "()V"⟩
abbrev cX11_searchAndKeep : ByteArray := prog_1_method_32_code
def yX11_searchAndKeep : MethodName := ⟨RX11, "searchAndKeep", "(IZ)V"⟩
abbrev cX11_playElements : ByteArray := prog_1_method_33_code
def yX11_playElements : MethodName := ⟨RX11, "playElements", "(I)Z"⟩
abbrev cX11_playElement : ByteArray := prog_1_method_34_code
def yX11_playElement : MethodName := ⟨RX11, "playElement", "(II)Z"⟩
abbrev cX11_bit : ByteArray := prog_1_method_35_code
def yX11_bit : MethodName := ⟨RX11, "bit", "(I)J"⟩
abbrev cX11_has : ByteArray := prog_1_method_36_code
def yX11_has : MethodName := ⟨RX11, "has", "(JI)Z"⟩
abbrev cX11_lowest : ByteArray := prog_1_method_37_code
def yX11_lowest : MethodName := ⟨RX11, "lowest", "(J)I"⟩
abbrev cX11_opposite : ByteArray := prog_1_method_38_code
def yX11_opposite : MethodName := ⟨RX11, "opposite", "(I)I"⟩
abbrev cX11_codeOf : ByteArray := prog_1_method_39_code
def yX11_codeOf : MethodName := ⟨RX11, "codeOf", "(IZ)I"⟩
abbrev cX11_directionOf : ByteArray := prog_1_method_40_code
def yX11_directionOf : MethodName := ⟨RX11, "directionOf", "(I)I"⟩
abbrev cX11_isPushCode : ByteArray := prog_1_method_41_code
def yX11_isPushCode : MethodName := ⟨RX11, "isPushCode", "(I)Z"⟩
abbrev cX11_letterOf : ByteArray := prog_1_method_42_code
def yX11_letterOf : MethodName := ⟨RX11, "letterOf", "(I)C"⟩
abbrev cX11_intAt : ByteArray := prog_1_method_43_code
def yX11_intAt : MethodName := ⟨RX11, "intAt", "([II)I"⟩
abbrev cX11_setInt : ByteArray := prog_1_method_44_code
def yX11_setInt : MethodName := ⟨RX11, "setInt", "([III)V"⟩
abbrev cX11_longAt : ByteArray := prog_1_method_45_code
def yX11_longAt : MethodName := ⟨RX11, "longAt", "([JI)J"⟩
abbrev cX11_setLong : ByteArray := prog_1_method_46_code
def yX11_setLong : MethodName := ⟨RX11, "setLong", "([JIJ)V"⟩
def RX12 : String := "PusherRoomModel"
def TX12 : u_T := fun k => match k with
  | 0 => ("PusherRoomModel", "g", "[I", true)
  | 1 => ("PusherRoomModel", "kept", "[I", true)
  | 2 => ("PusherRoomModel", "spare", "[I", true)
  | 3 => ("PusherRoomModel", "hasKept", "Z", false)
  | 4 => ("PusherRoomModel", "past", "[I", true)
  | 5 => ("PusherRoomModel", "pasts", "I", false)
  | 6 => ("PusherRoomModel", "reason", "I", false)
  | 7 => ("PusherRoomModel", "detail", "I", false)
  | 8 => ("PusherRoomModel", "refusedStep", "I", false)
  | 9 => ("PusherRoomModel", "thrown", "I", false)
  | 10 => ("PusherRoomModel", "text", "[I", true)
  | 11 => ("PusherRoomModel", "length", "I", false)
  | 12 => ("PusherRoomModel", "spot", "I", false)
  | 13 => ("PusherRoomModel", "wide", "I", false)
  | 14 => ("PusherRoomModel", "many", "I", false)
  | 15 => ("PusherRoomModel", "queue", "[I", true)
  | 16 => ("PusherRoomModel", "queued", "I", false)
  | 17 => ("PusherRoomModel", "steps", "[I", true)
  | 18 => ("PusherRoomModel", "pushes", "[I", true)
  | 19 => ("PusherRoomModel", "isDead", "[Z", true)
  | 20 => ("PusherRoomModel", "isFrozen", "[Z", true)
  | 21 => ("PusherRoomModel", "stuckAt", "I", false)
  | 22 => ("PusherRoomModel", "met", "[Z", true)
  | 23 => ("PusherRoomModel", "sums", "[I", true)
  | 24 => ("PusherRoomModel", "entrance", "I", false)
  | 25 => ("PusherRoomModel", "members", "[I", true)
  | 26 => ("PusherRoomModel", "detailHere", "I", false)
  | 27 => ("PusherRoomModel", "boxes", "[J", true)
  | 28 => ("PusherRoomModel", "lowest", "[I", true)
  | 29 => ("PusherRoomModel", "cameFrom", "[I", true)
  | 30 => ("PusherRoomModel", "byPush", "[I", true)
  | 31 => ("PusherRoomModel", "found", "I", false)
  | 32 => ("PusherRoomModel", "solution", "[I", true)
  | 33 => ("PusherRoomModel", "solutionPushes", "I", false)
  | 34 => ("PusherRoomModel", "solutionFound", "I", false)
  | _ => ("PusherRoomModel", "gaveUp", "I", false)
def tyX12 : Nat → FieldType := fun k => match k with
  | 0 => .array .int
  | 1 => .array .int
  | 2 => .array .int
  | 3 => .boolean
  | 4 => .array .int
  | 5 => .int
  | 6 => .int
  | 7 => .int
  | 8 => .int
  | 9 => .int
  | 10 => .array .int
  | 11 => .int
  | 12 => .int
  | 13 => .int
  | 14 => .int
  | 15 => .array .int
  | 16 => .int
  | 17 => .array .int
  | 18 => .array .int
  | 19 => .array .boolean
  | 20 => .array .boolean
  | 21 => .int
  | 22 => .array .boolean
  | 23 => .array .int
  | 24 => .int
  | 25 => .array .int
  | 26 => .int
  | 27 => .array .long
  | 28 => .array .int
  | 29 => .array .int
  | 30 => .array .int
  | 31 => .int
  | 32 => .array .int
  | 33 => .int
  | 34 => .int
  | _ => .int
abbrev wsX120 : List Cond := u_ws RX12 TX12 36
theorem nmX12 : ∀ a, a < 36 → ∀ b, b < 36 → a ≠ b → (TX12 a).2.1 ≠ (TX12 b).2.1 := by decide +kernel
theorem tyX12_ok : ∀ k, k < 36 → parseFieldDescriptor (TX12 k).2.2.1 = some (tyX12 k) := by decide +kernel
abbrev cX12_init : ByteArray := prog_14_method_1_code
def yX12_init : MethodName := ⟨RX12, "<init>", "()V"⟩
abbrev cX12_thrown : ByteArray := prog_14_method_2_code
def yX12_thrown : MethodName := ⟨RX12, "thrown", "()I"⟩
abbrev cX12_fails : ByteArray := prog_14_method_3_code
def yX12_fails : MethodName := ⟨RX12, "fails", "(I)I"⟩
abbrev cX12_in : ByteArray := prog_14_method_4_code
def yX12_in : MethodName := ⟨RX12, "in", "(III)Z"⟩
abbrev cX12_hasRoom : ByteArray := prog_14_method_5_code
def yX12_hasRoom : MethodName := ⟨RX12, "hasRoom", "()Z"⟩
abbrev cX12_size : ByteArray := prog_14_method_6_code
def yX12_size : MethodName := ⟨RX12, "size", "()I"⟩
abbrev cX12_isOpen : ByteArray := prog_14_method_7_code
def yX12_isOpen : MethodName := ⟨RX12, "isOpen", "(I)Z"⟩
abbrev cX12_isGoal : ByteArray := prog_14_method_8_code
def yX12_isGoal : MethodName := ⟨RX12, "isGoal", "(I)Z"⟩
abbrev cX12_isBox : ByteArray := prog_14_method_9_code
def yX12_isBox : MethodName := ⟨RX12, "isBox", "(I)Z"⟩
abbrev cX12_beside : ByteArray := prog_14_method_10_code
def yX12_beside : MethodName := ⟨RX12, "beside", "(II)I"⟩
abbrev cX12_opposite : ByteArray := prog_14_method_11_code
def yX12_opposite : MethodName := ⟨RX12, "opposite", "(I)I"⟩
abbrev cX12_remembers : ByteArray := prog_14_method_12_code
def yX12_remembers : MethodName := ⟨RX12, "remembers", "()V"⟩
abbrev cX12_goesBack : ByteArray := prog_14_method_13_code
def yX12_goesBack : MethodName := ⟨RX12, "goesBack", "()V"⟩
abbrev cX12_commands : ByteArray := prog_14_method_14_code
def yX12_commands : MethodName := ⟨RX12, "commands", "()V"⟩
abbrev cX12_undo : ByteArray := prog_14_method_15_code
def yX12_undo : MethodName := ⟨RX12, "undo", "()I"⟩
abbrev cX12_saveSnapshot : ByteArray := prog_14_method_16_code
def yX12_saveSnapshot : MethodName := ⟨RX12, "saveSnapshot", "()I"⟩
abbrev cX12_restoreSnapshot : ByteArray := prog_14_method_17_code
def yX12_restoreSnapshot : MethodName := ⟨RX12, "restoreSnapshot", "()I"⟩
abbrev cX12_feed : ByteArray := prog_14_method_18_code
def yX12_feed : MethodName := ⟨RX12, "feed", "(C)I"⟩
abbrev cX12_isCell : ByteArray := prog_14_method_19_code
def yX12_isCell : MethodName := ⟨RX12, "isCell", "(I)Z"⟩
abbrev cX12_isBoxText : ByteArray := prog_14_method_20_code
def yX12_isBoxText : MethodName := ⟨RX12, "isBoxText", "(I)Z"⟩
abbrev cX12_isPlayerText : ByteArray := prog_14_method_21_code
def yX12_isPlayerText : MethodName := ⟨RX12, "isPlayerText", "(I)Z"⟩
abbrev cX12_roomFault : ByteArray := prog_14_method_22_code
def yX12_roomFault : MethodName := ⟨RX12, "roomFault", "()I"⟩
abbrev cX12_readRoom : ByteArray := prog_14_method_23_code
def yX12_readRoom : MethodName := ⟨RX12, "readRoom", "()I"⟩
abbrev cX12_lays : ByteArray := prog_14_method_24_code
def yX12_lays : MethodName := ⟨RX12, "lays", "(I)I"⟩
abbrev cX12_cell : ByteArray := prog_14_method_25_code
def yX12_cell : MethodName := ⟨RX12, "cell", "(II)C"⟩
abbrev cX12_walksFrom : ByteArray := prog_14_method_26_code
def yX12_walksFrom : MethodName := ⟨RX12, "walksFrom", "(I)V"⟩
abbrev cX12_pushesTo : ByteArray := prog_14_method_27_code
def yX12_pushesTo : MethodName := ⟨RX12, "pushesTo", "(I)V"⟩
abbrev cX12_dies : ByteArray := prog_14_method_28_code
def yX12_dies : MethodName := ⟨RX12, "dies", "()V"⟩
abbrev cX12_isBlocked : ByteArray := prog_14_method_29_code
def yX12_isBlocked : MethodName := ⟨RX12, "isBlocked", "(II)Z"⟩
abbrev cX12_freezes : ByteArray := prog_14_method_30_code
def yX12_freezes : MethodName := ⟨RX12, "freezes", "()V"⟩
abbrev cX12_stuckFor : ByteArray := prog_14_method_31_code
def yX12_stuckFor : MethodName := ⟨RX12, "stuckFor", "()I"⟩
abbrev cX12_isTunnel : ByteArray := prog_14_method_32_code
def yX12_isTunnel : MethodName := ⟨RX12, "isTunnel", "(II)Z"⟩
abbrev cX12_isIn : ByteArray := prog_14_method_33_code
def yX12_isIn : MethodName := ⟨RX12, "isIn", "(II)Z"⟩
abbrev cX12_cells : ByteArray := prog_14_method_34_code
def yX12_cells : MethodName := ⟨RX12, "cells", "(I)J"⟩
abbrev cX12_isSolved : ByteArray := prog_14_method_35_code
def yX12_isSolved : MethodName := ⟨RX12, "isSolved", "()Z"⟩
abbrev cX12_counted : ByteArray := prog_14_method_36_code
def yX12_counted : MethodName := ⟨RX12, "counted", "(Z)I"⟩
abbrev cX12_recordedPushes : ByteArray := prog_14_method_37_code
def yX12_recordedPushes : MethodName := ⟨RX12, "recordedPushes", "()I"⟩
abbrev cX12_groups : ByteArray := prog_14_method_38_code
def yX12_groups : MethodName := ⟨RX12, "groups", "()I"⟩
abbrev cX12_count : ByteArray := prog_14_method_39_code
def yX12_count : MethodName := ⟨RX12, "count", "(I)I"⟩
abbrev cX12_distance : ByteArray := prog_14_method_40_code
def yX12_distance : MethodName := ⟨RX12, "distance", "(II)I"⟩
abbrev cX12_bound : ByteArray := prog_14_method_41_code
def yX12_bound : MethodName := ⟨RX12, "bound", "()I"⟩
abbrev cX12_oneMore : ByteArray := prog_14_method_42_code
def yX12_oneMore : MethodName := ⟨RX12, "oneMore", "(I)V"⟩
abbrev cX12_stuck : ByteArray := prog_14_method_43_code
def yX12_stuck : MethodName := ⟨RX12, "stuck", "(Z)I"⟩
abbrev cX12_gathers : ByteArray := prog_14_method_44_code
def yX12_gathers : MethodName := ⟨RX12, "gathers", "(I)Z"⟩
abbrev cX12_goalRooms : ByteArray := prog_14_method_45_code
def yX12_goalRooms : MethodName := ⟨RX12, "goalRooms", "(I)I"⟩
abbrev cX12_ordered : ByteArray := prog_14_method_46_code
def yX12_ordered : MethodName := ⟨RX12, "ordered", "(I)I"⟩
abbrev cX12_plainSteps : ByteArray := prog_14_method_47_code
def yX12_plainSteps : MethodName := ⟨RX12, "plainSteps", "(I)V"⟩
abbrev cX12_goalRoom : ByteArray := prog_14_method_48_code
def yX12_goalRoom : MethodName := ⟨RX12, "goalRoom", "(II)I"⟩
abbrev cX12_reasonForStep : ByteArray := prog_14_method_49_code
def yX12_reasonForStep : MethodName := ⟨RX12, "reasonForStep", "(I)I"⟩
abbrev cX12_reasonForBox : ByteArray := prog_14_method_50_code
def yX12_reasonForBox : MethodName := ⟨RX12, "reasonForBox", "(II)I"⟩
abbrev cX12_goes : ByteArray := prog_14_method_51_code
def yX12_goes : MethodName := ⟨RX12, "goes", "(I)I"⟩
abbrev cX12_keeps : ByteArray := prog_14_method_52_code
def yX12_keeps : MethodName := ⟨RX12, "keeps", "(II)I"⟩
abbrev cX12_step : ByteArray := prog_14_method_53_code
def yX12_step : MethodName := ⟨RX12, "step", "(I)I"⟩
abbrev cX12_reasonForPush : ByteArray := prog_14_method_54_code
def yX12_reasonForPush : MethodName := ⟨RX12, "reasonForPush", "(II)I"⟩
abbrev cX12_pushStops : ByteArray := prog_14_method_55_code
def yX12_pushStops : MethodName := ⟨RX12, "pushStops", "(II)I"⟩
abbrev cX12_walksAndPushes : ByteArray := prog_14_method_56_code
def yX12_walksAndPushes : MethodName := ⟨RX12, "walksAndPushes", "(II)V"⟩
abbrev cX12_isNearer : ByteArray := prog_14_method_57_code
def yX12_isNearer : MethodName := ⟨RX12, "isNearer", "(I)Z"⟩
abbrev cX12_pushing : ByteArray := prog_14_method_58_code
def yX12_pushing : MethodName := ⟨RX12, "pushing", "(IIZ)I"⟩
abbrev cX12_push : ByteArray := prog_14_method_59_code
def yX12_push : MethodName := ⟨RX12, "push", "(II)I"⟩
abbrev cX12_longPush : ByteArray := prog_14_method_60_code
def yX12_longPush : MethodName := ⟨RX12, "longPush", "(II)I"⟩
abbrev cX12_refuses : ByteArray := prog_14_method_61_code
def yX12_refuses : MethodName := ⟨RX12, "refuses", "(II)I"⟩
abbrev cX12_directionOf : ByteArray := prog_14_method_62_code
def yX12_directionOf : MethodName := ⟨RX12, "directionOf", "(I)I"⟩
abbrev cX12_stepsFault : ByteArray := prog_14_method_63_code
def yX12_stepsFault : MethodName := ⟨RX12, "stepsFault", "()I"⟩
abbrev cX12_reasonForLetter : ByteArray := prog_14_method_64_code
def yX12_reasonForLetter : MethodName := ⟨RX12, "reasonForLetter", "(I)I"⟩
abbrev cX12_play : ByteArray := prog_14_method_65_code
def yX12_play : MethodName := ⟨RX12, "play", "()I"⟩
abbrev cX12_refused : ByteArray := prog_14_method_66_code
def yX12_refused : MethodName := ⟨RX12, "refused", "()I"⟩
abbrev cX12_refusal : ByteArray := prog_14_method_67_code
def yX12_refusal : MethodName := ⟨RX12, "refusal", "(Z)I"⟩
abbrev cX12_boxSet : ByteArray := prog_14_method_68_code
def yX12_boxSet : MethodName := ⟨RX12, "boxSet", "()J"⟩
abbrev cX12_lowestHere : ByteArray := prog_14_method_69_code
def yX12_lowestHere : MethodName := ⟨RX12, "lowestHere", "()I"⟩
abbrev cX12_takes : ByteArray := prog_14_method_70_code
def yX12_takes : MethodName := ⟨RX12, "takes", "(I)V"⟩
abbrev cX12_finds : ByteArray := prog_14_method_71_code
def yX12_finds : MethodName := ⟨RX12, "finds", "(III)V"⟩
abbrev cX12_visits : ByteArray := prog_14_method_72_code
def yX12_visits : MethodName := ⟨RX12, "visits", "(IIZ)V"⟩
abbrev cX12_searches : ByteArray := prog_14_method_73_code
def yX12_searches : MethodName := ⟨RX12, "searches", "(IZ)I"⟩
abbrev cX12_solve : ByteArray := prog_14_method_74_code
def yX12_solve : MethodName := ⟨RX12, "solve", "(IZ)I"⟩
abbrev cX12_solution : ByteArray := prog_14_method_75_code
def yX12_solution : MethodName := ⟨RX12, "solution", "(IZ)I"⟩
abbrev cX12_finish : ByteArray := prog_14_method_76_code
def yX12_finish : MethodName := ⟨RX12, "finish", "(I)I"⟩
abbrev cX12_recorded : ByteArray := prog_14_method_77_code
def yX12_recorded : MethodName := ⟨RX12, "recorded", "(I)C"⟩
abbrev cX12_isReplayed : ByteArray := prog_14_method_78_code
def yX12_isReplayed : MethodName := ⟨RX12, "isReplayed", "()Z"⟩
def RJx145de : String := "java/io/Serializable"
def TJx145de : u_T := fun k => match k with
  | _ => ("", "", "", false)
def tyJx145de : Nat → FieldType := fun k => match k with
  | _ => .int
abbrev wsJx145de0 : List Cond := u_ws RJx145de TJx145de 0
theorem nmJx145de : ∀ a, a < 0 → ∀ b, b < 0 → a ≠ b → (TJx145de a).2.1 ≠ (TJx145de b).2.1 := by decide +kernel
theorem tyJx145de_ok : ∀ k, k < 0 → parseFieldDescriptor (TJx145de k).2.2.1 = some (tyJx145de k) := by decide +kernel
def RJx9f9b0 : String := "java/lang/CharSequence"
def TJx9f9b0 : u_T := fun k => match k with
  | _ => ("", "", "", false)
def tyJx9f9b0 : Nat → FieldType := fun k => match k with
  | _ => .int
abbrev wsJx9f9b00 : List Cond := u_ws RJx9f9b0 TJx9f9b0 0
theorem nmJx9f9b0 : ∀ a, a < 0 → ∀ b, b < 0 → a ≠ b → (TJx9f9b0 a).2.1 ≠ (TJx9f9b0 b).2.1 := by decide +kernel
theorem tyJx9f9b0_ok : ∀ k, k < 0 → parseFieldDescriptor (TJx9f9b0 k).2.2.1 = some (tyJx9f9b0 k) := by decide +kernel
def RJ11 : String := "java/lang/Character"
def TJ11 : u_T := fun k => match k with
  | _ => ("", "", "", false)
def tyJ11 : Nat → FieldType := fun k => match k with
  | _ => .int
abbrev wsJ110 : List Cond := u_ws RJ11 TJ11 0
theorem nmJ11 : ∀ a, a < 0 → ∀ b, b < 0 → a ≠ b → (TJ11 a).2.1 ≠ (TJ11 b).2.1 := by decide +kernel
theorem tyJ11_ok : ∀ k, k < 0 → parseFieldDescriptor (TJ11 k).2.2.1 = some (tyJ11 k) := by decide +kernel
abbrev cJ11_isValidCodePoint_9a6ad : ByteArray := prog_18_method_11_code
def yJ11_isValidCodePoint_9a6ad : MethodName := ⟨RJ11, "isValidCodePoint", "(I)Z"⟩
abbrev cJ11_highSurrogate_5068e : ByteArray := prog_18_method_28_code
def yJ11_highSurrogate_5068e : MethodName := ⟨RJ11, "highSurrogate", "(I)C"⟩
abbrev cJ11_lowSurrogate_5068e : ByteArray := prog_18_method_29_code
def yJ11_lowSurrogate_5068e : MethodName := ⟨RJ11, "lowSurrogate", "(I)C"⟩
def RJxb160c : String := "java/lang/Comparable"
def TJxb160c : u_T := fun k => match k with
  | _ => ("", "", "", false)
def tyJxb160c : Nat → FieldType := fun k => match k with
  | _ => .int
abbrev wsJxb160c0 : List Cond := u_ws RJxb160c TJxb160c 0
theorem nmJxb160c : ∀ a, a < 0 → ∀ b, b < 0 → a ≠ b → (TJxb160c a).2.1 ≠ (TJxb160c b).2.1 := by decide +kernel
theorem tyJxb160c_ok : ∀ k, k < 0 → parseFieldDescriptor (TJxb160c k).2.2.1 = some (tyJxb160c k) := by decide +kernel
def RJ13 : String := "java/lang/Long"
def TJ13 : u_T := fun k => match k with
  | _ => ("", "", "", false)
def tyJ13 : Nat → FieldType := fun k => match k with
  | _ => .int
abbrev wsJ130 : List Cond := u_ws RJ13 TJ13 0
theorem nmJ13 : ∀ a, a < 0 → ∀ b, b < 0 → a ≠ b → (TJ13 a).2.1 ≠ (TJ13 b).2.1 := by decide +kernel
theorem tyJ13_ok : ∀ k, k < 0 → parseFieldDescriptor (TJ13 k).2.2.1 = some (tyJ13 k) := by decide +kernel
abbrev cJ13_bitCount_95d88 : ByteArray := prog_24_method_50_code
def yJ13_bitCount_95d88 : MethodName := ⟨RJ13, "bitCount", "(J)I"⟩
def RJ9 : String := "java/lang/Math"
def TJ9 : u_T := fun k => match k with
  | _ => ("", "", "", false)
def tyJ9 : Nat → FieldType := fun k => match k with
  | _ => .int
abbrev wsJ90 : List Cond := u_ws RJ9 TJ9 0
theorem nmJ9 : ∀ a, a < 0 → ∀ b, b < 0 → a ≠ b → (TJ9 a).2.1 ≠ (TJ9 b).2.1 := by decide +kernel
theorem tyJ9_ok : ∀ k, k < 0 → parseFieldDescriptor (TJ9 k).2.2.1 = some (tyJ9 k) := by decide +kernel
abbrev cJ9_max_7cf53 : ByteArray := prog_25_method_65_code
def yJ9_max_7cf53 : MethodName := ⟨RJ9, "max", "(II)I"⟩
abbrev cJ9_min_7cf53 : ByteArray := prog_25_method_69_code
def yJ9_min_7cf53 : MethodName := ⟨RJ9, "min", "(II)I"⟩
def RJ0 : String := "java/lang/String"
def TJ0 : u_T := fun k => match k with
  | _ => ("", "", "", false)
def tyJ0 : Nat → FieldType := fun k => match k with
  | _ => .int
abbrev wsJ00 : List Cond := u_ws RJ0 TJ0 0
theorem nmJ0 : ∀ a, a < 0 → ∀ b, b < 0 → a ≠ b → (TJ0 a).2.1 ≠ (TJ0 b).2.1 := by decide +kernel
theorem tyJ0_ok : ∀ k, k < 0 → parseFieldDescriptor (TJ0 k).2.2.1 = some (tyJ0 k) := by decide +kernel
abbrev cJ0_length_8abf5 : ByteArray := prog_27_method_54_code
def yJ0_length_8abf5 : MethodName := ⟨RJ0, "length", "()I"⟩
abbrev cJ0_charAt_5068e : ByteArray := prog_27_method_56_code
def yJ0_charAt_5068e : MethodName := ⟨RJ0, "charAt", "(I)C"⟩
abbrev cJ0_indexOf_0f7a4 : ByteArray := prog_27_method_79_code
def yJ0_indexOf_0f7a4 : MethodName := ⟨RJ0, "indexOf", "(I)I"⟩
abbrev cJ0_indexOf_7cf53 : ByteArray := prog_27_method_80_code
def yJ0_indexOf_7cf53 : MethodName := ⟨RJ0, "indexOf", "(II)I"⟩
abbrev cJ0_coder_7d493 : ByteArray := prog_27_method_152_code
def yJ0_coder_7d493 : MethodName := ⟨RJ0, "coder", "()B"⟩
abbrev cJ0_isLatin1_aae02 : ByteArray := prog_27_method_154_code
def yJ0_isLatin1_aae02 : MethodName := ⟨RJ0, "isLatin1", "()Z"⟩
abbrev cJ0_checkIndex_df160 : ByteArray := prog_27_method_155_code
def yJ0_checkIndex_df160 : MethodName := ⟨RJ0, "checkIndex", "(II)V"⟩
abbrev cJ0_checkBoundsBeginEnd_23922 : ByteArray := prog_27_method_158_code
def yJ0_checkBoundsBeginEnd_23922 : MethodName := ⟨RJ0, "checkBoundsBeginEnd", "(III)V"⟩
def RJ1 : String := "java/lang/StringLatin1"
def TJ1 : u_T := fun k => match k with
  | _ => ("", "", "", false)
def tyJ1 : Nat → FieldType := fun k => match k with
  | _ => .int
abbrev wsJ10 : List Cond := u_ws RJ1 TJ1 0
theorem nmJ1 : ∀ a, a < 0 → ∀ b, b < 0 → a ≠ b → (TJ1 a).2.1 ≠ (TJ1 b).2.1 := by decide +kernel
theorem tyJ1_ok : ∀ k, k < 0 → parseFieldDescriptor (TJ1 k).2.2.1 = some (tyJ1 k) := by decide +kernel
abbrev cJ1_charAt_3b067 : ByteArray := prog_28_method_2_code
def yJ1_charAt_3b067 : MethodName := ⟨RJ1, "charAt", "([BI)C"⟩
abbrev cJ1_canEncode_9a6ad : ByteArray := prog_28_method_4_code
def yJ1_canEncode_9a6ad : MethodName := ⟨RJ1, "canEncode", "(I)Z"⟩
abbrev cJ1_indexOf_4cfef : ByteArray := prog_28_method_22_code
def yJ1_indexOf_4cfef : MethodName := ⟨RJ1, "indexOf", "([BIII)I"⟩
abbrev cJ1_indexOfChar_4cfef : ByteArray := prog_28_method_23_code
def yJ1_indexOfChar_4cfef : MethodName := ⟨RJ1, "indexOfChar", "([BIII)I"⟩
def RJ2 : String := "java/lang/StringUTF16"
def TJ2 : u_T := fun k => match k with
  | _ => ("", "", "", false)
def tyJ2 : Nat → FieldType := fun k => match k with
  | _ => .int
abbrev wsJ20 : List Cond := u_ws RJ2 TJ2 0
theorem nmJ2 : ∀ a, a < 0 → ∀ b, b < 0 → a ≠ b → (TJ2 a).2.1 ≠ (TJ2 b).2.1 := by decide +kernel
theorem tyJ2_ok : ∀ k, k < 0 → parseFieldDescriptor (TJ2 k).2.2.1 = some (tyJ2 k) := by decide +kernel
abbrev cJ2_getChar_3b067 : ByteArray := prog_29_method_5_code
def yJ2_getChar_3b067 : MethodName := ⟨RJ2, "getChar", "([BI)C"⟩
abbrev cJ2_length_9d52b : ByteArray := prog_29_method_6_code
def yJ2_length_9d52b : MethodName := ⟨RJ2, "length", "([B)I"⟩
abbrev cJ2_indexOf_4cfef : ByteArray := prog_29_method_40_code
def yJ2_indexOf_4cfef : MethodName := ⟨RJ2, "indexOf", "([BIII)I"⟩
abbrev cJ2_indexOfChar_4cfef : ByteArray := prog_29_method_47_code
def yJ2_indexOfChar_4cfef : MethodName := ⟨RJ2, "indexOfChar", "([BIII)I"⟩
abbrev cJ2_indexOfCharUnsafe_4cfef : ByteArray := prog_29_method_48_code
def yJ2_indexOfCharUnsafe_4cfef : MethodName := ⟨RJ2, "indexOfCharUnsafe", "([BIII)I"⟩
abbrev cJ2_indexOfSupplementary_4cfef : ByteArray := prog_29_method_49_code
def yJ2_indexOfSupplementary_4cfef : MethodName := ⟨RJ2, "indexOfSupplementary", "([BIII)I"⟩
abbrev cJ2_charAt_3b067 : ByteArray := prog_29_method_83_code
def yJ2_charAt_3b067 : MethodName := ⟨RJ2, "charAt", "([BI)C"⟩
abbrev cJ2_checkIndex_2214a : ByteArray := prog_29_method_91_code
def yJ2_checkIndex_2214a : MethodName := ⟨RJ2, "checkIndex", "(I[B)V"⟩
abbrev cJ2_checkBoundsBeginEnd_d044e : ByteArray := prog_29_method_93_code
def yJ2_checkBoundsBeginEnd_d044e : MethodName := ⟨RJ2, "checkBoundsBeginEnd", "(II[B)V"⟩
def RJxfd54e : String := "java/lang/constant/Constable"
def TJxfd54e : u_T := fun k => match k with
  | _ => ("", "", "", false)
def tyJxfd54e : Nat → FieldType := fun k => match k with
  | _ => .int
abbrev wsJxfd54e0 : List Cond := u_ws RJxfd54e TJxfd54e 0
theorem nmJxfd54e : ∀ a, a < 0 → ∀ b, b < 0 → a ≠ b → (TJxfd54e a).2.1 ≠ (TJxfd54e b).2.1 := by decide +kernel
theorem tyJxfd54e_ok : ∀ k, k < 0 → parseFieldDescriptor (TJxfd54e k).2.2.1 = some (tyJxfd54e k) := by decide +kernel
def RJx3cf43 : String := "java/lang/constant/ConstantDesc"
def TJx3cf43 : u_T := fun k => match k with
  | _ => ("", "", "", false)
def tyJx3cf43 : Nat → FieldType := fun k => match k with
  | _ => .int
abbrev wsJx3cf430 : List Cond := u_ws RJx3cf43 TJx3cf43 0
theorem nmJx3cf43 : ∀ a, a < 0 → ∀ b, b < 0 → a ≠ b → (TJx3cf43 a).2.1 ≠ (TJx3cf43 b).2.1 := by decide +kernel
theorem tyJx3cf43_ok : ∀ k, k < 0 → parseFieldDescriptor (TJx3cf43 k).2.2.1 = some (tyJx3cf43 k) := by decide +kernel
def RJ3 : String := "jdk/internal/util/Preconditions"
def TJ3 : u_T := fun k => match k with
  | _ => ("", "", "", false)
def tyJ3 : Nat → FieldType := fun k => match k with
  | _ => .int
abbrev wsJ30 : List Cond := u_ws RJ3 TJ3 0
theorem nmJ3 : ∀ a, a < 0 → ∀ b, b < 0 → a ≠ b → (TJ3 a).2.1 ≠ (TJ3 b).2.1 := by decide +kernel
theorem tyJ3_ok : ∀ k, k < 0 → parseFieldDescriptor (TJ3 k).2.2.1 = some (tyJ3 k) := by decide +kernel
abbrev cJ3_checkIndex_8e157 : ByteArray := prog_35_method_11_code
def yJ3_checkIndex_8e157 : MethodName := ⟨RJ3, "checkIndex", "(IILjava/util/function/BiFunction;)I"⟩
abbrev cJ3_checkFromToIndex_8c36e : ByteArray := prog_35_method_12_code
def yJ3_checkFromToIndex_8c36e : MethodName := ⟨RJ3, "checkFromToIndex", "(IIILjava/util/function/BiFunction;)I"⟩
def RL : String := "PusherRoomLaw"
abbrev cL_feed : ByteArray := method_3_code
def yL_feed : MethodName := ⟨RL, "feed", "(LPusherRoom;C[J)I"⟩
abbrev cL_readRoom : ByteArray := method_4_code
def yL_readRoom : MethodName := ⟨RL, "readRoom", "(LPusherRoom;[J)I"⟩
abbrev cL_cell : ByteArray := method_5_code
def yL_cell : MethodName := ⟨RL, "cell", "(LPusherRoom;II[J)I"⟩
abbrev cL_cells : ByteArray := method_6_code
def yL_cells : MethodName := ⟨RL, "cells", "(LPusherRoom;I[J)I"⟩
abbrev cL_count : ByteArray := method_7_code
def yL_count : MethodName := ⟨RL, "count", "(LPusherRoom;I[J)I"⟩
abbrev cL_distance : ByteArray := method_8_code
def yL_distance : MethodName := ⟨RL, "distance", "(LPusherRoom;II[J)I"⟩
abbrev cL_bound : ByteArray := method_9_code
def yL_bound : MethodName := ⟨RL, "bound", "(LPusherRoom;[J)I"⟩
abbrev cL_stuck : ByteArray := method_10_code
def yL_stuck : MethodName := ⟨RL, "stuck", "(LPusherRoom;Z[J)I"⟩
abbrev cL_goalRoom : ByteArray := method_11_code
def yL_goalRoom : MethodName := ⟨RL, "goalRoom", "(LPusherRoom;II[J)I"⟩
abbrev cL_step : ByteArray := method_12_code
def yL_step : MethodName := ⟨RL, "step", "(LPusherRoom;I[J)I"⟩
abbrev cL_push : ByteArray := method_13_code
def yL_push : MethodName := ⟨RL, "push", "(LPusherRoom;II[J)I"⟩
abbrev cL_longPush : ByteArray := method_14_code
def yL_longPush : MethodName := ⟨RL, "longPush", "(LPusherRoom;II[J)I"⟩
abbrev cL_play : ByteArray := method_15_code
def yL_play : MethodName := ⟨RL, "play", "(LPusherRoom;[J)I"⟩
abbrev cL_refused : ByteArray := method_16_code
def yL_refused : MethodName := ⟨RL, "refused", "(LPusherRoom;[J)I"⟩
abbrev cL_refusal : ByteArray := method_17_code
def yL_refusal : MethodName := ⟨RL, "refusal", "(LPusherRoom;Z[J)I"⟩
abbrev cL_refuses : ByteArray := method_18_code
def yL_refuses : MethodName := ⟨RL, "refuses", "(LPusherRoom;II[J)I"⟩
abbrev cL_solve : ByteArray := method_19_code
def yL_solve : MethodName := ⟨RL, "solve", "(LPusherRoom;IZ[J)I"⟩
abbrev cL_solution : ByteArray := method_20_code
def yL_solution : MethodName := ⟨RL, "solution", "(LPusherRoom;IZ[J)I"⟩
abbrev cL_finish : ByteArray := method_21_code
def yL_finish : MethodName := ⟨RL, "finish", "(LPusherRoom;I[J)I"⟩
abbrev cL_recorded : ByteArray := method_22_code
def yL_recorded : MethodName := ⟨RL, "recorded", "(LPusherRoom;I[J)I"⟩
abbrev cL_isReplayed : ByteArray := method_23_code
def yL_isReplayed : MethodName := ⟨RL, "isReplayed", "(LPusherRoom;[J)I"⟩
abbrev cL_undo : ByteArray := method_24_code
def yL_undo : MethodName := ⟨RL, "undo", "(LPusherRoom;[J)I"⟩
abbrev cL_saveSnapshot : ByteArray := method_25_code
def yL_saveSnapshot : MethodName := ⟨RL, "saveSnapshot", "(LPusherRoom;[J)I"⟩
abbrev cL_restoreSnapshot : ByteArray := method_26_code
def yL_restoreSnapshot : MethodName := ⟨RL, "restoreSnapshot", "(LPusherRoom;[J)I"⟩
abbrev cL_law : ByteArray := code
def yL_law : MethodName := ⟨RL, "law", "([I)Z"⟩
abbrev vwCl : List vw_C := [(RX0, TX0, 7), (RX1, TX1, 2), (RX2, TX2, 7), (RX3, TX3, 4), (RX4, TX4, 2), (RX5, TX5, 3), (RX6, TX6, 3), (RX7, TX7, 10), (RX8, TX8, 11), (RX9, TX9, 3), (RX10, TX10, 2), (RX11, TX11, 12), (RX12, TX12, 36)]
end
section
/-! THE PLAIN MACHINE, its worlds: cells in two banks (numbers below 100, and from 100 on); a reference in them is a cell's number. 'ad' says at which address a number lies. -/
abbrev mE : Type := (Nat × vp_A) ⊕ (Nat × List Value)
abbrev mW : Type := List mE × List mE
def mget (w : mW) (i : Nat) : Option mE := if i < 100 then w.1[i]? else w.2[i - 100]?
def mset (w : mW) (i : Nat) (c : mE) : mW := if i < 100 then (w.1.set i c, w.2) else (w.1, w.2.set (i - 100) c)
def mcV (ad : Nat → Nat) (v : Value) : Value := match v with
  | .ref i => .ref (ad i)
  | .int x => .int x
  | .long x => .long x
  | .float x => .float x
  | .double x => .double x
  | .null => .null
  | .retAddr x => .retAddr x
theorem mcV_cat (ad : Nat → Nat) (v : Value) : (mcV ad v).category = v.category := by cases v <;> rfl
theorem mcV_cats (ad : Nat → Nat) (st : List Value) : ((st.map (mcV ad)).map fun v => v.category) = st.map fun v => v.category := by
  rw [List.map_map]
  exact List.map_congr_left fun v _ => mcV_cat ad v
def mcE (tA : Nat → ClassId) (ad : Nat → Nat) (c : mE) : va_E := match c with
  | .inl (t, a) => .inl (tA t, a)
  | .inr (ci, fs) => .inr (ci, fs.map (mcV ad))
def mcL (tA : Nat → ClassId) (ad : Nat → Nat) : Nat → List mE → va_W
  | _, [] => []
  | k, c :: t => (ad k, mcE tA ad c) :: mcL tA ad (k + 1) t
def mcW (tA : Nat → ClassId) (ad : Nat → Nat) (w : mW) : va_W := mcL tA ad 0 w.1 ++ mcL tA ad 100 w.2
theorem mcL_len (tA : Nat → ClassId) (ad : Nat → Nat) : ∀ (l : List mE) (k : Nat), (mcL tA ad k l).length = l.length := by
  intro l
  induction l with
  | nil => intro k; rfl
  | cons c t ih => intro k; simp [mcL, ih]
theorem mcL_get (tA : Nat → ClassId) (ad : Nat → Nat) : ∀ (l : List mE) (k i : Nat), (mcL tA ad k l)[i]? = (l[i]?).map (fun c => (ad (k + i), mcE tA ad c)) := by
  intro l
  induction l with
  | nil => intro k i; simp [mcL]
  | cons c t ih =>
    intro k i
    cases i with
    | zero => simp [mcL]
    | succ j =>
      simp only [mcL, List.getElem?_cons_succ, ih]
      rw [show k + 1 + j = k + (j + 1) by omega]
theorem mcL_set (tA : Nat → ClassId) (ad : Nat → Nat) (c : mE) : ∀ (l : List mE) (k i : Nat), mcL tA ad k (l.set i c) = (mcL tA ad k l).set i (ad (k + i), mcE tA ad c) := by
  intro l
  induction l with
  | nil => intro k i; simp [mcL]
  | cons c0 t ih =>
    intro k i
    cases i with
    | zero => simp [mcL]
    | succ j =>
      simp only [mcL, List.set_cons_succ, ih]
      rw [show k + 1 + j = k + (j + 1) by omega]
/-- a cell of the plain world, where it stands among the machine's cells -/
theorem mcW_at (tA : Nat → ClassId) (ad : Nat → Nat) {w : mW} {i : Nat} {c : mE} (h : mget w i = some c) : ∃ q0 : Nat, (mcW tA ad w)[q0]? = some (ad i, mcE tA ad c) ∧ ∀ c' : mE, (mcW tA ad w).set q0 (ad i, mcE tA ad c') = mcW tA ad (mset w i c') := by
  unfold mget at h
  by_cases hi : i < 100
  · rw [if_pos hi] at h
    have hl : i < w.1.length := (List.getElem?_eq_some_iff.mp h).1
    refine ⟨i, ?_, fun c' => ?_⟩
    · unfold mcW
      rw [List.getElem?_append_left (by rw [mcL_len]; exact hl), mcL_get, h]
      simp
    · unfold mcW mset
      rw [if_pos hi, List.set_append, if_pos (by rw [mcL_len]; exact hl)]
      simp [mcL_set]
  · rw [if_neg hi] at h
    refine ⟨w.1.length + (i - 100), ?_, fun c' => ?_⟩
    · unfold mcW
      rw [List.getElem?_append_right (by rw [mcL_len]; omega), mcL_len, show w.1.length + (i - 100) - w.1.length = i - 100 by omega, mcL_get, h]
      simp only [Option.map_some]
      rw [show 100 + (i - 100) = i by omega]
    · unfold mcW mset
      rw [if_neg hi, List.set_append, if_neg (by rw [mcL_len]; omega), mcL_len, show w.1.length + (i - 100) - w.1.length = i - 100 by omega]
      simp only [mcL_set]
      rw [show 100 + (i - 100) = i by omega]
/-! locals -/
def mstF (i : Nat) (v : Value) (j : Nat) (o : Option Value) : Option Value :=
  if j = i then some v else if v.category = 2 ∧ j = i + 1 then none else match o with
    | some u => if j + 1 = i ∧ u.category = 2 then none else some u
    | none => none
def mstR (i : Nat) (v : Value) : Nat → List (Option Value) → List (Option Value)
  | _, [] => []
  | j, o :: t => mstF i v j o :: mstR i v (j + 1) t
def mst (L : List (Option Value)) (i : Nat) (v : Value) : List (Option Value) := mstR i v 0 L
theorem mstR_len (i : Nat) (v : Value) : ∀ (L : List (Option Value)) (j : Nat), (mstR i v j L).length = L.length := by
  intro L
  induction L with
  | nil => intro j; rfl
  | cons o t ih => intro j; simp [mstR, ih]
theorem mstR_get (i : Nat) (v : Value) : ∀ (L : List (Option Value)) (j k : Nat), (mstR i v j L)[k]? = (L[k]?).map (mstF i v (j + k)) := by
  intro L
  induction L with
  | nil => intro j k; simp [mstR]
  | cons o t ih =>
    intro j k
    cases k with
    | zero => simp [mstR]
    | succ n =>
      simp only [mstR, List.getElem?_cons_succ, ih]
      rw [show j + 1 + n = j + (n + 1) by omega]
theorem mst_len (L : List (Option Value)) (i : Nat) (v : Value) : (mst L i v).length = L.length := mstR_len i v L 0
theorem mst_get {L : List (Option Value)} {i j : Nat} {v u : Value} (h : (mst L i v)[j]? = some (some u)) : (j = i ∧ u = v) ∨ (j ≠ i ∧ ¬ (v.category = 2 ∧ j = i + 1) ∧ ¬ (j + 1 = i ∧ u.category = 2) ∧ L[j]? = some (some u)) := by
  unfold mst at h
  rw [mstR_get, Nat.zero_add] at h
  cases hL : L[j]? with
  | none => rw [hL] at h; cases h
  | some o =>
    rw [hL] at h
    have h : mstF i v j o = some u := Option.some.inj h
    unfold mstF at h
    by_cases h1 : j = i
    · rw [if_pos h1] at h
      exact Or.inl ⟨h1, (Option.some.inj h).symm⟩
    · rw [if_neg h1] at h
      by_cases h2 : v.category = 2 ∧ j = i + 1
      · rw [if_pos h2] at h; cases h
      · rw [if_neg h2] at h
        cases o with
        | none => cases h
        | some u' =>
          dsimp only at h
          by_cases h3 : j + 1 = i ∧ u'.category = 2
          · rw [if_pos h3] at h; cases h
          · rw [if_neg h3] at h
            cases h
            exact Or.inr ⟨h1, h2, h3, rfl⟩
def mLs (ad : Nat → Nat) (nL : Nat) (ls : Array Slot) (L : List (Option Value)) : Prop := ls.size = nL ∧ lv_wf ls ∧ L.length = nL ∧ ∀ (i : Nat) (v : Value), L[i]? = some (some v) → ls[i]? = some (.val (mcV ad v))
def mLv (ad : Nat → Nat) (L : List (Option Value)) : List (Nat × Value) := (List.range L.length).filterMap fun i => match L[i]? with
  | some (some v) => some (i, mcV ad v)
  | _ => none
theorem mLv_mem {ad : Nat → Nat} {L : List (Option Value)} {i : Nat} {v : Value} (h : L[i]? = some (some v)) : (i, mcV ad v) ∈ mLv ad L := by
  refine List.mem_filterMap.mpr ⟨i, List.mem_range.mpr (List.getElem?_eq_some_iff.mp h).1, ?_⟩
  rw [h]
theorem mLv_of {ad : Nat → Nat} {L : List (Option Value)} {q : Nat × Value} (h : q ∈ mLv ad L) : ∃ v, L[q.1]? = some (some v) ∧ q.2 = mcV ad v := by
  obtain ⟨i, -, hi⟩ := List.mem_filterMap.mp h
  split at hi
  · rename_i v hv
    cases hi
    exact ⟨v, hv, rfl⟩
  · cases hi
theorem mLs.has {ad : Nat → Nat} {nL : Nat} {ls : Array Slot} {L : List (Option Value)} (h : mLs ad nL ls L) : lv_has ls nL (mLv ad L) := by
  refine ⟨h.1, h.2.1, fun q hq => ?_⟩
  obtain ⟨v, h1, h2⟩ := mLv_of hq
  rw [h2]
  exact h.2.2.2 _ _ h1
theorem mLs.store1 {ad : Nat → Nat} {nL i : Nat} {ls ls' : Array Slot} {L : List (Option Value)} {v : Value} (h : mLs ad nL ls L) (hv : v.category = 1) (hs : lv_has ls' nL ((i, mcV ad v) :: (mLv ad L).filter (fun q => !(q.1 == i) && !(q.1 + 1 == i && q.2.category == 2)))) : mLs ad nL ls' (mst L i v) := by
  refine ⟨hs.1, hs.2.1, by rw [mst_len]; exact h.2.2.1, fun j u hj => ?_⟩
  rcases mst_get hj with ⟨h1, h2⟩ | ⟨h1, h2, h3, h4⟩
  · rw [h1, h2]
    exact hs.2.2 _ List.mem_cons_self
  · refine hs.2.2 (j, mcV ad u) (List.mem_cons_of_mem _ (List.mem_filter.mpr ⟨mLv_mem h4, ?_⟩))
    have e1 : (j == i) = false := by simp [h1]
    have e2 : (j + 1 == i && (mcV ad u).category == 2) = false := by
      rw [mcV_cat]
      simp only [Bool.and_eq_false_iff, beq_eq_false_iff_ne]
      by_cases q : j + 1 = i
      · exact Or.inr fun z => h3 ⟨q, z⟩
      · exact Or.inl q
    show (!(j == i) && !(j + 1 == i && (mcV ad u).category == 2)) = true
    rw [e1, e2]; rfl
theorem mLs.store2 {ad : Nat → Nat} {nL i : Nat} {ls ls' : Array Slot} {L : List (Option Value)} {v : Value} (h : mLs ad nL ls L) (hv : v.category = 2) (hs : lv_has ls' nL ((i, mcV ad v) :: (mLv ad L).filter (fun q => !(q.1 == i) && (!(q.1 == i + 1) && !(q.1 + 1 == i && q.2.category == 2))))) : mLs ad nL ls' (mst L i v) := by
  refine ⟨hs.1, hs.2.1, by rw [mst_len]; exact h.2.2.1, fun j u hj => ?_⟩
  rcases mst_get hj with ⟨h1, h2⟩ | ⟨h1, h2, h3, h4⟩
  · rw [h1, h2]
    exact hs.2.2 _ List.mem_cons_self
  · refine hs.2.2 (j, mcV ad u) (List.mem_cons_of_mem _ (List.mem_filter.mpr ⟨mLv_mem h4, ?_⟩))
    have e1 : (j == i) = false := by simp [h1]
    have e3 : (j == i + 1) = false := by
      simp only [beq_eq_false_iff_ne]
      exact fun z => h2 ⟨hv, z⟩
    have e2 : (j + 1 == i && (mcV ad u).category == 2) = false := by
      rw [mcV_cat]
      simp only [Bool.and_eq_false_iff, beq_eq_false_iff_ne]
      by_cases q : j + 1 = i
      · exact Or.inr fun z => h3 ⟨q, z⟩
      · exact Or.inl q
    show (!(j == i) && (!(j == i + 1) && !(j + 1 == i && (mcV ad u).category == 2))) = true
    rw [e1, e2, e3]; rfl
/-- the locals with which a method begins -/
def mEnt : List Value → List (Option Value)
  | [] => []
  | v :: t => if v.category = 2 then some v :: none :: mEnt t else some v :: mEnt t
theorem mEnt_at (ad : Nat → Nat) : ∀ (vs : List Value) (k i : Nat) (v : Value), (mEnt vs)[i]? = some (some v) → (k + i, mcV ad v) ∈ lv_args k (vs.map (mcV ad)) := by
  intro vs
  induction vs with
  | nil => intro k i v h; simp [mEnt] at h
  | cons u t ih =>
    intro k i v h
    unfold mEnt at h
    simp only [List.map_cons, lv_args, mcV_cat]
    by_cases hc : u.category = 2
    · rw [if_pos hc] at h ⊢
      match i, h with
      | 0, h => cases h; exact List.mem_cons_self
      | 1, h => cases h
      | j + 2, h =>
        have := ih (k + 2) j v h
        rw [show k + 2 + j = k + (j + 2) by omega] at this
        exact List.mem_cons_of_mem _ this
    · rw [if_neg hc] at h ⊢
      match i, h with
      | 0, h => cases h; exact List.mem_cons_self
      | j + 1, h =>
        have := ih (k + 1) j v h
        rw [show k + 1 + j = k + (j + 1) by omega] at this
        exact List.mem_cons_of_mem _ this
theorem lg_sl_len (ad : Nat → Nat) : ∀ vs : List Value, (lg_sl (vs.map (mcV ad))).length = (mEnt vs).length := by
  intro vs
  induction vs with
  | nil => rfl
  | cons v t ih =>
    unfold lg_sl at ih ⊢
    simp only [List.map_cons, List.flatMap_cons, List.length_append, ih, mEnt, mcV_cat]
    by_cases hc : v.category = 2
    · simp [hc]; omega
    · simp [hc]; omega
/-- .. padded to n places -/
def mEnd (vs : List Value) (n : Nat) : List (Option Value) := mEnt vs ++ List.replicate (n - (mEnt vs).length) none
theorem mEnd_ls (ad : Nat → Nat) (vs : List Value) {n : Nat} (h : (mEnt vs).length ≤ n) : mLs ad n ((lg_sl (vs.map (mcV ad)) ++ List.replicate (n - (lg_sl (vs.map (mcV ad))).length) Slot.unset).toArray) (mEnd vs n) := by
  have h0 := lv_entry (vs.map (mcV ad)) (n := n) (by rw [lg_sl_len]; exact h)
  refine ⟨h0.1, h0.2.1, by unfold mEnd; simp; omega, fun i v hi => ?_⟩
  unfold mEnd at hi
  by_cases hl : i < (mEnt vs).length
  · rw [List.getElem?_append_left hl] at hi
    have := mEnt_at ad vs 0 i v hi
    rw [Nat.zero_add] at this
    exact h0.2.2 _ this
  · rw [List.getElem?_append_right (by omega), List.getElem?_replicate] at hi
    split at hi <;> simp at hi
end
section
/-! THE PLAIN MACHINE: methods, what the start says beside the good words, the judgements Go and Rt, Rx -/
def mNest : List (String × Nat × MethodName × String) := [("PusherRoom$RoomText", 68, ⟨"PusherRoom", "bit", "(I)J"⟩, "PusherRoom"), ("PusherRoom$Grid", 40, ⟨"PusherRoom", "bit", "(I)J"⟩, "PusherRoom"), ("PusherRoom$Grid", 61, ⟨"PusherRoom", "opposite", "(I)I"⟩, "PusherRoom"), ("PusherRoom$Game", 85, ⟨"PusherRoom", "has", "(JI)Z"⟩, "PusherRoom"), ("PusherRoom$Position", 33, ⟨"PusherRoom", "bit", "(I)J"⟩, "PusherRoom"), ("PusherRoom$Game", 74, ⟨"PusherRoom", "intAt", "([II)I"⟩, "PusherRoom"), ("PusherRoom$Game", 147, ⟨"PusherRoom", "isPushCode", "(I)Z"⟩, "PusherRoom"), ("PusherRoom$Matching", 36, ⟨"PusherRoom", "has", "(JI)Z"⟩, "PusherRoom"), ("PusherRoom$Matching", 26, ⟨"PusherRoom", "setInt", "([III)V"⟩, "PusherRoom"), ("PusherRoom$Matching", 51, ⟨"PusherRoom", "bit", "(I)J"⟩, "PusherRoom"), ("PusherRoom$Matching", 44, ⟨"PusherRoom", "intAt", "([II)I"⟩, "PusherRoom"), ("PusherRoom$Grid", 71, ⟨"PusherRoom", "lowest", "(J)I"⟩, "PusherRoom"), ("PusherRoom$Layers", 19, ⟨"PusherRoom", "setLong", "([JIJ)V"⟩, "PusherRoom"), ("PusherRoom$Layers", 31, ⟨"PusherRoom", "longAt", "([JI)J"⟩, "PusherRoom"), ("PusherRoom$GoalRooms", 62, ⟨"PusherRoom", "has", "(JI)Z"⟩, "PusherRoom"), ("PusherRoom$Position", 56, ⟨"PusherRoom", "lowest", "(J)I"⟩, "PusherRoom"), ("PusherRoom$History", 37, ⟨"PusherRoom", "setLong", "([JIJ)V"⟩, "PusherRoom"), ("PusherRoom$History", 44, ⟨"PusherRoom", "setInt", "([III)V"⟩, "PusherRoom"), ("PusherRoom$Game", 96, ⟨"PusherRoom", "codeOf", "(IZ)I"⟩, "PusherRoom"), ("PusherRoom$Game", 78, ⟨"PusherRoom", "setInt", "([III)V"⟩, "PusherRoom"), ("PusherRoom$History", 50, ⟨"PusherRoom", "longAt", "([JI)J"⟩, "PusherRoom"), ("PusherRoom$History", 54, ⟨"PusherRoom", "intAt", "([II)I"⟩, "PusherRoom"), ("PusherRoom$Position", 71, ⟨"PusherRoom", "opposite", "(I)I"⟩, "PusherRoom"), ("PusherRoom$Layers", 39, ⟨"PusherRoom", "has", "(JI)Z"⟩, "PusherRoom"), ("PusherRoom$Game", 119, ⟨"PusherRoom", "bit", "(I)J"⟩, "PusherRoom"), ("PusherRoom$Search", 49, ⟨"PusherRoom", "setInt", "([III)V"⟩, "PusherRoom"), ("PusherRoom$Search", 62, ⟨"PusherRoom", "lowest", "(J)I"⟩, "PusherRoom"), ("PusherRoom$Search", 85, ⟨"PusherRoom", "intAt", "([II)I"⟩, "PusherRoom"), ("PusherRoom$Search", 74, ⟨"PusherRoom", "longAt", "([JI)J"⟩, "PusherRoom"), ("PusherRoom$Search", 123, ⟨"PusherRoom", "setLong", "([JIJ)V"⟩, "PusherRoom"), ("PusherRoom$Search", 89, ⟨"PusherRoom", "bit", "(I)J"⟩, "PusherRoom"), ("PusherRoom$Search", 100, ⟨"PusherRoom", "has", "(JI)Z"⟩, "PusherRoom"), ("PusherRoom$Search", 112, ⟨"PusherRoom", "opposite", "(I)I"⟩, "PusherRoom"), ("PusherRoom$Solution", 38, ⟨"PusherRoom", "setInt", "([III)V"⟩, "PusherRoom"), ("PusherRoom$Solution", 45, ⟨"PusherRoom", "intAt", "([II)I"⟩, "PusherRoom"), ("PusherRoom$Game", 150, ⟨"PusherRoom", "directionOf", "(I)I"⟩, "PusherRoom")]
def mStrs : List (String × Nat × String) := [("PusherRoom", 86, "the character's code is not from 32 to 126"), ("PusherRoom", 96, "the input is full"), ("PusherRoom$RoomText", 60, "#-.$*@+"), ("PusherRoom", 117, "the size, the player, the boxes or the goals are not those of a room"), ("PusherRoom", 379, "there is no room"), ("PusherRoom", 148, "there is no such cell"), ("PusherRoom", 187, "there is no such set"), ("PusherRoom", 219, "there is no such count"), ("PusherRoom", 225, "there is no such open cell"), ("PusherRoom", 227, "there is no such goal"), ("PusherRoom", 239, "there is no distance"), ("PusherRoom", 245, "there is no bound"), ("PusherRoom", 250, "the room is not stuck"), ("PusherRoom", 259, "there is no such goal room or place"), ("PusherRoom", 381, "there is no such direction"), ("PusherRoom", 274, "400 steps were recorded"), ("PusherRoom", 290, "the step is refused"), ("PusherRoom", 383, "there is no box on such a cell"), ("PusherRoom", 389, "the push is refused"), ("PusherRoom", 391, "more than 400 steps would be recorded"), ("PusherRoom$TextInput", 23, "urdlURDL"), ("PusherRoom", 417, "urdlURDL"), ("PusherRoom", 324, "a step is refused"), ("PusherRoom", 326, "no step of a text was refused"), ("PusherRoom", 328, "nothing was refused"), ("PusherRoom", 393, "the limit is not from 1 to 1000"), ("PusherRoom", 403, "the search gives up"), ("PusherRoom", 408, "there is no solution"), ("PusherRoom", 342, "there is no such part of a solution"), ("PusherRoom", 353, "there is no such step"), ("PusherRoom", 369, "no command can be undone"), ("PusherRoom", 377, "no snapshot was saved")]
def mNcs : List (String × String) := [("java/lang/ArithmeticException", "java/lang/IllegalArgumentException"), ("java/lang/ArithmeticException", "java/lang/IllegalStateException"), ("java/lang/ArithmeticException", "java/lang/IndexOutOfBoundsException"), ("java/lang/ArithmeticException", "java/lang/UnsupportedOperationException"), ("java/lang/ArithmeticException", "java/util/NoSuchElementException"), ("java/lang/IllegalArgumentException", "java/lang/ArithmeticException"), ("java/lang/IllegalArgumentException", "java/lang/IllegalStateException"), ("java/lang/IllegalArgumentException", "java/lang/IndexOutOfBoundsException"), ("java/lang/IllegalArgumentException", "java/lang/UnsupportedOperationException"), ("java/lang/IllegalArgumentException", "java/util/NoSuchElementException"), ("java/lang/IllegalStateException", "java/lang/ArithmeticException"), ("java/lang/IllegalStateException", "java/lang/IllegalArgumentException"), ("java/lang/IllegalStateException", "java/lang/IndexOutOfBoundsException"), ("java/lang/IllegalStateException", "java/lang/UnsupportedOperationException"), ("java/lang/IllegalStateException", "java/util/NoSuchElementException"), ("java/lang/IndexOutOfBoundsException", "java/lang/ArithmeticException"), ("java/lang/IndexOutOfBoundsException", "java/lang/IllegalArgumentException"), ("java/lang/IndexOutOfBoundsException", "java/lang/IllegalStateException"), ("java/lang/IndexOutOfBoundsException", "java/lang/UnsupportedOperationException"), ("java/lang/IndexOutOfBoundsException", "java/util/NoSuchElementException"), ("java/lang/UnsupportedOperationException", "java/lang/ArithmeticException"), ("java/lang/UnsupportedOperationException", "java/lang/IllegalArgumentException"), ("java/lang/UnsupportedOperationException", "java/lang/IllegalStateException"), ("java/lang/UnsupportedOperationException", "java/lang/IndexOutOfBoundsException"), ("java/lang/UnsupportedOperationException", "java/util/NoSuchElementException"), ("java/util/NoSuchElementException", "java/lang/ArithmeticException"), ("java/util/NoSuchElementException", "java/lang/IllegalArgumentException"), ("java/util/NoSuchElementException", "java/lang/IllegalStateException"), ("java/util/NoSuchElementException", "java/lang/IndexOutOfBoundsException"), ("java/util/NoSuchElementException", "java/lang/UnsupportedOperationException")]
def mDecs : List MethodName := [⟨"java/lang/RuntimeException", "<init>", "()V"⟩, ⟨"java/lang/RuntimeException", "<init>", "(Ljava/lang/String;)V"⟩, ⟨"java/lang/Exception", "<init>", "()V"⟩, ⟨"java/lang/Exception", "<init>", "(Ljava/lang/String;)V"⟩, ⟨"java/lang/Throwable", "<init>", "()V"⟩, ⟨"java/lang/Throwable", "<init>", "(Ljava/lang/String;)V"⟩]
def mCas : List (String × String) := [("java/lang/ArithmeticException", "java/lang/ArithmeticException"), ("java/lang/IllegalArgumentException", "java/lang/IllegalArgumentException"), ("java/lang/IllegalStateException", "java/lang/IllegalStateException"), ("java/lang/IndexOutOfBoundsException", "java/lang/IndexOutOfBoundsException"), ("java/lang/UnsupportedOperationException", "java/lang/UnsupportedOperationException"), ("java/util/NoSuchElementException", "java/util/NoSuchElementException")]
/-- String constants that are more than a text of a throw: class, place, number, bytes; the cell of number j is 1000 + j, its bytes are 1100 + j -/
def mSC : List (String × Nat × Nat × List Int32) := [("PusherRoom$RoomText", 60, 0, [35, 45, 46, 36, 42, 64, 43]), ("PusherRoom$TextInput", 23, 1, [117, 114, 100, 108, 85, 82, 68, 76]), ("PusherRoom", 417, 2, [117, 114, 100, 108, 85, 82, 68, 76])]
abbrev mEnv : Type := Launch × va_G × (Nat → ClassId) × (String → Nat → Addr) × (String → Nat → Addr)
def mAd (E : mEnv) (ad : Nat → Nat) : Prop := ∀ q ∈ mSC, ad (1000 + q.2.2.1) = E.2.2.2.1 q.1 q.2.1 ∧ ad (1100 + q.2.2.1) = E.2.2.2.2 q.1 q.2.1
/-- a method: its name, its bytes, its locals, what it returns, its table, and the room below it: frames, locals -/
abbrev mM : Type := MethodName × ByteArray × Nat × Option FieldType × List (Nat × Nat × Nat × Nat) × Nat × Nat
def mN (y : mM) : MethodName := y.1
def mB (y : mM) : ByteArray := y.2.1
def mL (y : mM) : Nat := y.2.2.1
def mT (y : mM) : Option FieldType := y.2.2.2.1
def mHH (y : mM) : List (Nat × Nat × Nat × Nat) := y.2.2.2.2.1
def mFr (y : mM) : Nat := y.2.2.2.2.2.1
def mLo (y : mM) : Nat := y.2.2.2.2.2.2
def mTBL : List Cond := lw_tbl.filter goodWord
theorem mTBL_of {w : Cond} (h : w ∈ lw_tbl) (g : goodWord w = true) : w ∈ mTBL := List.mem_filter.mpr ⟨h, g⟩
/-- the words of a method (without a table of its own; with one) -/
def mWs (y : mM) : List Cond := .code (mN y) (mB y) (mL y) (mT y) :: mTBL
def mWh (y : mM) : List Cond := .codeWith (mN y) (mB y) (mL y) (mT y) (mHH y) :: mTBL
def mRm (y : mM) (k : Nat) : Room := { frames := mFr y, cells := k, slots := 6 * k, locals := mLo y }
def mTy (tA : Nat → ClassId) : List (ClassId × FieldType) := [(tA 0, .int), (tA 1, .long), (tA 2, .char), (tA 3, .boolean)]
def mSt (E : mEnv) (A : Nat → Prop) (U : State) (H : Heap) : Prop :=
  va_K E.2.1 vwCl (mTy E.2.2.1) U ∧ (∀ q ∈ mNest, va_Nw (.methodLinkNest q.1 q.2.1 q.2.2.1 q.2.2.2) U) ∧ (∀ q ∈ mStrs, vk_R q.1 q.2.1 q.2.2 (E.2.2.2.1 q.1 q.2.1) U) ∧ (∀ q ∈ mNcs, va_Nc q.1 q.2 U) ∧ (∀ q ∈ mDecs, va_Nw (.declares q) U) ∧ (∀ q ∈ mCas, va_Nw (.castable q.1 q.2) U) ∧
  vx_Zq Bundle.tN "UNASSIGNED_STACK" Bundle.steD A U H ∧ vx_Zq Bundle.tN "SUPPRESSED_SENTINEL" Bundle.listD A U H ∧
  (∀ q ∈ mSC, vk_S 1 [q.2.2.2.length] [q.2.2.2] (fun _ => E.2.2.2.1 q.1 q.2.1) (fun _ => E.2.2.2.2 q.1 q.2.1) A U H) ∧ va_Z "java/lang/String" "COMPACT_STRINGS" "Z" (.int 1) A U H
theorem mNw_moved {w : Cond} {u U : State} (hw : w.onTables = true) (he : w.before #[] (u.setVm U.vm) = w.before #[] u) (h : va_Nw w u) : va_Nw w U := va_tabs hw (rfl : (u.setVm U.vm).vm = U.vm) (he.trans h)
theorem mSt.moved {E : mEnv} {A B : Nat → Prop} {u U : State} {H H1 : Heap} (hW : u.WarmedH U.vm) (h : mSt E A u H) (hq' : ∀ a : Nat, a < H.size → ¬ A a → H1[a]? = H[a]?) (hAB : ∀ q, B q → A q) : mSt E B U H1 := by
  obtain ⟨h1, h2, h3, h4, h5, h6, h7, h8, h9, h10⟩ := h
  refine ⟨va_K.moved hW.alike h1, fun q hq => va_Nw.warmM hW (h2 q hq), fun q hq => vk_R.warm hW (h3 q hq), fun q hq => va_Nc.moved hW.alike (h4 q hq), fun q hq => va_Nw.warmD hW (h5 q hq), fun q hq => mNw_moved rfl (Cond.castable_setVm hW.alike _ _) (h6 q hq), ?_, ?_, fun q hq => vk_S.narrow (vk_S.kept (vk_S.moved hW.alike (h9 q hq)) hq') hAB, va_Z.narrow (va_Z.kept (va_Z.moved hW.alike h10) hq') hAB⟩
  · exact vx_Zq.narrow (vx_Zq.kept (vx_Zq.moved hW.alike h7) hq') hAB
  · exact vx_Zq.narrow (vx_Zq.kept (vx_Zq.moved hW.alike h8) hq') hAB
theorem mSt.blind {E : mEnv} {A : Nat → Prop} {U : State} (g : JFrame) (mk : MethodId) (a : Array Value) (h : mSt E A U U.heap) : mSt E A (U.calling g mk a) (U.calling g mk a).heap := by
  obtain ⟨h1, h2, h3, h4, h5, h6, h7, h8, h9, h10⟩ := h
  exact ⟨va_K.moved (Vm.Alike.refl U.vm) h1, fun q hq => va_Nw.same rfl rfl (h2 q hq), fun q hq => vk_R.same rfl (h3 q hq), fun q hq => va_Nc.moved (Vm.Alike.refl U.vm) (h4 q hq), fun q hq => va_Nw.same rfl rfl (h5 q hq), fun q hq => va_Nw.same rfl rfl (h6 q hq), vx_Zq.moved (Vm.Alike.refl U.vm) h7, vx_Zq.moved (Vm.Alike.refl U.vm) h8, fun q hq => vk_S.moved (Vm.Alike.refl U.vm) (h9 q hq), va_Z.moved (Vm.Alike.refl U.vm) h10⟩
/-- a state of the plain machine: the place, locals, stack, world; where a road may end: at a state, with an answer, with a throw -/
abbrev mS : Type := Nat × List (Option Value) × List Value × mW
abbrev mG : Type := mS ⊕ (Option Value × mW) ⊕ (String × mW)
def mRet (i : Instr) (r : Option FieldType) (v : Option Value) : Prop :=
  (i = .ireturn ∧ ∃ ty x, r = some ty ∧ v = some (.int x) ∧ narrow ty (.int x) = .int x) ∨ (i = .lreturn ∧ r = some .long ∧ ∃ x, v = some (.long x)) ∨ (i = .return_ ∧ r = none ∧ v = none)
/-- 'throw new X("text")' stands at pc -/
def mThr (y : mM) (pc : Nat) (X : String) : Prop := ∃ (ik is ic : Nat) (text : String) (names : List String),
  ((decode (mB y) pc = .ok (.new ik, 3) ∧ decode (mB y) (pc + 3) = .ok (.dup, 1) ∧ decode (mB y) (pc + 4) = .ok (.ldc is, 2) ∧ decode (mB y) (pc + 6) = .ok (.invokespecial ic, 3) ∧ decode (mB y) (pc + 9) = .ok (.athrow, 1)) ∨
    (decode (mB y) pc = .ok (.new ik, 3) ∧ decode (mB y) (pc + 3) = .ok (.dup, 1) ∧ decode (mB y) (pc + 4) = .ok (.ldc_w is, 3) ∧ decode (mB y) (pc + 7) = .ok (.invokespecial ic, 3) ∧ decode (mB y) (pc + 10) = .ok (.athrow, 1))) ∧
  Bundle.fit X = true ∧ (∀ n ∈ names, Bundle.fit n = true) ∧ Cond.classLink (mN y).cls ik X ∈ mTBL ∧ Cond.initialized X ∈ mTBL ∧ ((mN y).cls, is, text) ∈ mStrs ∧
  (∀ w ∈ (vx_atS (mN y).cls ic X names).filter goodWord, w ∈ mTBL) ∧ (∀ w ∈ (vx_atS (mN y).cls ic X names).filter (fun w => !goodWord w), (∃ q ∈ mDecs, w = .declares q) ∨ (∃ q ∈ mCas, w = .castable q.1 q.2)) ∧
  (∀ w ∈ Cond.classLink (mN y).cls ik X :: Cond.initialized X :: vx_atS (mN y).cls ic X names, vx_ot w = true) ∧ names.length + 3 < mFr y ∧ 8 + (13 * (names.length + 1) + 43) ≤ mLo y
def mCx (E : mEnv) (y : mM) (ad : Nat → Nat) (p : Program) (R : Room) (s : State) (m : MethodId) (args : Array Value) (meth : Method) (c : Code) (A : Nat → Prop) : Prop :=
  p.tables.exec = Jvm.exec ∧ c.code = mB y ∧ meth.sig.returnType = mT y ∧ c.maxLocals = mL y ∧ s.vm.findClass (mN y).cls = some m.cls ∧ (∀ w ∈ mTBL, w.before args s = true) ∧ meth.locks = false ∧ mFr y ≤ R.frames ∧ mLo y ≤ R.locals ∧ (∀ q : Nat, s.heap.size ≤ q → A q) ∧ mSt E A s s.heap ∧ E.1.stackTraces = false ∧ mAd E ad ∧ (mHH y ≠ [] → c.exceptionTable.toList = tableOf (mHH y))
def mWd (E : mEnv) (ad : Nat → Nat) (s : State) (A : Nat → Prop) (w : mW) (H : Heap) (locs : List Loc) : Prop :=
  va_P E.2.1 vwCl (mcW E.2.2.1 ad w) H ∧ va_D A (mcW E.2.2.1 ad w) ∧ va_S A s.heap H locs
def mAt (E : mEnv) (y : mM) (ad : Nat → Nat) (p : Program) (e : Env) (R : Room) (s : State) (m : MethodId) (args : Array Value) (below : List Frame) (meth : Method) (c : Code) (A : Nat → Prop) (S : mS) (cells slots : Nat) (QQ : State → Prop) : Prop :=
  ∀ (H : Heap) (locs : List Loc) (ls : Array Slot), mWd E ad s A S.2.2.2 H locs → mLs ad (mL y) ls S.2.1 → W p E.1 e R s m args below meth c H locs cells slots QQ (F0 m S.1 ls (S.2.2.1.map (mcV ad)))
def mTo (E : mEnv) (y : mM) (ad : Nat → Nat) (p : Program) (e : Env) (R : Room) (s : State) (m : MethodId) (args : Array Value) (below : List Frame) (meth : Method) (c : Code) (A : Nat → Prop) (G : mG) (cells slots : Nat) (QQ : State → Prop) : Prop := match G with
  | .inl S => mAt E y ad p e R s m args below meth c A S cells slots QQ
  | .inr (.inl (v, w)) => ∀ (H : Heap) (locs : List Loc) (ls : Array Slot) (pc : Nat) (i : Instr), mWd E ad s A w H locs → decode (mB y) pc = .ok (i, 1) → mRet i (mT y) v → W p E.1 e R s m args below meth c H locs cells slots QQ (F0 m pc ls (v.toList.map (mcV ad)))
  | .inr (.inr (X, w)) => (∀ (H : Heap) (locs : List Loc) (ls : Array Slot) (pc : Nat) (st : List Value) (c1 s1 : Nat), mWd E ad s A w H locs → ls.size = mL y → mThr y pc X → (st.map fun v => v.category).sum ≤ 8 → c1 + 1 ≤ cells → s1 + 6 ≤ slots → W p E.1 e R s m args below meth c H locs c1 s1 QQ (F0 m pc ls st)) ∧
      (∀ (H : Heap) (locs : List Loc) (ls : Array Slot) (pc : Nat) (st : List Value) (q : Addr) (ce : Cell), mWd E ad s A w H locs → H[q]? = some ce → ce.vm = .none → s.vm.findClass X = some ce.cls → vx_W p E.1 e R s m args below meth c H locs cells slots QQ (F0 m pc ls st) q)
/-- from S the body of y comes to G, making at most n exceptions on the way -/
def Go (E : mEnv) (y : mM) (n : Nat) (S : mS) (G : mG) : Prop := ∀ (ad : Nat → Nat) (p : Program) (e : Env) (R : Room) (s : State) (m : MethodId) (args : Array Value) (below : List Frame) (meth : Method) (c : Code) (A : Nat → Prop), mCx E y ad p R s m args meth c A → ∀ (cells slots : Nat) (QQ : State → Prop), cells + n ≤ R.cells → slots + 6 * n ≤ R.slots → mTo E y ad p e R s m args below meth c A G (cells + n) (slots + 6 * n) QQ → mAt E y ad p e R s m args below meth c A S cells slots QQ
def mPre (E : mEnv) (ad : Nat → Nat) (w : mW) (sz : Nat) : State → Prop := fun U => U.heap.size = sz ∧ va_P E.2.1 vwCl (mcW E.2.2.1 ad w) U.heap ∧ va_D (fun _ => True) (mcW E.2.2.1 ad w) ∧ mSt E (va_A (mcW E.2.2.1 ad w) sz) U U.heap ∧ mAd E ad
def mQv (E : mEnv) (ad : Nat → Nat) (w : mW) (sz : Nat) (v : Option Value) (w' : mW) : Array Value → State → Outcome → State → Prop := fun _ st o t => o = .returned (v.map (mcV ad)) ∧ va_P E.2.1 vwCl (mcW E.2.2.1 ad w') t.heap ∧ va_D (va_A (mcW E.2.2.1 ad w) sz) (mcW E.2.2.1 ad w') ∧ va_F (va_A (mcW E.2.2.1 ad w) sz) st t
def mXc (E : mEnv) (ad : Nat → Nat) (w : mW) (sz : Nat) (X : String) (w' : mW) : String → State → State → Prop := fun Y st t => Y = X ∧ va_P E.2.1 vwCl (mcW E.2.2.1 ad w') t.heap ∧ va_D (va_A (mcW E.2.2.1 ad w) sz) (mcW E.2.2.1 ad w') ∧ va_F (va_A (mcW E.2.2.1 ad w) sz) st t
/-- the method y on the arguments As in the world w answers v and leaves w', making at most n exceptions; Rh: a method with a table of its own -/
def Rt (E : mEnv) (y : mM) (n : Nat) (As : List Value) (w : mW) (v : Option Value) (w' : mW) : Prop := ∀ (ad : Nat → Nat) (sz : Nat), Met E.1 (mN y) (mWs y) (mRm y n) (va_Pc (As.map (mcV ad)) (mPre E ad w sz)) (mQv E ad w sz v w') n (6 * n) (va_A (mcW E.2.2.1 ad w) sz)
def Rh (E : mEnv) (y : mM) (n : Nat) (As : List Value) (w : mW) (v : Option Value) (w' : mW) : Prop := ∀ (ad : Nat → Nat) (sz : Nat), Met E.1 (mN y) (mWh y) (mRm y n) (va_Pc (As.map (mcV ad)) (mPre E ad w sz)) (mQv E ad w sz v w') n (6 * n) (va_A (mcW E.2.2.1 ad w) sz)
/-- .. it throws an X, leaving w' -/
def Rx (E : mEnv) (y : mM) (As : List Value) (w : mW) (X : String) (w' : mW) : Prop := ∀ (ad : Nat → Nat) (sz : Nat), vx_Met E.1 (mN y) (mWs y) (mRm y 1) (va_Pc (As.map (mcV ad)) (mPre E ad w sz)) (fun _ _ _ _ => False) (mXc E ad w sz X w') 1 6 (va_A (mcW E.2.2.1 ad w) sz)
theorem mPre.blind {E : mEnv} {ad : Nat → Nat} {w : mW} {sz : Nat} {av : List Value} : FrameBlind (va_Pc av (mPre E ad w sz)) := fun a U g mk h => ⟨h.1, h.2.1, h.2.2.1, h.2.2.2.1, h.2.2.2.2.1.blind g mk a, h.2.2.2.2.2⟩
/-- the call's start, out of the caller's state -/
theorem mPre.of {E : mEnv} {ad : Nat → Nat} {y : mM} {p : Program} {R : Room} {s : State} {m : MethodId} {args : Array Value} {meth : Method} {c : Code} {A : Nat → Prop} {w : mW} {H : Heap} {locs : List Loc} (C : mCx E y ad p R s m args meth c A) (hw : mWd E ad s A w H locs) {U : State} (hU : U.heap = H) (hW : s.WarmedH U.vm) : mPre E ad w H.size U := by
  obtain ⟨hP, hD, hS⟩ := hw
  obtain ⟨-, -, -, -, -, -, -, -, -, hA, hst, -, had, -⟩ := C
  have hF : ∀ q, va_A (mcW E.2.2.1 ad w) H.size q → A q := fun q h => by
    rcases h with ⟨k, e, h⟩ | h
    · exact hD.2 k (q, e) h
    · exact hA q (Nat.le_trans hS.1 h)
  refine ⟨by rw [hU], by rw [hU]; exact hP, hD.weaken (fun _ _ _ _ => trivial), ?_, had⟩
  rw [hU]
  exact hst.moved hW (fun a h1 h2 => hS.2.1 a h1 h2) hF
theorem mWd.free {E : mEnv} {ad : Nat → Nat} {s : State} {A : Nat → Prop} {w : mW} {H : Heap} {locs : List Loc} (hA : ∀ q : Nat, s.heap.size ≤ q → A q) (hw : mWd E ad s A w H locs) : ∀ q, va_A (mcW E.2.2.1 ad w) H.size q → A q := fun q h => by
  rcases h with ⟨k, e, h⟩ | h
  · exact hw.2.1.2 k (q, e) h
  · exact hA q (Nat.le_trans hw.2.2.1 h)
theorem mRm_room {y : mM} {n : Nat} {ws : List Cond} : (headSpec ws (mRm y n)).room = mRm y n := rfl
/-- a body that answers -/
theorem Rt.of {E : mEnv} {y : mM} {n : Nat} {As : List Value} {w w' : mW} {v : Option Value} (hl : E.1.stackTraces = false) (h0 : mHH y = []) (hy : plainName (mN y).cls = true) (he : (mEnt As).length ≤ mL y) (h : Go E y n (0, mEnd As (mL y), [], w) (.inr (.inl (v, w')))) : Rt E y n As w v w' := by
  intro ad sz
  refine Met.ofW (cc := mB y) (maxL := mL y) (ret := mT y) hy rfl ?_
  intro p e s m args below meth c s₁ B hml hv
  obtain ⟨rfl, hsz, hP, hD0, hst, had⟩ := hv
  have hts := atoms_spec (ws := mWs y) B.pre
  have hown : s.vm.findClass (mN y).cls = some m.cls := findClass_of_methodNamed B.named
  have hlocks := B.notSynchronized
  subst hsz
  have hD := hD0.self (sz := s.heap.size)
  rw [lg_entry_eq]
  have C : mCx E y ad p (mRm y n) s m (As.map (mcV ad)).toArray meth c (va_A (mcW E.2.2.1 ad w) s.heap.size) := ⟨B.exec, B.bytes, B.returns, hml, hown, fun w h => hts w (List.mem_cons_of_mem _ h), hlocks, Nat.le_refl _, Nat.le_refl _, fun q hq => Or.inr hq, hst, hl, had, fun h => absurd h0 h⟩
  refine h ad p e (mRm y n) s m _ below meth c (va_A (mcW E.2.2.1 ad w) s.heap.size) C 0 0 _ (by show 0 + n ≤ n; omega) (by show 0 + 6 * n ≤ 6 * n; omega) ?_ s.heap [] _ ⟨hP, hD, va_S.rf⟩ (mEnd_ls ad As he)
  intro H locs ls pc i hw hd hr
  rw [Nat.zero_add, Nat.zero_add]
  obtain ⟨qP, qD, qS⟩ := hw
  have fin : ∀ (t : State) (o : Outcome), t.heap = H → o = .returned (v.map (mcV ad)) → mQv E ad w s.heap.size v w' (As.map (mcV ad)).toArray s o t := fun t o ht ho => ⟨ho, by rw [ht]; exact qP, qD, qS.F ht⟩
  rcases hr with ⟨rfl, ty, x, h1, rfl, h3⟩ | ⟨rfl, h1, x, rfl⟩ | ⟨rfl, h1, rfl⟩
  · exact W.zret B.exec B.bytes (B.returns.trans h1) h3 (fun t ht _ => fin t _ ht rfl) qS.2.2 hd hlocks
  · exact W.lret B.exec B.bytes (B.returns.trans h1) (fun t ht _ => fin t _ ht rfl) qS.2.2 hd hlocks
  · exact W.vret B.exec B.bytes (B.returns.trans h1) (fun t ht _ => fin t _ ht rfl) qS.2.2 hd hlocks
end
section
theorem g_iconst {E : mEnv} {y : mM} {n pc : Nat} {L : List (Option Value)} {st : List Value} {w : mW} {G : mG} {i : Int} {v : Int32} (d : decode (mB y) pc = .ok (.iconst i, 1)) (hv : Int32.ofInt i = v) (k : Go E y n (pc + 1, L, .int v :: st, w) G) : Go E y n (pc, L, st, w) G := by
  intro ad p e R s m args below meth c A C cells slots QQ hc hs hT H locs ls hw hl
  exact lv_iconst C.1 C.2.1 d hv (k ad p e R s m args below meth c A C cells slots QQ hc hs hT H locs ls hw hl)
theorem g_bipush {E : mEnv} {y : mM} {n pc : Nat} {L : List (Option Value)} {st : List Value} {w : mW} {G : mG} {i : Int} {v : Int32} (d : decode (mB y) pc = .ok (.bipush i, 2)) (hv : (Int8.ofInt i).toInt32 = v) (k : Go E y n (pc + 2, L, .int v :: st, w) G) : Go E y n (pc, L, st, w) G := by
  intro ad p e R s m args below meth c A C cells slots QQ hc hs hT H locs ls hw hl
  exact lv_bipush C.1 C.2.1 d hv (k ad p e R s m args below meth c A C cells slots QQ hc hs hT H locs ls hw hl)
theorem g_sipush {E : mEnv} {y : mM} {n pc : Nat} {L : List (Option Value)} {st : List Value} {w : mW} {G : mG} {i : Int} {v : Int32} (d : decode (mB y) pc = .ok (.sipush i, 3)) (hv : (Int16.ofInt i).toInt32 = v) (k : Go E y n (pc + 3, L, .int v :: st, w) G) : Go E y n (pc, L, st, w) G := by
  intro ad p e R s m args below meth c A C cells slots QQ hc hs hT H locs ls hw hl
  exact lv_sipush C.1 C.2.1 d hv (k ad p e R s m args below meth c A C cells slots QQ hc hs hT H locs ls hw hl)
theorem g_lconst {E : mEnv} {y : mM} {n pc : Nat} {L : List (Option Value)} {st : List Value} {w : mW} {G : mG} {i : Fin 2} {v : Int64} (d : decode (mB y) pc = .ok (.lconst i, 1)) (hv : Int64.ofNat (i : Nat) = v) (k : Go E y n (pc + 1, L, .long v :: st, w) G) : Go E y n (pc, L, st, w) G := by
  intro ad p e R s m args below meth c A C cells slots QQ hc hs hT H locs ls hw hl
  exact lv_lconst C.1 C.2.1 d hv (k ad p e R s m args below meth c A C cells slots QQ hc hs hT H locs ls hw hl)
theorem g_iload_n {E : mEnv} {y : mM} {n pc : Nat} {L : List (Option Value)} {st : List Value} {w : mW} {G : mG} {i : Fin 4} {x : Int32} (d : decode (mB y) pc = .ok (.iload_n i, 1)) (hk : L[(i : Nat)]? = some (some (.int x))) (k : Go E y n (pc + 1, L, .int x :: st, w) G) : Go E y n (pc, L, st, w) G := by
  intro ad p e R s m args below meth c A C cells slots QQ hc hs hT H locs ls hw hl
  exact lv_iload_n C.1 C.2.1 d rfl (hl.2.2.2 _ _ hk) (k ad p e R s m args below meth c A C cells slots QQ hc hs hT H locs ls hw hl)
theorem g_iload {E : mEnv} {y : mM} {n pc : Nat} {L : List (Option Value)} {st : List Value} {w : mW} {G : mG} {i : Nat} {x : Int32} (d : decode (mB y) pc = .ok (.iload i, 2)) (hk : L[i]? = some (some (.int x))) (k : Go E y n (pc + 2, L, .int x :: st, w) G) : Go E y n (pc, L, st, w) G := by
  intro ad p e R s m args below meth c A C cells slots QQ hc hs hT H locs ls hw hl
  exact lv_iload C.1 C.2.1 d (hl.2.2.2 _ _ hk) (k ad p e R s m args below meth c A C cells slots QQ hc hs hT H locs ls hw hl)
theorem g_lload_n {E : mEnv} {y : mM} {n pc : Nat} {L : List (Option Value)} {st : List Value} {w : mW} {G : mG} {i : Fin 4} {x : Int64} (d : decode (mB y) pc = .ok (.lload_n i, 1)) (hk : L[(i : Nat)]? = some (some (.long x))) (k : Go E y n (pc + 1, L, .long x :: st, w) G) : Go E y n (pc, L, st, w) G := by
  intro ad p e R s m args below meth c A C cells slots QQ hc hs hT H locs ls hw hl
  exact lv_lload_n C.1 C.2.1 d rfl (hl.2.2.2 _ _ hk) (k ad p e R s m args below meth c A C cells slots QQ hc hs hT H locs ls hw hl)
theorem g_lload {E : mEnv} {y : mM} {n pc : Nat} {L : List (Option Value)} {st : List Value} {w : mW} {G : mG} {i : Nat} {x : Int64} (d : decode (mB y) pc = .ok (.lload i, 2)) (hk : L[i]? = some (some (.long x))) (k : Go E y n (pc + 2, L, .long x :: st, w) G) : Go E y n (pc, L, st, w) G := by
  intro ad p e R s m args below meth c A C cells slots QQ hc hs hT H locs ls hw hl
  exact lv_lload C.1 C.2.1 d (hl.2.2.2 _ _ hk) (k ad p e R s m args below meth c A C cells slots QQ hc hs hT H locs ls hw hl)
theorem g_aload_n {E : mEnv} {y : mM} {n pc : Nat} {L : List (Option Value)} {st : List Value} {w : mW} {G : mG} {i : Fin 4} {x : Nat} (d : decode (mB y) pc = .ok (.aload_n i, 1)) (hk : L[(i : Nat)]? = some (some (.ref x))) (k : Go E y n (pc + 1, L, .ref x :: st, w) G) : Go E y n (pc, L, st, w) G := by
  intro ad p e R s m args below meth c A C cells slots QQ hc hs hT H locs ls hw hl
  exact lv_aload_n C.1 C.2.1 d rfl (hl.2.2.2 _ _ hk) (k ad p e R s m args below meth c A C cells slots QQ hc hs hT H locs ls hw hl)
theorem g_aload {E : mEnv} {y : mM} {n pc : Nat} {L : List (Option Value)} {st : List Value} {w : mW} {G : mG} {i : Nat} {x : Nat} (d : decode (mB y) pc = .ok (.aload i, 2)) (hk : L[i]? = some (some (.ref x))) (k : Go E y n (pc + 2, L, .ref x :: st, w) G) : Go E y n (pc, L, st, w) G := by
  intro ad p e R s m args below meth c A C cells slots QQ hc hs hT H locs ls hw hl
  exact lv_aload C.1 C.2.1 d (hl.2.2.2 _ _ hk) (k ad p e R s m args below meth c A C cells slots QQ hc hs hT H locs ls hw hl)
theorem g_istore_n {E : mEnv} {y : mM} {n pc : Nat} {L : List (Option Value)} {st : List Value} {w : mW} {G : mG} {i : Fin 4} {x : Int32} {L' : List (Option Value)} (d : decode (mB y) pc = .ok (.istore_n i, 1)) (hn : Nat.ble ((i : Nat) + 1) L.length = true) (h' : mst L (i : Nat) (.int x) = L') (k : Go E y n (pc + 1, L', st, w) G) : Go E y n (pc, L, .int x :: st, w) G := by
  intro ad p e R s m args below meth c A C cells slots QQ hc hs hT H locs ls hw hl
  subst h'
  exact lv_istore_n (lv := mLv ad L) C.1 C.2.1 d rfl hl.has (by have := Nat.le_of_ble_eq_true hn; have : L.length = mL y := hl.2.2.1; omega) rfl (fun ls' h => k ad p e R s m args below meth c A C cells slots QQ hc hs hT H locs ls' hw (hl.store1 rfl h))
theorem g_istore {E : mEnv} {y : mM} {n pc : Nat} {L : List (Option Value)} {st : List Value} {w : mW} {G : mG} {i : Nat} {x : Int32} {L' : List (Option Value)} (d : decode (mB y) pc = .ok (.istore i, 2)) (hn : Nat.ble (i + 1) L.length = true) (h' : mst L i (.int x) = L') (k : Go E y n (pc + 2, L', st, w) G) : Go E y n (pc, L, .int x :: st, w) G := by
  intro ad p e R s m args below meth c A C cells slots QQ hc hs hT H locs ls hw hl
  subst h'
  exact lv_istore (lv := mLv ad L) C.1 C.2.1 d hl.has (by have := Nat.le_of_ble_eq_true hn; have : L.length = mL y := hl.2.2.1; omega) rfl (fun ls' h => k ad p e R s m args below meth c A C cells slots QQ hc hs hT H locs ls' hw (hl.store1 rfl h))
theorem g_astore_n {E : mEnv} {y : mM} {n pc : Nat} {L : List (Option Value)} {st : List Value} {w : mW} {G : mG} {i : Fin 4} {x : Nat} {L' : List (Option Value)} (d : decode (mB y) pc = .ok (.astore_n i, 1)) (hn : Nat.ble ((i : Nat) + 1) L.length = true) (h' : mst L (i : Nat) (.ref x) = L') (k : Go E y n (pc + 1, L', st, w) G) : Go E y n (pc, L, .ref x :: st, w) G := by
  intro ad p e R s m args below meth c A C cells slots QQ hc hs hT H locs ls hw hl
  subst h'
  exact lv_astore_n (lv := mLv ad L) C.1 C.2.1 d rfl hl.has (by have := Nat.le_of_ble_eq_true hn; have : L.length = mL y := hl.2.2.1; omega) rfl (fun ls' h => k ad p e R s m args below meth c A C cells slots QQ hc hs hT H locs ls' hw (hl.store1 rfl h))
theorem g_astore {E : mEnv} {y : mM} {n pc : Nat} {L : List (Option Value)} {st : List Value} {w : mW} {G : mG} {i : Nat} {x : Nat} {L' : List (Option Value)} (d : decode (mB y) pc = .ok (.astore i, 2)) (hn : Nat.ble (i + 1) L.length = true) (h' : mst L i (.ref x) = L') (k : Go E y n (pc + 2, L', st, w) G) : Go E y n (pc, L, .ref x :: st, w) G := by
  intro ad p e R s m args below meth c A C cells slots QQ hc hs hT H locs ls hw hl
  subst h'
  exact lv_astore (lv := mLv ad L) C.1 C.2.1 d hl.has (by have := Nat.le_of_ble_eq_true hn; have : L.length = mL y := hl.2.2.1; omega) rfl (fun ls' h => k ad p e R s m args below meth c A C cells slots QQ hc hs hT H locs ls' hw (hl.store1 rfl h))
theorem g_lstore_n {E : mEnv} {y : mM} {n pc : Nat} {L : List (Option Value)} {st : List Value} {w : mW} {G : mG} {i : Fin 4} {x : Int64} {L' : List (Option Value)} (d : decode (mB y) pc = .ok (.lstore_n i, 1)) (hn : Nat.ble ((i : Nat) + 2) L.length = true) (h' : mst L (i : Nat) (.long x) = L') (k : Go E y n (pc + 1, L', st, w) G) : Go E y n (pc, L, .long x :: st, w) G := by
  intro ad p e R s m args below meth c A C cells slots QQ hc hs hT H locs ls hw hl
  subst h'
  exact lv_lstore_n (lv := mLv ad L) C.1 C.2.1 d rfl hl.has (by have := Nat.le_of_ble_eq_true hn; have : L.length = mL y := hl.2.2.1; omega) rfl (fun ls' h => k ad p e R s m args below meth c A C cells slots QQ hc hs hT H locs ls' hw (hl.store2 rfl h))
theorem g_lstore {E : mEnv} {y : mM} {n pc : Nat} {L : List (Option Value)} {st : List Value} {w : mW} {G : mG} {i : Nat} {x : Int64} {L' : List (Option Value)} (d : decode (mB y) pc = .ok (.lstore i, 2)) (hn : Nat.ble (i + 2) L.length = true) (h' : mst L i (.long x) = L') (k : Go E y n (pc + 2, L', st, w) G) : Go E y n (pc, L, .long x :: st, w) G := by
  intro ad p e R s m args below meth c A C cells slots QQ hc hs hT H locs ls hw hl
  subst h'
  exact lv_lstore (lv := mLv ad L) C.1 C.2.1 d hl.has (by have := Nat.le_of_ble_eq_true hn; have : L.length = mL y := hl.2.2.1; omega) rfl (fun ls' h => k ad p e R s m args below meth c A C cells slots QQ hc hs hT H locs ls' hw (hl.store2 rfl h))
theorem lv_has.mono {ls : Array Slot} {nL : Nat} {l1 l2 : List (Nat × Value)} (h : lv_has ls nL l1) (hs : ∀ q ∈ l2, q ∈ l1) : lv_has ls nL l2 := ⟨h.1, h.2.1, fun q hq => h.2.2 q (hs q hq)⟩
theorem g_iinc {E : mEnv} {y : mM} {n pc : Nat} {L : List (Option Value)} {st : List Value} {w : mW} {G : mG} {i : Nat} {z : Int} {x v : Int32} {L' : List (Option Value)} (d : decode (mB y) pc = .ok (.iinc i z, 3)) (hk : L[i]? = some (some (.int x))) (hv : x + Int32.ofInt z = v) (h' : mst L i (.int v) = L') (k : Go E y n (pc + 3, L', st, w) G) : Go E y n (pc, L, st, w) G := by
  intro ad p e R s m args below meth c A C cells slots QQ hc hs hT H locs ls hw hl
  subst h'
  have hi : i < mL y := by have := (List.getElem?_eq_some_iff.mp hk).1; have : L.length = mL y := hl.2.2.1; omega
  have h0 : lv_has ls (mL y) ((i, .int x) :: mLv ad L) := ⟨hl.1, hl.2.1, fun q hq => by
    rcases List.mem_cons.mp hq with rfl | hq
    · exact hl.2.2.2 _ _ hk
    · exact hl.has.2.2 q hq⟩
  refine lv_iinc (lv := (i, .int x) :: mLv ad L) (k := 0) C.1 C.2.1 d h0 rfl hv hi rfl (fun ls' h => k ad p e R s m args below meth c A C cells slots QQ hc hs hT H locs ls' hw (hl.store1 (v := .int v) rfl (h.mono fun q hq => ?_)))
  rcases List.mem_cons.mp hq with rfl | hq
  · exact List.mem_cons_self
  · refine List.mem_cons_of_mem _ ?_
    obtain ⟨q1, q2⟩ := List.mem_filter.mp hq
    exact List.mem_filter.mpr ⟨List.mem_cons_of_mem _ q1, q2⟩
theorem g_iadd {E : mEnv} {y : mM} {n pc : Nat} {L : List (Option Value)} {st : List Value} {w : mW} {G : mG} {a b : Int32} (d : decode (mB y) pc = .ok (.iadd, 1)) (k : Go E y n (pc + 1, L, .int (a + b) :: st, w) G) : Go E y n (pc, L, .int b :: .int a :: st, w) G := by
  intro ad p e R s m args below meth c A C cells slots QQ hc hs hT H locs ls hw hl
  exact lv_iadd C.1 C.2.1 d (k ad p e R s m args below meth c A C cells slots QQ hc hs hT H locs ls hw hl)
theorem g_isub {E : mEnv} {y : mM} {n pc : Nat} {L : List (Option Value)} {st : List Value} {w : mW} {G : mG} {a b : Int32} (d : decode (mB y) pc = .ok (.isub, 1)) (k : Go E y n (pc + 1, L, .int (a - b) :: st, w) G) : Go E y n (pc, L, .int b :: .int a :: st, w) G := by
  intro ad p e R s m args below meth c A C cells slots QQ hc hs hT H locs ls hw hl
  exact lv_isub C.1 C.2.1 d (k ad p e R s m args below meth c A C cells slots QQ hc hs hT H locs ls hw hl)
theorem g_imul {E : mEnv} {y : mM} {n pc : Nat} {L : List (Option Value)} {st : List Value} {w : mW} {G : mG} {a b : Int32} (d : decode (mB y) pc = .ok (.imul, 1)) (k : Go E y n (pc + 1, L, .int (a * b) :: st, w) G) : Go E y n (pc, L, .int b :: .int a :: st, w) G := by
  intro ad p e R s m args below meth c A C cells slots QQ hc hs hT H locs ls hw hl
  exact lv_imul C.1 C.2.1 d (k ad p e R s m args below meth c A C cells slots QQ hc hs hT H locs ls hw hl)
theorem g_iand {E : mEnv} {y : mM} {n pc : Nat} {L : List (Option Value)} {st : List Value} {w : mW} {G : mG} {a b : Int32} (d : decode (mB y) pc = .ok (.iand, 1)) (k : Go E y n (pc + 1, L, .int (a &&& b) :: st, w) G) : Go E y n (pc, L, .int b :: .int a :: st, w) G := by
  intro ad p e R s m args below meth c A C cells slots QQ hc hs hT H locs ls hw hl
  exact lv_iand C.1 C.2.1 d (k ad p e R s m args below meth c A C cells slots QQ hc hs hT H locs ls hw hl)
theorem g_ior {E : mEnv} {y : mM} {n pc : Nat} {L : List (Option Value)} {st : List Value} {w : mW} {G : mG} {a b : Int32} (d : decode (mB y) pc = .ok (.ior, 1)) (k : Go E y n (pc + 1, L, .int (a ||| b) :: st, w) G) : Go E y n (pc, L, .int b :: .int a :: st, w) G := by
  intro ad p e R s m args below meth c A C cells slots QQ hc hs hT H locs ls hw hl
  exact lv_ior C.1 C.2.1 d (k ad p e R s m args below meth c A C cells slots QQ hc hs hT H locs ls hw hl)
theorem g_ixor {E : mEnv} {y : mM} {n pc : Nat} {L : List (Option Value)} {st : List Value} {w : mW} {G : mG} {a b : Int32} (d : decode (mB y) pc = .ok (.ixor, 1)) (k : Go E y n (pc + 1, L, .int (a ^^^ b) :: st, w) G) : Go E y n (pc, L, .int b :: .int a :: st, w) G := by
  intro ad p e R s m args below meth c A C cells slots QQ hc hs hT H locs ls hw hl
  exact lv_ixor C.1 C.2.1 d (k ad p e R s m args below meth c A C cells slots QQ hc hs hT H locs ls hw hl)
theorem g_ladd {E : mEnv} {y : mM} {n pc : Nat} {L : List (Option Value)} {st : List Value} {w : mW} {G : mG} {a b : Int64} (d : decode (mB y) pc = .ok (.ladd, 1)) (k : Go E y n (pc + 1, L, .long (a + b) :: st, w) G) : Go E y n (pc, L, .long b :: .long a :: st, w) G := by
  intro ad p e R s m args below meth c A C cells slots QQ hc hs hT H locs ls hw hl
  exact lv_ladd C.1 C.2.1 d (k ad p e R s m args below meth c A C cells slots QQ hc hs hT H locs ls hw hl)
theorem g_lsub {E : mEnv} {y : mM} {n pc : Nat} {L : List (Option Value)} {st : List Value} {w : mW} {G : mG} {a b : Int64} (d : decode (mB y) pc = .ok (.lsub, 1)) (k : Go E y n (pc + 1, L, .long (a - b) :: st, w) G) : Go E y n (pc, L, .long b :: .long a :: st, w) G := by
  intro ad p e R s m args below meth c A C cells slots QQ hc hs hT H locs ls hw hl
  exact lv_lsub C.1 C.2.1 d (k ad p e R s m args below meth c A C cells slots QQ hc hs hT H locs ls hw hl)
theorem g_lmul {E : mEnv} {y : mM} {n pc : Nat} {L : List (Option Value)} {st : List Value} {w : mW} {G : mG} {a b : Int64} (d : decode (mB y) pc = .ok (.lmul, 1)) (k : Go E y n (pc + 1, L, .long (a * b) :: st, w) G) : Go E y n (pc, L, .long b :: .long a :: st, w) G := by
  intro ad p e R s m args below meth c A C cells slots QQ hc hs hT H locs ls hw hl
  exact lv_lmul C.1 C.2.1 d (k ad p e R s m args below meth c A C cells slots QQ hc hs hT H locs ls hw hl)
theorem g_land {E : mEnv} {y : mM} {n pc : Nat} {L : List (Option Value)} {st : List Value} {w : mW} {G : mG} {a b : Int64} (d : decode (mB y) pc = .ok (.land, 1)) (k : Go E y n (pc + 1, L, .long (a &&& b) :: st, w) G) : Go E y n (pc, L, .long b :: .long a :: st, w) G := by
  intro ad p e R s m args below meth c A C cells slots QQ hc hs hT H locs ls hw hl
  exact lv_land C.1 C.2.1 d (k ad p e R s m args below meth c A C cells slots QQ hc hs hT H locs ls hw hl)
theorem g_lor {E : mEnv} {y : mM} {n pc : Nat} {L : List (Option Value)} {st : List Value} {w : mW} {G : mG} {a b : Int64} (d : decode (mB y) pc = .ok (.lor, 1)) (k : Go E y n (pc + 1, L, .long (a ||| b) :: st, w) G) : Go E y n (pc, L, .long b :: .long a :: st, w) G := by
  intro ad p e R s m args below meth c A C cells slots QQ hc hs hT H locs ls hw hl
  exact lv_lor C.1 C.2.1 d (k ad p e R s m args below meth c A C cells slots QQ hc hs hT H locs ls hw hl)
theorem g_lxor {E : mEnv} {y : mM} {n pc : Nat} {L : List (Option Value)} {st : List Value} {w : mW} {G : mG} {a b : Int64} (d : decode (mB y) pc = .ok (.lxor, 1)) (k : Go E y n (pc + 1, L, .long (a ^^^ b) :: st, w) G) : Go E y n (pc, L, .long b :: .long a :: st, w) G := by
  intro ad p e R s m args below meth c A C cells slots QQ hc hs hT H locs ls hw hl
  exact lv_lxor C.1 C.2.1 d (k ad p e R s m args below meth c A C cells slots QQ hc hs hT H locs ls hw hl)
theorem g_idiv {E : mEnv} {y : mM} {n pc : Nat} {L : List (Option Value)} {st : List Value} {w : mW} {G : mG} {a b : Int32} (d : decode (mB y) pc = .ok (.idiv, 1)) (hb : ¬ b = 0) (k : Go E y n (pc + 1, L, .int (a / b) :: st, w) G) : Go E y n (pc, L, .int b :: .int a :: st, w) G := by
  intro ad p e R s m args below meth c A C cells slots QQ hc hs hT H locs ls hw hl
  exact lv_idiv C.1 C.2.1 d hb (k ad p e R s m args below meth c A C cells slots QQ hc hs hT H locs ls hw hl)
theorem g_irem {E : mEnv} {y : mM} {n pc : Nat} {L : List (Option Value)} {st : List Value} {w : mW} {G : mG} {a b : Int32} (d : decode (mB y) pc = .ok (.irem, 1)) (hb : ¬ b = 0) (k : Go E y n (pc + 1, L, .int (a - a / b * b) :: st, w) G) : Go E y n (pc, L, .int b :: .int a :: st, w) G := by
  intro ad p e R s m args below meth c A C cells slots QQ hc hs hT H locs ls hw hl
  exact lv_irem C.1 C.2.1 d hb (k ad p e R s m args below meth c A C cells slots QQ hc hs hT H locs ls hw hl)
theorem g_lneg {E : mEnv} {y : mM} {n pc : Nat} {L : List (Option Value)} {st : List Value} {w : mW} {G : mG} {a : Int64} (d : decode (mB y) pc = .ok (.lneg, 1)) (k : Go E y n (pc + 1, L, .long (-a) :: st, w) G) : Go E y n (pc, L, .long a :: st, w) G := by
  intro ad p e R s m args below meth c A C cells slots QQ hc hs hT H locs ls hw hl
  exact lv_lneg C.1 C.2.1 d (k ad p e R s m args below meth c A C cells slots QQ hc hs hT H locs ls hw hl)
theorem g_ineg {E : mEnv} {y : mM} {n pc : Nat} {L : List (Option Value)} {st : List Value} {w : mW} {G : mG} {a : Int32} (d : decode (mB y) pc = .ok (.ineg, 1)) (k : Go E y n (pc + 1, L, .int (-a) :: st, w) G) : Go E y n (pc, L, .int a :: st, w) G := by
  intro ad p e R s m args below meth c A C cells slots QQ hc hs hT H locs ls hw hl
  exact lv_ineg C.1 C.2.1 d (k ad p e R s m args below meth c A C cells slots QQ hc hs hT H locs ls hw hl)
theorem g_ishl {E : mEnv} {y : mM} {n pc : Nat} {L : List (Option Value)} {st : List Value} {w : mW} {G : mG} {a b : Int32} (d : decode (mB y) pc = .ok (.ishl, 1)) (k : Go E y n (pc + 1, L, .int (a <<< (b &&& 31)) :: st, w) G) : Go E y n (pc, L, .int b :: .int a :: st, w) G := by
  intro ad p e R s m args below meth c A C cells slots QQ hc hs hT H locs ls hw hl
  exact lv_ishl C.1 C.2.1 d (k ad p e R s m args below meth c A C cells slots QQ hc hs hT H locs ls hw hl)
theorem g_ishr {E : mEnv} {y : mM} {n pc : Nat} {L : List (Option Value)} {st : List Value} {w : mW} {G : mG} {a b : Int32} (d : decode (mB y) pc = .ok (.ishr, 1)) (k : Go E y n (pc + 1, L, .int (a >>> (b &&& 31)) :: st, w) G) : Go E y n (pc, L, .int b :: .int a :: st, w) G := by
  intro ad p e R s m args below meth c A C cells slots QQ hc hs hT H locs ls hw hl
  exact lv_ishr C.1 C.2.1 d (k ad p e R s m args below meth c A C cells slots QQ hc hs hT H locs ls hw hl)
theorem g_lushr {E : mEnv} {y : mM} {n pc : Nat} {L : List (Option Value)} {st : List Value} {w : mW} {G : mG} {a v : Int64} {b : Int32} (d : decode (mB y) pc = .ok (.lushr, 1)) (hv : (a.toUInt64 >>> (b.toInt64.toUInt64 &&& Int64.toUInt64 63)).toInt64 = v) (k : Go E y n (pc + 1, L, .long v :: st, w) G) : Go E y n (pc, L, .int b :: .long a :: st, w) G := by
  intro ad p e R s m args below meth c A C cells slots QQ hc hs hT H locs ls hw hl
  exact lv_lushr C.1 C.2.1 d hv (k ad p e R s m args below meth c A C cells slots QQ hc hs hT H locs ls hw hl)
theorem g_lshl {E : mEnv} {y : mM} {n pc : Nat} {L : List (Option Value)} {st : List Value} {w : mW} {G : mG} {a v : Int64} {b : Int32} (d : decode (mB y) pc = .ok (.lshl, 1)) (hv : a <<< (b.toInt64 &&& 63) = v) (k : Go E y n (pc + 1, L, .long v :: st, w) G) : Go E y n (pc, L, .int b :: .long a :: st, w) G := by
  intro ad p e R s m args below meth c A C cells slots QQ hc hs hT H locs ls hw hl
  exact lv_lshl C.1 C.2.1 d hv (k ad p e R s m args below meth c A C cells slots QQ hc hs hT H locs ls hw hl)
theorem g_lshr {E : mEnv} {y : mM} {n pc : Nat} {L : List (Option Value)} {st : List Value} {w : mW} {G : mG} {a v : Int64} {b : Int32} (d : decode (mB y) pc = .ok (.lshr, 1)) (hv : a >>> (b.toInt64 &&& 63) = v) (k : Go E y n (pc + 1, L, .long v :: st, w) G) : Go E y n (pc, L, .int b :: .long a :: st, w) G := by
  intro ad p e R s m args below meth c A C cells slots QQ hc hs hT H locs ls hw hl
  exact lv_lshr C.1 C.2.1 d hv (k ad p e R s m args below meth c A C cells slots QQ hc hs hT H locs ls hw hl)
theorem g_i2l {E : mEnv} {y : mM} {n pc : Nat} {L : List (Option Value)} {st : List Value} {w : mW} {G : mG} {a : Int32} (d : decode (mB y) pc = .ok (.i2l, 1)) (k : Go E y n (pc + 1, L, .long a.toInt64 :: st, w) G) : Go E y n (pc, L, .int a :: st, w) G := by
  intro ad p e R s m args below meth c A C cells slots QQ hc hs hT H locs ls hw hl
  exact lv_i2l C.1 C.2.1 d rfl (k ad p e R s m args below meth c A C cells slots QQ hc hs hT H locs ls hw hl)
theorem g_l2i {E : mEnv} {y : mM} {n pc : Nat} {L : List (Option Value)} {st : List Value} {w : mW} {G : mG} {a : Int64} (d : decode (mB y) pc = .ok (.l2i, 1)) (k : Go E y n (pc + 1, L, .int a.toInt32 :: st, w) G) : Go E y n (pc, L, .long a :: st, w) G := by
  intro ad p e R s m args below meth c A C cells slots QQ hc hs hT H locs ls hw hl
  exact lv_l2i C.1 C.2.1 d rfl (k ad p e R s m args below meth c A C cells slots QQ hc hs hT H locs ls hw hl)
theorem g_i2c {E : mEnv} {y : mM} {n pc : Nat} {L : List (Option Value)} {st : List Value} {w : mW} {G : mG} {a : Int32} (d : decode (mB y) pc = .ok (.i2c, 1)) (k : Go E y n (pc + 1, L, .int (a.toUInt32 % 65536).toInt32 :: st, w) G) : Go E y n (pc, L, .int a :: st, w) G := by
  intro ad p e R s m args below meth c A C cells slots QQ hc hs hT H locs ls hw hl
  exact lv_i2c C.1 C.2.1 d rfl (k ad p e R s m args below meth c A C cells slots QQ hc hs hT H locs ls hw hl)
theorem g_lcmp {E : mEnv} {y : mM} {n pc : Nat} {L : List (Option Value)} {st : List Value} {w : mW} {G : mG} {a b : Int64} (d : decode (mB y) pc = .ok (.lcmp, 1)) (k : Go E y n (pc + 1, L, .int (lg_cmp a b) :: st, w) G) : Go E y n (pc, L, .long b :: .long a :: st, w) G := by
  intro ad p e R s m args below meth c A C cells slots QQ hc hs hT H locs ls hw hl
  exact W.lcmp C.1 C.2.1 d (k ad p e R s m args below meth c A C cells slots QQ hc hs hT H locs ls hw hl)
theorem g_dup {E : mEnv} {y : mM} {n pc : Nat} {L : List (Option Value)} {st : List Value} {w : mW} {G : mG} {v : Value} (d : decode (mB y) pc = .ok (.dup, 1)) (hv : v.category = 1) (k : Go E y n (pc + 1, L, v :: v :: st, w) G) : Go E y n (pc, L, v :: st, w) G := by
  intro ad p e R s m args below meth c A C cells slots QQ hc hs hT H locs ls hw hl
  exact lv_dup C.1 C.2.1 d ((mcV_cat ad v).trans hv) (k ad p e R s m args below meth c A C cells slots QQ hc hs hT H locs ls hw hl)
theorem g_pop {E : mEnv} {y : mM} {n pc : Nat} {L : List (Option Value)} {st : List Value} {w : mW} {G : mG} {v : Value} (d : decode (mB y) pc = .ok (.pop, 1)) (hv : v.category = 1) (k : Go E y n (pc + 1, L, st, w) G) : Go E y n (pc, L, v :: st, w) G := by
  intro ad p e R s m args below meth c A C cells slots QQ hc hs hT H locs ls hw hl
  exact lv_pop C.1 C.2.1 d ((mcV_cat ad v).trans hv) (k ad p e R s m args below meth c A C cells slots QQ hc hs hT H locs ls hw hl)
theorem g_dup2_11 {E : mEnv} {y : mM} {n pc : Nat} {L : List (Option Value)} {st : List Value} {w : mW} {G : mG} {u v : Value} (d : decode (mB y) pc = .ok (.dup2, 1)) (hu : u.category = 1) (hv : v.category = 1) (k : Go E y n (pc + 1, L, u :: v :: u :: v :: st, w) G) : Go E y n (pc, L, u :: v :: st, w) G := by
  intro ad p e R s m args below meth c A C cells slots QQ hc hs hT H locs ls hw hl
  exact lv_dup2_11 C.1 C.2.1 d ((mcV_cat ad u).trans hu) ((mcV_cat ad v).trans hv) (k ad p e R s m args below meth c A C cells slots QQ hc hs hT H locs ls hw hl)
theorem g_if_eq {E : mEnv} {y : mM} {n pc : Nat} {L : List (Option Value)} {st : List Value} {w : mW} {G : mG} {x : Int32} {off : Int} {tgt : Nat} (d : decode (mB y) pc = .ok (.ifCond .eq off, 3)) (ht : (pc : Int) + off = (tgt : Int)) (kt : x = 0 → Go E y n (tgt, L, st, w) G) (kf : ¬ x = 0 → Go E y n (pc + 3, L, st, w) G) : Go E y n (pc, L, .int x :: st, w) G := by
  intro ad p e R s m args below meth c A C cells slots QQ hc hs hT H locs ls hw hl
  exact lv_if_eq C.1 C.2.1 d ht (fun h => kt h ad p e R s m args below meth c A C cells slots QQ hc hs hT H locs ls hw hl) (fun h => kf h ad p e R s m args below meth c A C cells slots QQ hc hs hT H locs ls hw hl)
theorem g_if_ne {E : mEnv} {y : mM} {n pc : Nat} {L : List (Option Value)} {st : List Value} {w : mW} {G : mG} {x : Int32} {off : Int} {tgt : Nat} (d : decode (mB y) pc = .ok (.ifCond .ne off, 3)) (ht : (pc : Int) + off = (tgt : Int)) (kt : ¬ x = 0 → Go E y n (tgt, L, st, w) G) (kf : x = 0 → Go E y n (pc + 3, L, st, w) G) : Go E y n (pc, L, .int x :: st, w) G := by
  intro ad p e R s m args below meth c A C cells slots QQ hc hs hT H locs ls hw hl
  exact lv_if_ne C.1 C.2.1 d ht (fun h => kt h ad p e R s m args below meth c A C cells slots QQ hc hs hT H locs ls hw hl) (fun h => kf h ad p e R s m args below meth c A C cells slots QQ hc hs hT H locs ls hw hl)
theorem g_if_lt {E : mEnv} {y : mM} {n pc : Nat} {L : List (Option Value)} {st : List Value} {w : mW} {G : mG} {x : Int32} {off : Int} {tgt : Nat} (d : decode (mB y) pc = .ok (.ifCond .lt off, 3)) (ht : (pc : Int) + off = (tgt : Int)) (kt : x < 0 → Go E y n (tgt, L, st, w) G) (kf : ¬ x < 0 → Go E y n (pc + 3, L, st, w) G) : Go E y n (pc, L, .int x :: st, w) G := by
  intro ad p e R s m args below meth c A C cells slots QQ hc hs hT H locs ls hw hl
  exact lv_if_lt C.1 C.2.1 d ht (fun h => kt h ad p e R s m args below meth c A C cells slots QQ hc hs hT H locs ls hw hl) (fun h => kf h ad p e R s m args below meth c A C cells slots QQ hc hs hT H locs ls hw hl)
theorem g_if_ge {E : mEnv} {y : mM} {n pc : Nat} {L : List (Option Value)} {st : List Value} {w : mW} {G : mG} {x : Int32} {off : Int} {tgt : Nat} (d : decode (mB y) pc = .ok (.ifCond .ge off, 3)) (ht : (pc : Int) + off = (tgt : Int)) (kt : 0 ≤ x → Go E y n (tgt, L, st, w) G) (kf : ¬ 0 ≤ x → Go E y n (pc + 3, L, st, w) G) : Go E y n (pc, L, .int x :: st, w) G := by
  intro ad p e R s m args below meth c A C cells slots QQ hc hs hT H locs ls hw hl
  exact lv_if_ge C.1 C.2.1 d ht (fun h => kt h ad p e R s m args below meth c A C cells slots QQ hc hs hT H locs ls hw hl) (fun h => kf h ad p e R s m args below meth c A C cells slots QQ hc hs hT H locs ls hw hl)
theorem g_if_gt {E : mEnv} {y : mM} {n pc : Nat} {L : List (Option Value)} {st : List Value} {w : mW} {G : mG} {x : Int32} {off : Int} {tgt : Nat} (d : decode (mB y) pc = .ok (.ifCond .gt off, 3)) (ht : (pc : Int) + off = (tgt : Int)) (kt : 0 < x → Go E y n (tgt, L, st, w) G) (kf : ¬ 0 < x → Go E y n (pc + 3, L, st, w) G) : Go E y n (pc, L, .int x :: st, w) G := by
  intro ad p e R s m args below meth c A C cells slots QQ hc hs hT H locs ls hw hl
  exact lv_if_gt C.1 C.2.1 d ht (fun h => kt h ad p e R s m args below meth c A C cells slots QQ hc hs hT H locs ls hw hl) (fun h => kf h ad p e R s m args below meth c A C cells slots QQ hc hs hT H locs ls hw hl)
theorem g_if_le {E : mEnv} {y : mM} {n pc : Nat} {L : List (Option Value)} {st : List Value} {w : mW} {G : mG} {x : Int32} {off : Int} {tgt : Nat} (d : decode (mB y) pc = .ok (.ifCond .le off, 3)) (ht : (pc : Int) + off = (tgt : Int)) (kt : x ≤ 0 → Go E y n (tgt, L, st, w) G) (kf : ¬ x ≤ 0 → Go E y n (pc + 3, L, st, w) G) : Go E y n (pc, L, .int x :: st, w) G := by
  intro ad p e R s m args below meth c A C cells slots QQ hc hs hT H locs ls hw hl
  exact lv_if_le C.1 C.2.1 d ht (fun h => kt h ad p e R s m args below meth c A C cells slots QQ hc hs hT H locs ls hw hl) (fun h => kf h ad p e R s m args below meth c A C cells slots QQ hc hs hT H locs ls hw hl)
theorem g_icmp_eq {E : mEnv} {y : mM} {n pc : Nat} {L : List (Option Value)} {st : List Value} {w : mW} {G : mG} {a b : Int32} {off : Int} {tgt : Nat} (d : decode (mB y) pc = .ok (.if_icmp .eq off, 3)) (ht : (pc : Int) + off = (tgt : Int)) (kt : a = b → Go E y n (tgt, L, st, w) G) (kf : ¬ a = b → Go E y n (pc + 3, L, st, w) G) : Go E y n (pc, L, .int b :: .int a :: st, w) G := by
  intro ad p e R s m args below meth c A C cells slots QQ hc hs hT H locs ls hw hl
  exact lv_icmp_eq C.1 C.2.1 d ht (fun h => kt h ad p e R s m args below meth c A C cells slots QQ hc hs hT H locs ls hw hl) (fun h => kf h ad p e R s m args below meth c A C cells slots QQ hc hs hT H locs ls hw hl)
theorem g_icmp_ne {E : mEnv} {y : mM} {n pc : Nat} {L : List (Option Value)} {st : List Value} {w : mW} {G : mG} {a b : Int32} {off : Int} {tgt : Nat} (d : decode (mB y) pc = .ok (.if_icmp .ne off, 3)) (ht : (pc : Int) + off = (tgt : Int)) (kt : ¬ a = b → Go E y n (tgt, L, st, w) G) (kf : a = b → Go E y n (pc + 3, L, st, w) G) : Go E y n (pc, L, .int b :: .int a :: st, w) G := by
  intro ad p e R s m args below meth c A C cells slots QQ hc hs hT H locs ls hw hl
  exact lv_icmp_ne C.1 C.2.1 d ht (fun h => kt h ad p e R s m args below meth c A C cells slots QQ hc hs hT H locs ls hw hl) (fun h => kf h ad p e R s m args below meth c A C cells slots QQ hc hs hT H locs ls hw hl)
theorem g_icmp_lt {E : mEnv} {y : mM} {n pc : Nat} {L : List (Option Value)} {st : List Value} {w : mW} {G : mG} {a b : Int32} {off : Int} {tgt : Nat} (d : decode (mB y) pc = .ok (.if_icmp .lt off, 3)) (ht : (pc : Int) + off = (tgt : Int)) (kt : a < b → Go E y n (tgt, L, st, w) G) (kf : ¬ a < b → Go E y n (pc + 3, L, st, w) G) : Go E y n (pc, L, .int b :: .int a :: st, w) G := by
  intro ad p e R s m args below meth c A C cells slots QQ hc hs hT H locs ls hw hl
  exact lv_icmp_lt C.1 C.2.1 d ht (fun h => kt h ad p e R s m args below meth c A C cells slots QQ hc hs hT H locs ls hw hl) (fun h => kf h ad p e R s m args below meth c A C cells slots QQ hc hs hT H locs ls hw hl)
theorem g_icmp_ge {E : mEnv} {y : mM} {n pc : Nat} {L : List (Option Value)} {st : List Value} {w : mW} {G : mG} {a b : Int32} {off : Int} {tgt : Nat} (d : decode (mB y) pc = .ok (.if_icmp .ge off, 3)) (ht : (pc : Int) + off = (tgt : Int)) (kt : b ≤ a → Go E y n (tgt, L, st, w) G) (kf : ¬ b ≤ a → Go E y n (pc + 3, L, st, w) G) : Go E y n (pc, L, .int b :: .int a :: st, w) G := by
  intro ad p e R s m args below meth c A C cells slots QQ hc hs hT H locs ls hw hl
  exact lv_icmp_ge C.1 C.2.1 d ht (fun h => kt h ad p e R s m args below meth c A C cells slots QQ hc hs hT H locs ls hw hl) (fun h => kf h ad p e R s m args below meth c A C cells slots QQ hc hs hT H locs ls hw hl)
theorem g_icmp_gt {E : mEnv} {y : mM} {n pc : Nat} {L : List (Option Value)} {st : List Value} {w : mW} {G : mG} {a b : Int32} {off : Int} {tgt : Nat} (d : decode (mB y) pc = .ok (.if_icmp .gt off, 3)) (ht : (pc : Int) + off = (tgt : Int)) (kt : b < a → Go E y n (tgt, L, st, w) G) (kf : ¬ b < a → Go E y n (pc + 3, L, st, w) G) : Go E y n (pc, L, .int b :: .int a :: st, w) G := by
  intro ad p e R s m args below meth c A C cells slots QQ hc hs hT H locs ls hw hl
  exact lv_icmp_gt C.1 C.2.1 d ht (fun h => kt h ad p e R s m args below meth c A C cells slots QQ hc hs hT H locs ls hw hl) (fun h => kf h ad p e R s m args below meth c A C cells slots QQ hc hs hT H locs ls hw hl)
theorem g_icmp_le {E : mEnv} {y : mM} {n pc : Nat} {L : List (Option Value)} {st : List Value} {w : mW} {G : mG} {a b : Int32} {off : Int} {tgt : Nat} (d : decode (mB y) pc = .ok (.if_icmp .le off, 3)) (ht : (pc : Int) + off = (tgt : Int)) (kt : a ≤ b → Go E y n (tgt, L, st, w) G) (kf : ¬ a ≤ b → Go E y n (pc + 3, L, st, w) G) : Go E y n (pc, L, .int b :: .int a :: st, w) G := by
  intro ad p e R s m args below meth c A C cells slots QQ hc hs hT H locs ls hw hl
  exact lv_icmp_le C.1 C.2.1 d ht (fun h => kt h ad p e R s m args below meth c A C cells slots QQ hc hs hT H locs ls hw hl) (fun h => kf h ad p e R s m args below meth c A C cells slots QQ hc hs hT H locs ls hw hl)
theorem g_goto {E : mEnv} {y : mM} {n pc : Nat} {L : List (Option Value)} {st : List Value} {w : mW} {G : mG} {off : Int} {tgt : Nat} (d : decode (mB y) pc = .ok (.goto off, 3)) (ht : (pc : Int) + off = (tgt : Int)) (k : Go E y n (tgt, L, st, w) G) : Go E y n (pc, L, st, w) G := by
  intro ad p e R s m args below meth c A C cells slots QQ hc hs hT H locs ls hw hl
  exact lv_goto C.1 C.2.1 d ht (k ad p e R s m args below meth c A C cells slots QQ hc hs hT H locs ls hw hl)
theorem g_tabOut {E : mEnv} {y : mM} {n pc : Nat} {L : List (Option Value)} {st : List Value} {w : mW} {G : mG} {dflt lo hi : Int} {offs : Array Int} {len : Nat} {x : Int32} {tgt : Nat} (d : decode (mB y) pc = .ok (.tableswitch dflt lo hi offs, len)) (h : x.toInt < lo ∨ hi < x.toInt) (ht : (pc : Int) + dflt = (tgt : Int)) (k : Go E y n (tgt, L, st, w) G) : Go E y n (pc, L, .int x :: st, w) G := by
  intro ad p e R s m args below meth c A C cells slots QQ hc hs hT H locs ls hw hl
  exact lv_tableOut C.1 C.2.1 d h ht (k ad p e R s m args below meth c A C cells slots QQ hc hs hT H locs ls hw hl)
theorem g_tabIn {E : mEnv} {y : mM} {n pc : Nat} {L : List (Option Value)} {st : List Value} {w : mW} {G : mG} {dflt lo hi off : Int} {offs : Array Int} {len : Nat} {x : Int32} {tgt : Nat} (d : decode (mB y) pc = .ok (.tableswitch dflt lo hi offs, len)) (h1 : ¬ x.toInt < lo) (h2 : ¬ hi < x.toInt) (ho : offs[(x.toInt - lo).toNat]? = some off) (ht : (pc : Int) + off = (tgt : Int)) (k : Go E y n (tgt, L, st, w) G) : Go E y n (pc, L, .int x :: st, w) G := by
  intro ad p e R s m args below meth c A C cells slots QQ hc hs hT H locs ls hw hl
  exact lv_tableIn C.1 C.2.1 d h1 h2 ho ht (k ad p e R s m args below meth c A C cells slots QQ hc hs hT H locs ls hw hl)
theorem g_lookup {E : mEnv} {y : mM} {n pc : Nat} {L : List (Option Value)} {st : List Value} {w : mW} {G : mG} {dflt off : Int} {ps : Array (Int × Int)} {len : Nat} {x : Int32} {tgt : Nat} (d : decode (mB y) pc = .ok (.lookupswitch dflt ps, len)) (hp : (ps.toList.zip (ps.toList.drop 1)).all (fun (a, next) => a.1 < next.1) = true) (ho : Op.lookupswitch.offset ps.toList dflt x.toInt = off) (ht : (pc : Int) + off = (tgt : Int)) (k : Go E y n (tgt, L, st, w) G) : Go E y n (pc, L, .int x :: st, w) G := by
  intro ad p e R s m args below meth c A C cells slots QQ hc hs hT H locs ls hw hl
  exact lv_lookup C.1 C.2.1 d hp ho ht (k ad p e R s m args below meth c A C cells slots QQ hc hs hT H locs ls hw hl)
theorem va_strEv {own : String} {k a : Nat} {args : Array Value} {U : State} (h : (Term.string own k).eval #[] U none [] U = some (.ref a)) : (Term.string own k).eval args U none [] U = some (.ref a) := by
  rw [← h]
  exact Term.string_eval_of_vm (args := args) (args' := #[]) rfl
theorem g_ldc2 {E : mEnv} {y : mM} {n pc : Nat} {L : List (Option Value)} {st : List Value} {w : mW} {G : mG} {ix : Nat} {v : Int64} (d : decode (mB y) pc = .ok (.ldc2_w ix, 3)) (hw' : Cond.constantLong (mN y).cls ix v ∈ mTBL) (k : Go E y n (pc + 3, L, .long v :: st, w) G) : Go E y n (pc, L, st, w) G := by
  intro ad p e R s m args below meth c A C cells slots QQ hc hs hT H locs ls hw hl
  exact lv_ldc2 C.1 C.2.1 C.2.2.2.2.1 (C.2.2.2.2.2.1 _ hw') d (k ad p e R s m args below meth c A C cells slots QQ hc hs hT H locs ls hw hl)
/-- the field k of the class ci, by the place ix of the pool of own -/
def mFld (own : String) (ix ci k : Nat) : Prop := ∃ (C : String) (T : u_T) (N : Nat), vwCl[ci]? = some (C, T, N) ∧ k < N ∧ (∀ wd ∈ u_ws C T N, wd ∈ mTBL) ∧ Cond.fieldLink own ix (T k).1 (T k).2.1 (T k).2.2.1 ∈ mTBL
def mPut (own : String) (ix ci k : Nat) (ty : FieldType) : Prop := ∃ (C : String) (T : u_T) (N : Nat) (t0 : Nat → FieldType), vwCl[ci]? = some (C, T, N) ∧ k < N ∧ (∀ wd ∈ u_ws C T N, wd ∈ mTBL) ∧ Cond.fieldLink own ix (T k).1 (T k).2.1 (T k).2.2.1 ∈ mTBL ∧ (∀ k, k < N → parseFieldDescriptor (T k).2.2.1 = some (t0 k)) ∧ (∀ a, a < N → ∀ b, b < N → a ≠ b → (T a).2.1 ≠ (T b).2.1) ∧ (T k).2.2.2 = false ∧ parseFieldDescriptor (T k).2.2.1 = some ty
theorem g_getf {E : mEnv} {y : mM} {n pc : Nat} {L : List (Option Value)} {st : List Value} {w : mW} {G : mG} {ix ci k0 r : Nat} {fs : List Value} {v : Value} (d : decode (mB y) pc = .ok (.getfield ix, 3)) (hf : mFld (mN y).cls ix ci k0) (hm : mget w r = some (.inr (ci, fs))) (hv : fs[k0]? = some v) (k : Go E y n (pc + 3, L, v :: st, w) G) : Go E y n (pc, L, .ref r :: st, w) G := by
  intro ad p e R s m args below meth c A C cells slots QQ hc hs hT H locs ls hw hl
  obtain ⟨CN, T, N, h1, h2, h3, h4⟩ := hf
  obtain ⟨q0, hq, -⟩ := mcW_at E.2.2.1 ad hm
  exact va_get C.1 C.2.1 C.2.2.2.2.2.1 h3 C.2.2.2.2.1 C.2.2.2.2.2.2.2.2.2.2.1.1 hw.1 q0 hq h1 k0 h2 (C.2.2.2.2.2.1 _ h4) (fun _ h => h) (v := mcV ad v) (by rw [List.getElem?_map, hv]; rfl) d (k ad p e R s m args below meth c A C cells slots QQ hc hs hT H locs ls hw hl)
theorem mWd_put {E : mEnv} {ad : Nat → Nat} {s : State} {A : Nat → Prop} {w : mW} {H1 : Heap} {locs1 : List Loc} {r q0 : Nat} {c c' : mE} (h : ∀ c' : mE, (mcW E.2.2.1 ad w).set q0 (ad r, mcE E.2.2.1 ad c') = mcW E.2.2.1 ad (mset w r c')) (h1 : va_P E.2.1 vwCl ((mcW E.2.2.1 ad w).set q0 (ad r, mcE E.2.2.1 ad c')) H1) (h2 : va_D A ((mcW E.2.2.1 ad w).set q0 (ad r, mcE E.2.2.1 ad c'))) (h3 : va_S A s.heap H1 locs1) : mWd E ad s A (mset w r c') H1 locs1 := by
  rw [h] at h1 h2
  exact ⟨h1, h2, h3⟩
theorem g_putI {E : mEnv} {y : mM} {n pc : Nat} {L : List (Option Value)} {st : List Value} {w : mW} {G : mG} {ix ci k0 r : Nat} {fs : List Value} {x : Int32} {ty : FieldType} {w' : mW} (d : decode (mB y) pc = .ok (.putfield ix, 3)) (hf : mPut (mN y).cls ix ci k0 ty) (hn : narrow ty (.int x) = .int x) (hfit : fits ty (.int x) = true) (hm : mget w r = some (.inr (ci, fs))) (hlen : k0 < fs.length) (hw' : mset w r (.inr (ci, fs.set k0 (.int x))) = w') (k : Go E y n (pc + 3, L, st, w') G) : Go E y n (pc, L, .int x :: .ref r :: st, w) G := by
  intro ad p e R s m args below meth c A C cells slots QQ hc hs hT H locs ls hw hl
  subst hw'
  obtain ⟨CN, T, N, t0, h1, h2, h3, h4, h5, h6, h7, h8⟩ := hf
  obtain ⟨q0, hq, hset⟩ := mcW_at E.2.2.1 ad hm
  refine va_put C.1 C.2.1 C.2.2.2.2.2.1 h3 t0 h5 h6 C.2.2.2.2.1 C.2.2.2.2.2.2.2.2.2.2.1.1 hw.1 hw.2.1 hw.2.2 q0 hq h1 k0 h2 (C.2.2.2.2.2.1 _ h4) (fun _ h => h) h7 h8 hn hfit (by rw [List.length_map]; exact hlen) d (fun H1 locs1 g1 g2 g3 => k ad p e R s m args below meth c A C cells slots QQ hc hs hT H1 locs1 ls (mWd_put (c := .inr (ci, fs)) (c' := .inr (ci, fs.set k0 (.int x))) hset ?_ ?_ g3) hl)
  · have e : mcE E.2.2.1 ad (.inr (ci, fs.set k0 (.int x))) = .inr (ci, (fs.map (mcV ad)).set k0 (.int x)) := by simp [mcE, List.map_set, mcV]
    rw [e]; exact g1
  · have e : mcE E.2.2.1 ad (.inr (ci, fs.set k0 (.int x))) = .inr (ci, (fs.map (mcV ad)).set k0 (.int x)) := by simp [mcE, List.map_set, mcV]
    rw [e]; exact g2
theorem g_putL {E : mEnv} {y : mM} {n pc : Nat} {L : List (Option Value)} {st : List Value} {w : mW} {G : mG} {ix ci k0 r : Nat} {fs : List Value} {x : Int64} {ty : FieldType} {w' : mW} (d : decode (mB y) pc = .ok (.putfield ix, 3)) (hf : mPut (mN y).cls ix ci k0 ty) (hn : narrow ty (.long x) = .long x) (hfit : fits ty (.long x) = true) (hm : mget w r = some (.inr (ci, fs))) (hlen : k0 < fs.length) (hw' : mset w r (.inr (ci, fs.set k0 (.long x))) = w') (k : Go E y n (pc + 3, L, st, w') G) : Go E y n (pc, L, .long x :: .ref r :: st, w) G := by
  intro ad p e R s m args below meth c A C cells slots QQ hc hs hT H locs ls hw hl
  subst hw'
  obtain ⟨CN, T, N, t0, h1, h2, h3, h4, h5, h6, h7, h8⟩ := hf
  obtain ⟨q0, hq, hset⟩ := mcW_at E.2.2.1 ad hm
  refine va_put C.1 C.2.1 C.2.2.2.2.2.1 h3 t0 h5 h6 C.2.2.2.2.1 C.2.2.2.2.2.2.2.2.2.2.1.1 hw.1 hw.2.1 hw.2.2 q0 hq h1 k0 h2 (C.2.2.2.2.2.1 _ h4) (fun _ h => h) h7 h8 hn hfit (by rw [List.length_map]; exact hlen) d (fun H1 locs1 g1 g2 g3 => k ad p e R s m args below meth c A C cells slots QQ hc hs hT H1 locs1 ls (mWd_put (c := .inr (ci, fs)) (c' := .inr (ci, fs.set k0 (.long x))) hset ?_ ?_ g3) hl)
  · have e : mcE E.2.2.1 ad (.inr (ci, fs.set k0 (.long x))) = .inr (ci, (fs.map (mcV ad)).set k0 (.long x)) := by simp [mcE, List.map_set, mcV]
    rw [e]; exact g1
  · have e : mcE E.2.2.1 ad (.inr (ci, fs.set k0 (.long x))) = .inr (ci, (fs.map (mcV ad)).set k0 (.long x)) := by simp [mcE, List.map_set, mcV]
    rw [e]; exact g2
theorem g_iald {E : mEnv} {y : mM} {n pc : Nat} {L : List (Option Value)} {st : List Value} {w : mW} {G : mG} {r len : Nat} {f : Nat → Int32} {i : Int32} (d : decode (mB y) pc = .ok (.iaload, 1)) (hm : mget w r = some (.inl (0, len, .inl f))) (hin : vp_in i len) (k : Go E y n (pc + 1, L, .int (f i.toNatClampNeg) :: st, w) G) : Go E y n (pc, L, .int i :: .ref r :: st, w) G := by
  intro ad p e R s m args below meth c A C cells slots QQ hc hs hT H locs ls hw hl
  obtain ⟨q0, hq, -⟩ := mcW_at E.2.2.1 ad hm
  exact va_iald C.1 C.2.1 C.2.2.2.2.2.2.2.2.2.2.1.1 hw.1 q0 0 hq rfl hin d (k ad p e R s m args below meth c A C cells slots QQ hc hs hT H locs ls hw hl)
theorem g_lald {E : mEnv} {y : mM} {n pc : Nat} {L : List (Option Value)} {st : List Value} {w : mW} {G : mG} {r len : Nat} {f : Nat → Int64} {i : Int32} (d : decode (mB y) pc = .ok (.laload, 1)) (hm : mget w r = some (.inl (1, len, .inr (.inl f)))) (hin : vp_in i len) (k : Go E y n (pc + 1, L, .long (f i.toNatClampNeg) :: st, w) G) : Go E y n (pc, L, .int i :: .ref r :: st, w) G := by
  intro ad p e R s m args below meth c A C cells slots QQ hc hs hT H locs ls hw hl
  obtain ⟨q0, hq, -⟩ := mcW_at E.2.2.1 ad hm
  exact va_lald C.1 C.2.1 C.2.2.2.2.2.2.2.2.2.2.1.1 hw.1 q0 1 hq rfl hin d (k ad p e R s m args below meth c A C cells slots QQ hc hs hT H locs ls hw hl)
theorem g_cald {E : mEnv} {y : mM} {n pc : Nat} {L : List (Option Value)} {st : List Value} {w : mW} {G : mG} {r len : Nat} {f : Nat → Int32} {i : Int32} (d : decode (mB y) pc = .ok (.caload, 1)) (hm : mget w r = some (.inl (2, len, .inl f))) (hin : vp_in i len) (k : Go E y n (pc + 1, L, .int (f i.toNatClampNeg) :: st, w) G) : Go E y n (pc, L, .int i :: .ref r :: st, w) G := by
  intro ad p e R s m args below meth c A C cells slots QQ hc hs hT H locs ls hw hl
  obtain ⟨q0, hq, -⟩ := mcW_at E.2.2.1 ad hm
  exact va_cald C.1 C.2.1 C.2.2.2.2.2.2.2.2.2.2.1.1 hw.1 q0 2 hq rfl hin d (k ad p e R s m args below meth c A C cells slots QQ hc hs hT H locs ls hw hl)
theorem g_zald {E : mEnv} {y : mM} {n pc : Nat} {L : List (Option Value)} {st : List Value} {w : mW} {G : mG} {r len : Nat} {f : Nat → Int32} {i : Int32} (d : decode (mB y) pc = .ok (.baload, 1)) (hm : mget w r = some (.inl (3, len, .inl f))) (hin : vp_in i len) (k : Go E y n (pc + 1, L, .int (f i.toNatClampNeg) :: st, w) G) : Go E y n (pc, L, .int i :: .ref r :: st, w) G := by
  intro ad p e R s m args below meth c A C cells slots QQ hc hs hT H locs ls hw hl
  obtain ⟨q0, hq, -⟩ := mcW_at E.2.2.1 ad hm
  exact va_zald C.1 C.2.1 C.2.2.2.2.2.2.2.2.2.2.1.1 hw.1 q0 3 hq rfl hin d (k ad p e R s m args below meth c A C cells slots QQ hc hs hT H locs ls hw hl)
theorem g_iast {E : mEnv} {y : mM} {n pc : Nat} {L : List (Option Value)} {st : List Value} {w : mW} {G : mG} {r len : Nat} {f : Nat → Int32} {i : Int32} {x : Int32} {w' : mW} (d : decode (mB y) pc = .ok (.iastore, 1)) (hm : mget w r = some (.inl (0, len, .inl f))) (hin : vp_in i len) (hw' : mset w r (.inl (0, len, .inl (upd f i.toNatClampNeg x))) = w') (k : Go E y n (pc + 1, L, st, w') G) : Go E y n (pc, L, .int x :: .int i :: .ref r :: st, w) G := by
  intro ad p e R s m args below meth c A C cells slots QQ hc hs hT H locs ls hw hl
  subst hw'
  obtain ⟨q0, hq, hset⟩ := mcW_at E.2.2.1 ad hm
  exact va_iast C.1 C.2.1 C.2.2.2.2.2.2.2.2.2.2.1.1 hw.1 hw.2.1 hw.2.2 q0 0 hq rfl hin d (fun H1 locs1 g1 g2 g3 => k ad p e R s m args below meth c A C cells slots QQ hc hs hT H1 locs1 ls (mWd_put (c := .inl (0, len, .inl f)) (c' := .inl (0, len, .inl (upd f i.toNatClampNeg x))) hset g1 g2 g3) hl)
theorem g_last {E : mEnv} {y : mM} {n pc : Nat} {L : List (Option Value)} {st : List Value} {w : mW} {G : mG} {r len : Nat} {f : Nat → Int64} {i : Int32} {x : Int64} {w' : mW} (d : decode (mB y) pc = .ok (.lastore, 1)) (hm : mget w r = some (.inl (1, len, .inr (.inl f)))) (hin : vp_in i len) (hw' : mset w r (.inl (1, len, .inr (.inl (vp_updL f i.toNatClampNeg x)))) = w') (k : Go E y n (pc + 1, L, st, w') G) : Go E y n (pc, L, .long x :: .int i :: .ref r :: st, w) G := by
  intro ad p e R s m args below meth c A C cells slots QQ hc hs hT H locs ls hw hl
  subst hw'
  obtain ⟨q0, hq, hset⟩ := mcW_at E.2.2.1 ad hm
  exact va_last C.1 C.2.1 C.2.2.2.2.2.2.2.2.2.2.1.1 hw.1 hw.2.1 hw.2.2 q0 1 hq rfl hin d (fun H1 locs1 g1 g2 g3 => k ad p e R s m args below meth c A C cells slots QQ hc hs hT H1 locs1 ls (mWd_put (c := .inl (1, len, .inr (.inl f))) (c' := .inl (1, len, .inr (.inl (vp_updL f i.toNatClampNeg x)))) hset g1 g2 g3) hl)
theorem g_cast {E : mEnv} {y : mM} {n pc : Nat} {L : List (Option Value)} {st : List Value} {w : mW} {G : mG} {r len : Nat} {f : Nat → Int32} {i : Int32} {x : Int32} {w' : mW} (d : decode (mB y) pc = .ok (.castore, 1)) (hm : mget w r = some (.inl (2, len, .inl f))) (hin : vp_in i len) (hw' : mset w r (.inl (2, len, .inl (upd f i.toNatClampNeg (vp_nar .char x)))) = w') (k : Go E y n (pc + 1, L, st, w') G) : Go E y n (pc, L, .int x :: .int i :: .ref r :: st, w) G := by
  intro ad p e R s m args below meth c A C cells slots QQ hc hs hT H locs ls hw hl
  subst hw'
  obtain ⟨q0, hq, hset⟩ := mcW_at E.2.2.1 ad hm
  exact va_cast C.1 C.2.1 C.2.2.2.2.2.2.2.2.2.2.1.1 hw.1 hw.2.1 hw.2.2 q0 2 hq rfl hin d (fun H1 locs1 g1 g2 g3 => k ad p e R s m args below meth c A C cells slots QQ hc hs hT H1 locs1 ls (mWd_put (c := .inl (2, len, .inl f)) (c' := .inl (2, len, .inl (upd f i.toNatClampNeg (vp_nar .char x)))) hset g1 g2 g3) hl)
theorem g_zast {E : mEnv} {y : mM} {n pc : Nat} {L : List (Option Value)} {st : List Value} {w : mW} {G : mG} {r len : Nat} {f : Nat → Int32} {i : Int32} {x : Int32} {w' : mW} (d : decode (mB y) pc = .ok (.bastore, 1)) (hm : mget w r = some (.inl (3, len, .inl f))) (hin : vp_in i len) (hw' : mset w r (.inl (3, len, .inl (upd f i.toNatClampNeg (vp_nar .boolean x)))) = w') (k : Go E y n (pc + 1, L, st, w') G) : Go E y n (pc, L, .int x :: .int i :: .ref r :: st, w) G := by
  intro ad p e R s m args below meth c A C cells slots QQ hc hs hT H locs ls hw hl
  subst hw'
  obtain ⟨q0, hq, hset⟩ := mcW_at E.2.2.1 ad hm
  exact va_zast C.1 C.2.1 C.2.2.2.2.2.2.2.2.2.2.1.1 hw.1 hw.2.1 hw.2.2 q0 3 hq rfl hin d (fun H1 locs1 g1 g2 g3 => k ad p e R s m args below meth c A C cells slots QQ hc hs hT H1 locs1 ls (mWd_put (c := .inl (3, len, .inl f)) (c' := .inl (3, len, .inl (upd f i.toNatClampNeg (vp_nar .boolean x)))) hset g1 g2 g3) hl)
theorem g_alen {E : mEnv} {y : mM} {n pc : Nat} {L : List (Option Value)} {st : List Value} {w : mW} {G : mG} {r t : Nat} {x : vp_A} {v : Int32} (d : decode (mB y) pc = .ok (.arraylength, 1)) (hm : mget w r = some (.inl (t, x))) (ht : t < 4) (hv : Int32.ofNat x.1 = v) (k : Go E y n (pc + 1, L, .int v :: st, w) G) : Go E y n (pc, L, .ref r :: st, w) G := by
  intro ad p e R s m args below meth c A C cells slots QQ hc hs hT H locs ls hw hl
  obtain ⟨q0, hq, -⟩ := mcW_at E.2.2.1 ad hm
  have ht' : ∃ ty, (mTy E.2.2.1)[t]? = some (E.2.2.1 t, ty) := by
    match t, ht with
    | 0, _ => exact ⟨_, rfl⟩
    | 1, _ => exact ⟨_, rfl⟩
    | 2, _ => exact ⟨_, rfl⟩
    | 3, _ => exact ⟨_, rfl⟩
  obtain ⟨ty, hty⟩ := ht'
  exact va_alen C.1 C.2.1 C.2.2.2.2.2.2.2.2.2.2.1.1 hw.1 q0 t hq hty hv d (k ad p e R s m args below meth c A C cells slots QQ hc hs hT H locs ls hw hl)
theorem g_ret {E : mEnv} {y : mM} {n pc : Nat} {L : List (Option Value)} {st : List Value} {w : mW} {i : Instr} {v : Option Value} (d : decode (mB y) pc = .ok (i, 1)) (hr : mRet i (mT y) v) (hst : st = v.toList) : Go E y n (pc, L, st, w) (.inr (.inl (v, w))) := by
  intro ad p e R s m args below meth c A C cells slots QQ hc hs hT H locs ls hw hl
  subst hst
  exact W.widen (by omega) (by omega) (hT H locs ls pc i hw d hr)
theorem g_end {E : mEnv} {y : mM} {n pc : Nat} {L : List (Option Value)} {st : List Value} {w : mW} {S : mS} (hS : (pc, L, st, w) = S) : Go E y n (pc, L, st, w) (.inl S) := by
  subst hS
  intro ad p e R s m args below meth c A C cells slots QQ hc hs hT H locs ls hw hl
  exact W.widen (by omega) (by omega) (hT H locs ls hw hl)
theorem g_throw {E : mEnv} {y : mM} {n pc : Nat} {L : List (Option Value)} {st : List Value} {w : mW} {X : String} (ht : mThr y pc X) (hcat : Nat.ble ((st.map fun v => v.category).sum) 8 = true) : Go E y (n + 1) (pc, L, st, w) (.inr (.inr (X, w))) := by
  intro ad p e R s m args below meth c A C cells slots QQ hc hs hT H locs ls hw hl
  exact hT.1 H locs ls pc _ cells slots hw hl.1 ht (by rw [mcV_cats]; exact Nat.le_of_ble_eq_true hcat) (by omega) (by omega)
theorem Go.widen {E : mEnv} {y : mM} {n n' : Nat} {S : mS} {G : mG} (h : Go E y n S G) (hn : n ≤ n') : Go E y n' S G := by
  intro ad p e R s m args below meth c A C cells slots QQ hc hs hT
  refine h ad p e R s m args below meth c A C cells slots QQ (by omega) (by omega) ?_
  match G, hT with
  | .inl S1, hT => intro H locs ls hw hl; exact W.widen (by omega) (by omega) (hT H locs ls hw hl)
  | .inr (.inl (v, w)), hT => intro H locs ls pc i hw hd hr; exact W.widen (by omega) (by omega) (hT H locs ls pc i hw hd hr)
  | .inr (.inr (X, w)), hT => exact ⟨fun H locs ls pc st c1 s1 hw h1 h2 h3 h4 h5 => hT.1 H locs ls pc st c1 s1 hw h1 h2 h3 (by omega) (by omega), fun H locs ls pc st q ce hw h1 h2 h3 => vx_widen (by omega) (by omega) (hT.2 H locs ls pc st q ce hw h1 h2 h3)⟩
theorem Go.trans {E : mEnv} {y : mM} {n1 n2 : Nat} {S S1 : mS} {G : mG} (h1 : Go E y n1 S (.inl S1)) (h2 : Go E y n2 S1 G) : Go E y (n1 + n2) S G := by
  intro ad p e R s m args below meth c A C cells slots QQ hc hs hT
  refine h1 ad p e R s m args below meth c A C cells slots QQ (by omega) (by omega) ?_
  refine h2 ad p e R s m args below meth c A C (cells + n1) (slots + 6 * n1) QQ (by omega) (by omega) ?_
  rw [show cells + n1 + n2 = cells + (n1 + n2) by omega, show slots + 6 * n1 + 6 * n2 = slots + 6 * (n1 + n2) by omega]
  exact hT
theorem Go.trans0 {E : mEnv} {y : mM} {n : Nat} {S S1 : mS} {G : mG} (h1 : Go E y 0 S (.inl S1)) (h2 : Go E y n S1 G) : Go E y n S G := by
  have := h1.trans h2
  rwa [Nat.zero_add] at this
/-! String constants -/
theorem g_ldcS {E : mEnv} {y : mM} {n pc : Nat} {L : List (Option Value)} {st : List Value} {w : mW} {G : mG} {ix j : Nat} {text : String} {byt : List Int32} (d : decode (mB y) pc = .ok (.ldc ix, 2)) (hq : ((mN y).cls, ix, j, byt) ∈ mSC) (ht : ((mN y).cls, ix, text) ∈ mStrs) (k : Go E y n (pc + 2, L, .ref (1000 + j) :: st, w) G) : Go E y n (pc, L, st, w) G := by
  intro ad p e R s m args below meth c A C cells slots QQ hc hs hT H locs ls hw hl
  have h1 := (C.2.2.2.2.2.2.2.2.2.2.2.2.1 _ hq).1
  have h2 := C.2.2.2.2.2.2.2.2.2.2.1.2.2.1 _ ht
  refine va_ldcS C.1 C.2.1 C.2.2.2.2.1 h2 d ?_
  have h3 := k ad p e R s m args below meth c A C cells slots QQ hc hs hT H locs ls hw hl
  rw [← h1]
  exact h3
theorem g_ldcSW {E : mEnv} {y : mM} {n pc : Nat} {L : List (Option Value)} {st : List Value} {w : mW} {G : mG} {ix j : Nat} {text : String} {byt : List Int32} (d : decode (mB y) pc = .ok (.ldc_w ix, 3)) (hq : ((mN y).cls, ix, j, byt) ∈ mSC) (ht : ((mN y).cls, ix, text) ∈ mStrs) (k : Go E y n (pc + 3, L, .ref (1000 + j) :: st, w) G) : Go E y n (pc, L, st, w) G := by
  intro ad p e R s m args below meth c A C cells slots QQ hc hs hT H locs ls hw hl
  have h1 := (C.2.2.2.2.2.2.2.2.2.2.2.2.1 _ hq).1
  have h2 := C.2.2.2.2.2.2.2.2.2.2.1.2.2.1 _ ht
  have h3 := k ad p e R s m args below meth c A C cells slots QQ hc hs hT H locs ls hw hl
  intro T hT0 X
  obtain ⟨t, a1, b1⟩ := h3 T hT0 X
  refine ⟨t, X.ldcStringW C.1 (text := text) C.2.2.2.2.1 h2.1 (va_strEv h2.2) (g := F0 m pc ls _) rfl (by rw [C.2.1]; exact d) t ?_, b1⟩
  have e9 : mcV ad (.ref (1000 + j)) = .ref (E.2.2.2.1 (mN y).cls ix) := by show Value.ref (ad (1000 + j)) = _; rw [h1]
  have e8 : (((pc + 3, L, Value.ref (1000 + j) :: st, w) : mS).2.2.1).map (mcV ad) = .ref (E.2.2.2.1 (mN y).cls ix) :: st.map (mcV ad) := by
    show mcV ad (.ref (1000 + j)) :: st.map (mcV ad) = _
    rw [e9]
  rw [e8] at a1
  exact a1
end
section
/-! calls, throws, catches of the plain machine -/
/-- a method that can be called: its code and its class are known, it has n parameters -/
def mOk (z : mM) (k : Nat) : Prop := Cond.code (mN z) (mB z) (mL z) (mT z) ∈ mTBL ∧ Cond.initialized (mN z).cls ∈ mTBL ∧ ((mN z).cls ≠ "java/lang/invoke/MethodHandle" ∧ (mN z).cls ≠ "java/lang/invoke/VarHandle") ∧ (parseMethodDescriptor (mN z).desc).map (fun d => d.parameters.length) = some k
def mOkV (z : mM) (k : Nat) : Prop := mOk z k ∧ Cond.instanceMethod (mN z) ∈ mTBL ∧ Cond.selects (mN z).cls (mN z) (mN z) ∈ mTBL
def mOkS (z : mM) (k : Nat) : Prop := mOk z k ∧ Cond.static (mN z) ∈ mTBL
def mOkH (z : mM) (k : Nat) : Prop := Cond.codeWith (mN z) (mB z) (mL z) (mT z) (mHH z) ∈ mTBL ∧ Cond.initialized (mN z).cls ∈ mTBL ∧ ((mN z).cls ≠ "java/lang/invoke/MethodHandle" ∧ (mN z).cls ≠ "java/lang/invoke/VarHandle") ∧ (parseMethodDescriptor (mN z).desc).map (fun d => d.parameters.length) = some k ∧ Cond.static (mN z) ∈ mTBL
def mFit (y z : mM) : Prop := mFr z + 1 ≤ mFr y ∧ 8 + (mL z + 11) + mLo z ≤ mLo y
def mLk (y : mM) (ix : Nat) (z : mM) : Prop := Cond.methodLink (mN y).cls ix (mN z) ∈ mTBL
def mLkN (y : mM) (ix : Nat) (z : mM) : Prop := ((mN y).cls, ix, mN z, "PusherRoom") ∈ mNest
theorem mTBL_good {ws : List Cond} (h : ∀ w ∈ ws, w ∈ mTBL) : GoodIn mTBL ws := fun w hw => ⟨h w hw, good_of_word (List.mem_filter.mp (h w hw)).2⟩
theorem mWs_in {z : mM} {k : Nat} (h : mOk z k) : ∀ w ∈ mWs z, w ∈ mTBL := fun w hw => by
  rcases List.mem_cons.mp hw with rfl | hw
  · exact h.1
  · exact hw
section CALLS
variable {E : mEnv} {y z : mM} {ad : Nat → Nat} {p : Program} {e : Env} {R : Room} {s : State} {m : MethodId} {args : Array Value} {below : List Frame} {meth : Method} {c : Code} {A : Nat → Prop} {H : Heap} {locs : List Loc} {cells slots : Nat} {QQ : State → Prop} {w w' : mW} {ls : Array Slot} {pc n k : Nat} {L : List (Option Value)} {st As : List Value} {G : mG} {v : Option Value} {X : String}
/-- behind a call that answers -/
theorem mRun_go {n0 : Nat} {a : Array Value} {st0 : List Value} (C : mCx E y ad p R s m args meth c A) (hw : mWd E ad s A w H locs)
    (hr : va_Run p E.1 e R s m args below meth c H locs cells slots n0 (6 * n0) (F0 m pc ls st0) (st.map (mcV ad)) (mQv E ad w H.size v w' a) (va_A (mcW E.2.2.1 ad w) H.size))
    (kk : ∀ (H1 : Heap) (locs1 : List Loc), mWd E ad s A w' H1 locs1 → W p E.1 e R s m args below meth c H1 locs1 (cells + n0) (slots + 6 * n0) QQ (F0 m (pc + 3) ls ((v.toList ++ st).map (mcV ad)))) : W p E.1 e R s m args below meth c H locs cells slots QQ (F0 m pc ls st0) := by
  intro T hT Y
  obtain ⟨v0, st₀, t, T', L0, h0, X', hL, e1, e2, ⟨hv, hP, hD, hF⟩, hst⟩ := hr T hT Y
  cases hv
  have hfree := mWd.free C.2.2.2.2.2.2.2.2.2.1 hw
  obtain ⟨hz, hk⟩ := hF
  rw [h0] at hz hk
  have hS := hw.2.2
  have hd : mWd E ad s A w' T'.heap (locs ++ L0) := ⟨by rw [e1]; exact hP, hD.weaken (fun _ q _ h => hfree q.1 h), Nat.le_trans hS.1 (by rw [e1]; exact hz), fun q h1 h2 => by rw [e1, hk q (Nat.lt_of_lt_of_le h1 hS.1) (fun b => h2 (hfree q b))]; exact hS.2.1 q h1 h2, fun q hq => by
    rcases List.mem_append.mp hq with h | h
    · exact hS.2.2 q h
    · exact hfree _ (hL q h)⟩
  obtain ⟨t2, a1, b1⟩ := kk T'.heap (locs ++ L0) hd T' rfl X'
  refine ⟨t2, hst t2 ?_, b1⟩
  have e3 : (v.toList ++ st).map (mcV ad) = (v.map (mcV ad)).toList ++ st.map (mcV ad) := by cases v <;> simp
  rw [e3] at a1
  exact a1
/-- behind a call that throws -/
theorem mRun_x {st0 : List Value} (C : mCx E y ad p R s m args meth c A) (hw : mWd E ad s A w H locs)
    (hr : vx_Run p E.1 e R s m args below meth c H locs cells slots 1 6 (F0 m pc ls st0) (st.map (mcV ad)) (fun _ _ _ => False) (mXc E ad w H.size X w') (va_A (mcW E.2.2.1 ad w) H.size))
    (kk : ∀ (H1 : Heap) (locs1 : List Loc) (q : Addr) (ce : Cell), mWd E ad s A w' H1 locs1 → H1[q]? = some ce → ce.vm = .none → s.vm.findClass X = some ce.cls → vx_W p E.1 e R s m args below meth c H1 locs1 (cells + 1) (slots + 6) QQ (F0 m pc ls (st.map (mcV ad))) q) : W p E.1 e R s m args below meth c H locs cells slots QQ (F0 m pc ls st0) := by
  intro T hT Y
  rcases hr T hT Y with ⟨v0, st₀, t, T', L0, h0, X', hL, e1, e2, hv, hst⟩ | ⟨q, st₀, t, T', L0, E0, ce, h0, X', hL, e1, e2, ⟨hv, hP, hD, hF⟩, hce, hcv, hcl, hst⟩
  · exact hv.elim
  · subst hv
    have hfree := mWd.free C.2.2.2.2.2.2.2.2.2.1 hw
    obtain ⟨hz, hk⟩ := hF
    rw [h0] at hz hk
    have hS := hw.2.2
    have hd : mWd E ad s A w' T'.heap (locs ++ L0) := ⟨by rw [e1]; exact hP, hD.weaken (fun _ q _ h => hfree q.1 h), Nat.le_trans hS.1 (by rw [e1]; exact hz), fun q h1 h2 => by rw [e1, hk q (Nat.lt_of_lt_of_le h1 hS.1) (fun b => h2 (hfree q b))]; exact hS.2.1 q h1 h2, fun q hq => by
      rcases List.mem_append.mp hq with h | h
      · exact hS.2.2 q h
      · exact hfree _ (hL q h)⟩
    obtain ⟨t2, a1, b1⟩ := kk T'.heap (locs ++ L0) q ce hd (by rw [e1]; exact hce) hcv hcl T' rfl X'
    exact ⟨t2, hst.trans a1, b1⟩
theorem mRoom {st : List Value} {ad : Nat → Nat} {m : MethodId} {pc : Nat} {ls : Array Slot} {rest : List Value} (h : Nat.ble ((st.map fun v => v.category).sum) 8 = true) : 2 * (F0 m pc ls rest).monitorRoom + ((st.map (mcV ad)).map fun v => v.category).sum ≤ 8 := lv_room (by rw [mcV_cats]; exact Nat.le_of_ble_eq_true h)
theorem mStk (ad : Nat → Nat) (r : Nat) (As st : List Value) : (As.reverse ++ .ref r :: st).map (mcV ad) = (As.map (mcV ad)).reverse ++ .ref (ad r) :: st.map (mcV ad) := by simp [mcV]
theorem mStkS (ad : Nat → Nat) (As st : List Value) : (As.reverse ++ st).map (mcV ad) = (As.map (mcV ad)).reverse ++ st.map (mcV ad) := by simp
/-- the receiver's cell -/
theorem mRecv {ci r : Nat} {fs : List Value} {q : vw_C} (C : mCx E y ad p R s m args meth c A) (hw : mWd E ad s A w H locs) (hm : mget w r = some (.inr (ci, fs))) (hq : vwCl[ci]? = some q) : ∃ cell : Cell, H[ad r]? = some cell ∧ cell.vm.isStatics = false ∧ s.vm.findClass q.1 = some cell.cls := by
  obtain ⟨q0, h1, -⟩ := mcW_at E.2.2.1 ad hm
  exact va_recv C.2.2.2.2.2.2.2.2.2.2.1.1 hw.1 hq h1
theorem mFix (C : mCx E y ad p R s m args meth c A) : CallFix p m c (mB y) (mL y) s args mTBL (mN y).cls := ⟨C.1, C.2.1, C.2.2.2.1, C.2.2.2.2.1, C.2.2.2.2.2.1⟩
/-- a virtual call that answers -/
theorem g_callV {ix n0 n1 r ci : Nat} {fs : List Value} {q : vw_C} (d : decode (mB y) pc = .ok (.invokevirtual ix, 3)) (hz : mOkV z As.length) (hlk : mLk y ix z) (hft : mFit y z) (hR : Rt E z n0 (.ref r :: As) w v w')
    (hm : mget w r = some (.inr (ci, fs))) (hq : vwCl[ci]? = some q) (hcls : q.1 = (mN z).cls) (hcat : Nat.ble ((st.map fun v => v.category).sum) 8 = true) (hst : L.length = L.length) {st9 : List Value} (h9 : As.reverse ++ .ref r :: st = st9)
    (k : Go E y n (pc + 3, L, v.toList ++ st, w') G) (hn : n0 + n = n1) : Go E y n1 (pc, L, st9, w) G := by
  intro ad p e R s m args below meth c A C cells slots QQ hc hs hT H locs ls hw hl
  subst h9; subst hn
  show W p E.1 e R s m args below meth c H locs cells slots QQ (F0 m pc ls ((As.reverse ++ .ref r :: st).map (mcV ad)))
  rw [mStk]
  have hM := hR ad H.size
  have cw : CallW R s args (mN y).cls (mN z).cls ix (mN z) (mB z) (mL z) (mT z) (mWs z) (mRm z n0) n0 (6 * n0) As.length :=
    cwV As.length C.2.2.2.2.2.1 (mTBL_good fun w0 h0 => by
      unfold wsV at h0
      rcases List.mem_append.mp h0 with h0 | h0
      · simp only [List.mem_cons, List.not_mem_nil, or_false] at h0
        rcases h0 with rfl | rfl | rfl | rfl
        · exact hlk
        · exact hz.2.1
        · exact hz.2.2
        · exact hz.1.2.1
      · exact mWs_in hz.1 w0 h0) rfl rfl rfl ⟨rfl, hz.1.2.2.1.1, hz.1.2.2.1.2, hz.1.2.2.2⟩ ⟨Nat.le_trans hft.1 C.2.2.2.2.2.2.2.1, Nat.le_trans hft.2 C.2.2.2.2.2.2.2.2.1⟩
  have hrun := va_runV (p := p) (e := e) (below := below) (meth := meth) (H := H) (locs := locs) (cells := cells) (slots := slots) (As := As.map (mcV ad)) (rest := st.map (mcV ad)) (g := F0 m pc ls ((As.map (mcV ad)).reverse ++ .ref (ad r) :: st.map (mcV ad))) (mFix C) hM cw
    ⟨mPre.blind, by rw [← hcls]; exact mRecv C hw hm hq, fun U hU hW => ⟨rfl, mPre.of C hw hU hW⟩⟩ rfl (by rw [List.length_map]) hl.1 rfl (mRoom hcat) d ⟨by omega, by omega⟩
  refine mRun_go C hw hrun (fun H1 locs1 hd => ?_)
  refine k ad p e R s m args below meth c A C (cells + n0) (slots + 6 * n0) QQ (by omega) (by omega) ?_ H1 locs1 ls hd hl
  rw [show cells + n0 + n = cells + (n0 + n) by omega, show slots + 6 * n0 + 6 * n = slots + 6 * (n0 + n) by omega]
  exact hT
/-- a static call that answers -/
theorem g_callS {ix n0 n1 : Nat} (d : decode (mB y) pc = .ok (.invokestatic ix, 3)) (hz : mOkS z As.length) (hlk : mLk y ix z) (hft : mFit y z) (hR : Rt E z n0 As w v w')
    (hcat : Nat.ble ((st.map fun v => v.category).sum) 8 = true) {st9 : List Value} (h9 : As.reverse ++ st = st9)
    (k : Go E y n (pc + 3, L, v.toList ++ st, w') G) (hn : n0 + n = n1) : Go E y n1 (pc, L, st9, w) G := by
  intro ad p e R s m args below meth c A C cells slots QQ hc hs hT H locs ls hw hl
  subst h9; subst hn
  show W p E.1 e R s m args below meth c H locs cells slots QQ (F0 m pc ls ((As.reverse ++ st).map (mcV ad)))
  rw [mStkS]
  have hM := hR ad H.size
  have cw : CallB R s args (mN y).cls ix (mN z) (mB z) (mL z) (mT z) (mWs z) (mRm z n0) n0 (6 * n0) As.length ∧ (Cond.static (mN z)).before args s = true :=
    va_cwS As.length C.2.2.2.2.2.1 (mTBL_good fun w0 h0 => by
      unfold va_wsS at h0
      rcases List.mem_append.mp h0 with h0 | h0
      · simp only [List.mem_cons, List.not_mem_nil, or_false] at h0
        rcases h0 with rfl | rfl | rfl
        · exact hlk
        · exact hz.2
        · exact hz.1.2.1
      · exact mWs_in hz.1 w0 h0) rfl rfl rfl ⟨hz.1.2.2.1.1, hz.1.2.2.1.2, hz.1.2.2.2⟩ ⟨Nat.le_trans hft.1 C.2.2.2.2.2.2.2.1, Nat.le_trans hft.2 C.2.2.2.2.2.2.2.2.1⟩
  have hrun := va_runS (p := p) (e := e) (below := below) (meth := meth) (H := H) (locs := locs) (cells := cells) (slots := slots) (As := As.map (mcV ad)) (rest := st.map (mcV ad)) (g := F0 m pc ls ((As.map (mcV ad)).reverse ++ st.map (mcV ad))) (mFix C) hM cw
    ⟨mPre.blind, fun U hU hW => ⟨rfl, mPre.of C hw hU hW⟩⟩ rfl (by rw [List.length_map]) hl.1 rfl (mRoom hcat) d ⟨by omega, by omega⟩
  refine mRun_go C hw hrun (fun H1 locs1 hd => ?_)
  refine k ad p e R s m args below meth c A C (cells + n0) (slots + 6 * n0) QQ (by omega) (by omega) ?_ H1 locs1 ls hd hl
  rw [show cells + n0 + n = cells + (n0 + n) by omega, show slots + 6 * n0 + 6 * n = slots + 6 * (n0 + n) by omega]
  exact hT
/-- a static call of a nest mate's method -/
theorem g_callN {ix n0 n1 : Nat} (d : decode (mB y) pc = .ok (.invokestatic ix, 3)) (hz : mOkS z As.length) (hlk : mLkN y ix z) (hft : mFit y z) (hR : Rt E z n0 As w v w')
    (hcat : Nat.ble ((st.map fun v => v.category).sum) 8 = true) {st9 : List Value} (h9 : As.reverse ++ st = st9)
    (k : Go E y n (pc + 3, L, v.toList ++ st, w') G) (hn : n0 + n = n1) : Go E y n1 (pc, L, st9, w) G := by
  intro ad p e R s m args below meth c A C cells slots QQ hc hs hT H locs ls hw hl
  subst h9; subst hn
  show W p E.1 e R s m args below meth c H locs cells slots QQ (F0 m pc ls ((As.reverse ++ st).map (mcV ad)))
  rw [mStkS]
  have hM := hR ad H.size
  have cw : va_CN R s args (mN y).cls ix (mN z) "PusherRoom" (mB z) (mL z) (mT z) (mWs z) (mRm z n0) n0 (6 * n0) As.length :=
    va_cnB As.length C.2.2.2.2.2.1 (mTBL_good (mWs_in hz.1)) rfl rfl rfl (C.2.2.2.2.2.2.2.2.2.2.1.2.1 _ hlk) (C.2.2.2.2.2.1 _ hz.1.2.1) ⟨hz.1.2.2.1.1, hz.1.2.2.1.2, hz.1.2.2.2⟩ ⟨Nat.le_trans hft.1 C.2.2.2.2.2.2.2.1, Nat.le_trans hft.2 C.2.2.2.2.2.2.2.2.1⟩
  have hrun := va_runSN (p := p) (e := e) (below := below) (meth := meth) (H := H) (locs := locs) (cells := cells) (slots := slots) (As := As.map (mcV ad)) (rest := st.map (mcV ad)) (g := F0 m pc ls ((As.map (mcV ad)).reverse ++ st.map (mcV ad))) (mFix C) hM ⟨cw, C.2.2.2.2.2.1 _ hz.2, trivial⟩
    ⟨mPre.blind, fun U hU hW => ⟨rfl, mPre.of C hw hU hW⟩⟩ rfl (by rw [List.length_map]) hl.1 rfl (mRoom hcat) d ⟨by omega, by omega⟩
  refine mRun_go C hw hrun (fun H1 locs1 hd => ?_)
  refine k ad p e R s m args below meth c A C (cells + n0) (slots + 6 * n0) QQ (by omega) (by omega) ?_ H1 locs1 ls hd hl
  rw [show cells + n0 + n = cells + (n0 + n) by omega, show slots + 6 * n0 + 6 * n = slots + 6 * (n0 + n) by omega]
  exact hT
/-- a static call of a method with a table of its own -/
theorem g_callH {ix n0 n1 : Nat} (d : decode (mB y) pc = .ok (.invokestatic ix, 3)) (hz : mOkH z As.length) (hlk : mLk y ix z) (hft : mFit y z) (hR : Rh E z n0 As w v w')
    (hcat : Nat.ble ((st.map fun v => v.category).sum) 8 = true) {st9 : List Value} (h9 : As.reverse ++ st = st9)
    (k : Go E y n (pc + 3, L, v.toList ++ st, w') G) (hn : n0 + n = n1) : Go E y n1 (pc, L, st9, w) G := by
  intro ad p e R s m args below meth c A C cells slots QQ hc hs hT H locs ls hw hl
  subst h9; subst hn
  show W p E.1 e R s m args below meth c H locs cells slots QQ (F0 m pc ls ((As.reverse ++ st).map (mcV ad)))
  rw [mStkS]
  have hM := hR ad H.size
  have hin : ∀ w ∈ mWh z, w ∈ mTBL := fun w hw => by
    rcases List.mem_cons.mp hw with rfl | hw
    · exact hz.1
    · exact hw
  have cw : vx_CSW R s args (mN y).cls ix (mN z) (mB z) (mL z) (mT z) (mHH z) (mWh z) (mRm z n0) n0 (6 * n0) As.length :=
    vx_cwSW As.length C.2.2.2.2.2.1 (mTBL_good fun w0 h0 => by
      unfold va_wsS at h0
      rcases List.mem_append.mp h0 with h0 | h0
      · simp only [List.mem_cons, List.not_mem_nil, or_false] at h0
        rcases h0 with rfl | rfl | rfl
        · exact hlk
        · exact hz.2.2.2.2
        · exact hz.2.1
      · exact hin w0 h0) rfl rfl rfl ⟨hz.2.2.1.1, hz.2.2.1.2, hz.2.2.2.1⟩ ⟨Nat.le_trans hft.1 C.2.2.2.2.2.2.2.1, Nat.le_trans hft.2 C.2.2.2.2.2.2.2.2.1⟩
  have hrun := vx_runSW (p := p) (e := e) (below := below) (meth := meth) (H := H) (locs := locs) (cells := cells) (slots := slots) (As := As.map (mcV ad)) (rest := st.map (mcV ad)) (g := F0 m pc ls ((As.map (mcV ad)).reverse ++ st.map (mcV ad))) (mFix C) hM cw
    ⟨mPre.blind, fun U hU hW => ⟨rfl, mPre.of C hw hU hW⟩⟩ rfl (by rw [List.length_map]) hl.1 rfl (mRoom hcat) d ⟨by omega, by omega⟩
  refine mRun_go C hw hrun (fun H1 locs1 hd => ?_)
  refine k ad p e R s m args below meth c A C (cells + n0) (slots + 6 * n0) QQ (by omega) (by omega) ?_ H1 locs1 ls hd hl
  rw [show cells + n0 + n = cells + (n0 + n) by omega, show slots + 6 * n0 + 6 * n = slots + 6 * (n0 + n) by omega]
  exact hT
/-- a virtual call that throws, not caught here -/
theorem g_xcallV {ix r ci : Nat} {fs : List Value} {q : vw_C} (d : decode (mB y) pc = .ok (.invokevirtual ix, 3)) (hz : mOkV z As.length) (hlk : mLk y ix z) (hft : mFit y z) (hR : Rx E z (.ref r :: As) w X w')
    (hm : mget w r = some (.inr (ci, fs))) (hq : vwCl[ci]? = some q) (hcls : q.1 = (mN z).cls) (hcat : Nat.ble ((st.map fun v => v.category).sum) 8 = true) {st9 : List Value} (h9 : As.reverse ++ .ref r :: st = st9) : Go E y 1 (pc, L, st9, w) (.inr (.inr (X, w'))) := by
  intro ad p e R s m args below meth c A C cells slots QQ hc hs hT H locs ls hw hl
  subst h9
  show W p E.1 e R s m args below meth c H locs cells slots QQ (F0 m pc ls ((As.reverse ++ .ref r :: st).map (mcV ad)))
  rw [mStk]
  have hM := hR ad H.size
  have cw : CallW R s args (mN y).cls (mN z).cls ix (mN z) (mB z) (mL z) (mT z) (mWs z) (mRm z 1) 1 6 As.length :=
    cwV As.length C.2.2.2.2.2.1 (mTBL_good fun w0 h0 => by
      unfold wsV at h0
      rcases List.mem_append.mp h0 with h0 | h0
      · simp only [List.mem_cons, List.not_mem_nil, or_false] at h0
        rcases h0 with rfl | rfl | rfl | rfl
        · exact hlk
        · exact hz.2.1
        · exact hz.2.2
        · exact hz.1.2.1
      · exact mWs_in hz.1 w0 h0) rfl rfl rfl ⟨rfl, hz.1.2.2.1.1, hz.1.2.2.1.2, hz.1.2.2.2⟩ ⟨Nat.le_trans hft.1 C.2.2.2.2.2.2.2.1, Nat.le_trans hft.2 C.2.2.2.2.2.2.2.2.1⟩
  have hrun := vx_runV (p := p) (e := e) (below := below) (meth := meth) (H := H) (locs := locs) (cells := cells) (slots := slots) (As := As.map (mcV ad)) (rest := st.map (mcV ad)) (g := F0 m pc ls ((As.map (mcV ad)).reverse ++ .ref (ad r) :: st.map (mcV ad))) (mFix C) hM cw
    ⟨mPre.blind, by rw [← hcls]; exact mRecv C hw hm hq, fun U hU hW => ⟨rfl, mPre.of C hw hU hW⟩⟩ rfl (by rw [List.length_map]) hl.1 rfl (mRoom hcat) d ⟨by omega, by omega⟩
  exact mRun_x C hw hrun (fun H1 locs1 q9 ce hd h1 h2 h3 => hT.2 H1 locs1 ls pc _ q9 ce hd h1 h2 h3)
/-- a static call that throws, not caught here -/
theorem g_xcallS {ix : Nat} (d : decode (mB y) pc = .ok (.invokestatic ix, 3)) (hz : mOkS z As.length) (hlk : mLk y ix z) (hft : mFit y z) (hR : Rx E z As w X w')
    (hcat : Nat.ble ((st.map fun v => v.category).sum) 8 = true) {st9 : List Value} (h9 : As.reverse ++ st = st9) : Go E y 1 (pc, L, st9, w) (.inr (.inr (X, w'))) := by
  intro ad p e R s m args below meth c A C cells slots QQ hc hs hT H locs ls hw hl
  subst h9
  show W p E.1 e R s m args below meth c H locs cells slots QQ (F0 m pc ls ((As.reverse ++ st).map (mcV ad)))
  rw [mStkS]
  have hM := hR ad H.size
  have cw : CallB R s args (mN y).cls ix (mN z) (mB z) (mL z) (mT z) (mWs z) (mRm z 1) 1 6 As.length ∧ (Cond.static (mN z)).before args s = true :=
    va_cwS As.length C.2.2.2.2.2.1 (mTBL_good fun w0 h0 => by
      unfold va_wsS at h0
      rcases List.mem_append.mp h0 with h0 | h0
      · simp only [List.mem_cons, List.not_mem_nil, or_false] at h0
        rcases h0 with rfl | rfl | rfl
        · exact hlk
        · exact hz.2
        · exact hz.1.2.1
      · exact mWs_in hz.1 w0 h0) rfl rfl rfl ⟨hz.1.2.2.1.1, hz.1.2.2.1.2, hz.1.2.2.2⟩ ⟨Nat.le_trans hft.1 C.2.2.2.2.2.2.2.1, Nat.le_trans hft.2 C.2.2.2.2.2.2.2.2.1⟩
  have hrun := vx_runS (p := p) (e := e) (below := below) (meth := meth) (H := H) (locs := locs) (cells := cells) (slots := slots) (As := As.map (mcV ad)) (rest := st.map (mcV ad)) (g := F0 m pc ls ((As.map (mcV ad)).reverse ++ st.map (mcV ad))) (mFix C) hM cw
    ⟨mPre.blind, fun U hU hW => ⟨rfl, mPre.of C hw hU hW⟩⟩ rfl (by rw [List.length_map]) hl.1 rfl (mRoom hcat) d ⟨by omega, by omega⟩
  exact mRun_x C hw hrun (fun H1 locs1 q9 ce hd h1 h2 h3 => hT.2 H1 locs1 ls pc _ q9 ce hd h1 h2 h3)
end CALLS
/-- a body that throws -/
theorem Rx.of {E : mEnv} {y : mM} {As : List Value} {w w' : mW} {X : String} (hl : E.1.stackTraces = false) (h0 : mHH y = []) (hy : plainName (mN y).cls = true) (he : (mEnt As).length ≤ mL y) (h : Go E y 1 (0, mEnd As (mL y), [], w) (.inr (.inr (X, w')))) : Rx E y As w X w' := by
  intro ad sz
  refine vx_ofW (cc := mB y) (maxL := mL y) (ret := mT y) hy rfl ?_
  intro p e s m args below meth c s₁ B hml hnt hv
  obtain ⟨rfl, hsz, hP, hD0, hst, had⟩ := hv
  have hts := atoms_spec (ws := mWs y) B.pre
  have hown : s.vm.findClass (mN y).cls = some m.cls := findClass_of_methodNamed B.named
  have hlocks := B.notSynchronized
  subst hsz
  have hD := hD0.self (sz := s.heap.size)
  rw [lg_entry_eq]
  have C : mCx E y ad p (mRm y 1) s m (As.map (mcV ad)).toArray meth c (va_A (mcW E.2.2.1 ad w) s.heap.size) := ⟨B.exec, B.bytes, B.returns, hml, hown, fun w h => hts w (List.mem_cons_of_mem _ h), hlocks, Nat.le_refl _, Nat.le_refl _, fun q hq => Or.inr hq, hst, hl, had, fun h => absurd h0 h⟩
  have hall : ∀ w0 ∈ mTBL, w0.before (As.map (mcV ad)).toArray s = true := C.2.2.2.2.2.1
  refine h ad p e (mRm y 1) s m _ below meth c (va_A (mcW E.2.2.1 ad w) s.heap.size) C 0 0 _ (by show 0 + 1 ≤ 1; omega) (by show 0 + 6 * 1 ≤ 6 * 1; omega) ?_ s.heap [] _ ⟨hP, hD, va_S.rf⟩ (mEnd_ls ad As he)
  refine ⟨fun H locs ls pc st c1 s1 hw hsize hthr hcat h1 h2 => ?_, fun H locs ls pc st q ce hw h1 h2 h3 => ?_⟩
  · obtain ⟨qP, qD, qS⟩ := hw
    obtain ⟨ik, is, ic, text, names, hdec, hX, hnm, hk, hini, hstr, hg1, hg2, hgood, hfr, hlo⟩ := hthr
    obtain ⟨k1, k2, k3, k4, k5, k6, k7, k8, -, -⟩ := hst
    have hat : ∀ w ∈ vx_atS (mN y).cls ic X names, w.before (As.map (mcV ad)).toArray s = true := by
      refine vx_hat (B := (vx_atS (mN y).cls ic X names).filter (fun w => !goodWord w)) (fun w0 h0 => hall _ (hg1 w0 h0)) (fun w0 h0 => h0) (fun w0 h0 => ?_)
      rcases hg2 w0 h0 with ⟨q, hq, rfl⟩ | ⟨q, hq, rfl⟩
      · exact va_Nw.use rfl (k5 q hq)
      · exact va_Nw.use rfl (k6 q hq)
    have hxc : ∀ t : State, s.vm.Alike t.vm → H.size ≤ t.heap.size → (∀ q : Nat, q < H.size → t.heap[q]? = H[q]?) → mXc E ad w s.heap.size X w' X s t := by
      intro t ht hz hk9
      have hkept : va_P E.2.1 vwCl (mcW E.2.2.1 ad w') t.heap := qP.kept fun k q hq => hk9 q.1 (qP k q hq).lt
      exact ⟨rfl, hkept, qD, Nat.le_trans qS.1 hz, fun q g1 g2 => by rw [hk9 q (Nat.lt_of_lt_of_le g1 qS.1)]; exact qS.2.1 q g1 g2⟩
    rcases hdec with ⟨d0, d3, d4, d6, d9⟩ | ⟨d0, d3, d4, d6, d9⟩
    · exact vx_throwS (names := names) B.exec B.bytes hl hown hX hnm (hall _ hk) (hall _ hini) (k3 _ hstr) hat hgood k7 k8 qS (hsize.trans hml.symm) d0 d3 d4 d6 d9 (fun x hx => (hnt x hx).elim) hfr (Nat.le_trans (by omega) hlo) (by show c1 + 1 ≤ 1; omega) (by show s1 + 6 ≤ 6; omega) hlocks hxc qS.2.2 (by omega) (by omega)
    · exact vx_throwSW (names := names) B.exec B.bytes hl hown hX hnm (hall _ hk) (hall _ hini) (k3 _ hstr) hat hgood k7 k8 qS (hsize.trans hml.symm) d0 d3 d4 d6 d9 (fun x hx => (hnt x hx).elim) hfr (Nat.le_trans (by omega) hlo) (by show c1 + 1 ≤ 1; omega) (by show s1 + 6 ≤ 6; omega) hlocks hxc qS.2.2 (by omega) (by omega)
  · obtain ⟨qP, qD, qS⟩ := hw
    exact vx_out (fun x hx => (hnt x hx).elim) hlocks h1 h2 h3 (fun t ht _ => ⟨rfl, by rw [ht]; exact qP, qD, qS.F ht⟩) qS.2.2 (by omega) (by omega)

/-- a body with a table of its own, that answers -/
theorem Rh.of {E : mEnv} {y : mM} {n : Nat} {As : List Value} {w w' : mW} {v : Option Value} (hl : E.1.stackTraces = false) (hy : plainName (mN y).cls = true) (he : (mEnt As).length ≤ mL y) (h : Go E y n (0, mEnd As (mL y), [], w) (.inr (.inl (v, w')))) : Rh E y n As w v w' := by
  intro ad sz
  refine va_MetW (cc := mB y) (maxL := mL y) (ret := mT y) (hh := mHH y) hy rfl ?_
  intro p e s m args below meth c s₁ B hml hv
  obtain ⟨rfl, hsz, hP, hD0, hst, had⟩ := hv
  have hts := atoms_spec (ws := mWh y) B.pre
  have hown : s.vm.findClass (mN y).cls = some m.cls := findClass_of_methodNamed B.named
  have hlocks := B.notSynchronized
  subst hsz
  have hD := hD0.self (sz := s.heap.size)
  rw [lg_entry_eq]
  have C : mCx E y ad p (mRm y n) s m (As.map (mcV ad)).toArray meth c (va_A (mcW E.2.2.1 ad w) s.heap.size) := ⟨B.exec, B.bytes, B.returns, hml, hown, fun w h => hts w (List.mem_cons_of_mem _ h), hlocks, Nat.le_refl _, Nat.le_refl _, fun q hq => Or.inr hq, hst, hl, had, fun _ => vx_table (x := mN y) B (hts _ List.mem_cons_self)⟩
  refine h ad p e (mRm y n) s m _ below meth c (va_A (mcW E.2.2.1 ad w) s.heap.size) C 0 0 _ (by show 0 + n ≤ n; omega) (by show 0 + 6 * n ≤ 6 * n; omega) ?_ s.heap [] _ ⟨hP, hD, va_S.rf⟩ (mEnd_ls ad As he)
  intro H locs ls pc i hw hd hr
  rw [Nat.zero_add, Nat.zero_add]
  obtain ⟨qP, qD, qS⟩ := hw
  have fin : ∀ (t : State) (o : Outcome), t.heap = H → o = .returned (v.map (mcV ad)) → mQv E ad w s.heap.size v w' (As.map (mcV ad)).toArray s o t := fun t o ht ho => ⟨ho, by rw [ht]; exact qP, qD, qS.F ht⟩
  rcases hr with ⟨rfl, ty, x, h1, rfl, h3⟩ | ⟨rfl, h1, x, rfl⟩ | ⟨rfl, h1, rfl⟩
  · exact W.zret B.exec B.bytes (B.returns.trans h1) h3 (fun t ht _ => fin t _ ht rfl) qS.2.2 hd hlocks
  · exact W.lret B.exec B.bytes (B.returns.trans h1) (fun t ht _ => fin t _ ht rfl) qS.2.2 hd hlocks
  · exact W.vret B.exec B.bytes (B.returns.trans h1) (fun t ht _ => fin t _ ht rfl) qS.2.2 hd hlocks
def mPass (y : mM) (X : String) (pc : Nat) (z : ExceptionTableEntry) : Prop := covers z pc = false ∨ (z.catchType ≠ 0 ∧ ∃ nm : String, Cond.classLink (mN y).cls z.catchType nm ∈ mTBL ∧ (X, nm) ∈ mNcs)
/-- a virtual call that throws, caught by the row x of this method's table; the handler's first step puts it away into the local i -/
theorem g_catchV {E : mEnv} {y z : mM} {w w' : mW} {pc n n1 : Nat} {L : List (Option Value)} {st As : List Value} {G : mG} {X : String} {ix r ci : Nat} {fs : List Value} {q : vw_C} (d : decode (mB y) pc = .ok (.invokevirtual ix, 3)) (hz : mOkV z As.length) (hlk : mLk y ix z) (hft : mFit y z) (hR : Rx E z (.ref r :: As) w X w')
    (hm : mget w r = some (.inr (ci, fs))) (hq : vwCl[ci]? = some q) (hcls : q.1 = (mN z).cls) (hcat : Nat.ble ((st.map fun v => v.category).sum) 8 = true) {st9 : List Value} (h9 : As.reverse ++ .ref r :: st = st9)
    (pre : List ExceptionTableEntry) (x : ExceptionTableEntry) (suf : List ExceptionTableEntry) (hhh : mHH y ≠ []) (hsplit : tableOf (mHH y) = pre ++ x :: suf) (hpass : ∀ z ∈ pre, mPass y X pc z) (hx : covers x pc = true) (h0 : x.catchType ≠ 0) (hlink : Cond.classLink (mN y).cls x.catchType X ∈ mTBL) (hcast : (X, X) ∈ mCas)
    {i : Fin 4} (d2 : decode (mB y) x.handlerPc = .ok (.astore_n i, 1)) (hn : Nat.ble ((i : Nat) + 1) L.length = true) {L' : List (Option Value)} (hL' : (mst L (i : Nat) (.int 0)).set (i : Nat) none = L') (k : Go E y n (x.handlerPc + 1, L', [], w') G) (hn1 : 1 + n = n1) : Go E y n1 (pc, L, st9, w) G := by
  intro ad p e R s m args below meth c A C cells slots QQ hc hs hT H locs ls hw hl
  subst h9; subst hn1; subst hL'
  show W p E.1 e R s m args below meth c H locs cells slots QQ (F0 m pc ls ((As.reverse ++ .ref r :: st).map (mcV ad)))
  rw [mStk]
  have hM := hR ad H.size
  have cw : CallW R s args (mN y).cls (mN z).cls ix (mN z) (mB z) (mL z) (mT z) (mWs z) (mRm z 1) 1 6 As.length :=
    cwV As.length C.2.2.2.2.2.1 (mTBL_good fun w0 h0 => by
      unfold wsV at h0
      rcases List.mem_append.mp h0 with h0 | h0
      · simp only [List.mem_cons, List.not_mem_nil, or_false] at h0
        rcases h0 with rfl | rfl | rfl | rfl
        · exact hlk
        · exact hz.2.1
        · exact hz.2.2
        · exact hz.1.2.1
      · exact mWs_in hz.1 w0 h0) rfl rfl rfl ⟨rfl, hz.1.2.2.1.1, hz.1.2.2.1.2, hz.1.2.2.2⟩ ⟨Nat.le_trans hft.1 C.2.2.2.2.2.2.2.1, Nat.le_trans hft.2 C.2.2.2.2.2.2.2.2.1⟩
  have hrun := vx_runV (p := p) (e := e) (below := below) (meth := meth) (H := H) (locs := locs) (cells := cells) (slots := slots) (As := As.map (mcV ad)) (rest := st.map (mcV ad)) (g := F0 m pc ls ((As.map (mcV ad)).reverse ++ .ref (ad r) :: st.map (mcV ad))) (mFix C) hM cw
    ⟨mPre.blind, by rw [← hcls]; exact mRecv C hw hm hq, fun U hU hW => ⟨rfl, mPre.of C hw hU hW⟩⟩ rfl (by rw [List.length_map]) hl.1 rfl (mRoom hcat) d ⟨by omega, by omega⟩
  refine mRun_x C hw hrun (fun H1 locs1 q9 ce hd h1 h2 h3 => ?_)
  obtain ⟨-, -, -, k4, -, k6, -⟩ := C.2.2.2.2.2.2.2.2.2.2.1
  refine vx_catch C.2.2.2.2.1 pre x suf ((C.2.2.2.2.2.2.2.2.2.2.2.2.2 hhh).trans hsplit) (fun z9 hz9 => ?_) hx h0 (C.2.2.2.2.2.1 _ hlink) (va_Nw.use rfl (k6 _ hcast)) h1 h2 h3 ?_
  · rcases hpass z9 hz9 with h | ⟨h4, nm, h5, h6⟩
    · exact Or.inl h
    · exact Or.inr ⟨h4, nm, C.2.2.2.2.2.1 _ h5, k4 _ h6⟩
  · refine lv_astore_n (lv := mLv ad L) C.1 C.2.1 d2 rfl hl.has (by have := Nat.le_of_ble_eq_true hn; have : L.length = mL y := hl.2.2.1; omega) rfl (fun ls' h => ?_)
    have hl' : mLs ad (mL y) ls' ((mst L (i : Nat) (.int 0)).set (i : Nat) none) := by
      refine ⟨h.1, h.2.1, by rw [List.length_set, mst_len]; exact hl.2.2.1, fun j u hj => ?_⟩
      by_cases hji : (i : Nat) = j
      · subst hji
        rw [List.getElem?_set] at hj
        simp only [if_true] at hj
        split at hj <;> simp at hj
      · rw [List.getElem?_set_ne hji] at hj
        rcases mst_get hj with ⟨g1, g2⟩ | ⟨g1, g2, g3, g4⟩
        · exact absurd g1.symm hji
        · refine h.2.2 (j, mcV ad u) (List.mem_cons_of_mem _ (List.mem_filter.mpr ⟨mLv_mem g4, ?_⟩))
          have e1 : (j == (i : Nat)) = false := by simp [g1]
          have e2 : (j + 1 == (i : Nat) && (mcV ad u).category == 2) = false := by
            rw [mcV_cat]
            simp only [Bool.and_eq_false_iff, beq_eq_false_iff_ne]
            by_cases q : j + 1 = (i : Nat)
            · exact Or.inr fun z => g3 ⟨q, z⟩
            · exact Or.inl q
          show (!(j == (i : Nat)) && !(j + 1 == (i : Nat) && (mcV ad u).category == 2)) = true
          rw [e1, e2]; rfl
    refine k ad p e R s m args below meth c A C (cells + 1) (slots + 6) QQ (by omega) (by omega) ?_ H1 locs1 ls' hd hl'
    rw [show cells + 1 + n = cells + (1 + n) by omega, show slots + 6 + 6 * n = slots + 6 * (1 + n) by omega]
    exact hT
end
