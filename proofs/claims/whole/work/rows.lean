section
/-! ===== BEGIN words of one list among another's, by their places ===== -/
theorem goodIn_r {big : List Cond} (ws : List Cond) (ps : List Nat) (hp : ws = ps.filterMap (fun i => big[i]?)) (h : ws.all goodWord = true) : GoodIn big ws := by
  intro w hw
  have h1 := List.all_eq_true.mp h w hw
  rw [hp] at hw
  obtain ⟨i, -, hi⟩ := List.mem_filterMap.mp hw
  have hm : w ∈ big := by first | exact List.mem_of_getElem? hi | exact List.getElem?_mem hi
  exact ⟨hm, good_of_word h1⟩
theorem goodIn_app {big a b : List Cond} (ha : GoodIn big a) (hb : GoodIn big b) : GoodIn big (a ++ b) := fun w h => (List.mem_append.mp h).elim (ha w) (hb w)
theorem goodIn_ca {big a b : List Cond} {c : Cond} (ha : GoodIn big (c :: a)) (hb : GoodIn big b) : GoodIn big (c :: (a ++ b)) := fun w h => (List.mem_cons.mp h).elim (fun e => ha w (List.mem_cons.mpr (Or.inl e))) (fun h => (List.mem_append.mp h).elim (fun h => ha w (List.mem_cons.mpr (Or.inr h))) (hb w))
theorem goodIn_sub {big ws : List Cond} (hm : ∀ w ∈ ws, w ∈ big) (h : ws.all goodWord = true) : GoodIn big ws := fun w hw => ⟨hm w hw, good_of_word (List.all_eq_true.mp h w hw)⟩
/-! ===== END ===== -/

/-! ===== BEGIN exceptions that leave a method, and their catching by the caller (launches without stack traces) ===== -/
section VXA
/-! The laws vx_back, vx_callV, vx_callS, vx_callSW, vx_throw0, vx_throwS follow proofs of the library, with one case more: JvmDerived/Free/Laws.lean (Back.of_free), Shelf42/LK1.lean (callV, callS), Shelf/KitTraced.lean (throwNew0V, throwNewS). -/
/-- where a method has thrown q: the class by its name, the cell, what was written, the world -/
def vx_T (XC : String → State → State → Prop) (st : State) (q : Addr) (t : State) (mc ms : Nat) (free : Addr → Prop) : Prop :=
  ∃ (E : String) (ce : Cell) (L : List Loc), XC E st t ∧ t.heap[q]? = some ce ∧ ce.vm = .none ∧ st.vm.findClass E = some ce.cls ∧ st.WarmedH t.vm ∧ st.sameButNew ({ t with vm := st.vm } : State) L mc ms ∧ ∀ z ∈ L, free z.base
def vx_Q (Qc : Array Value → State → Outcome → State → Prop) (XC : String → State → State → Prop) (mc ms : Nat) (free : Addr → Prop) : Array Value → State → Outcome → State → Prop := fun a st o t =>
  (Qc a st o t ∧ ∃ L, FrameEnd st o t L mc ms ∧ ∀ q ∈ L, free q.base) ∨ ∃ q, o = .threw q ∧ vx_T XC st q t mc ms free
/-- a callee that returns or throws -/
def vx_Met (l : Launch) (y : MethodName) (ws : List Cond) (rm : Room) (Pc : Array Value → State → Prop) (Qc : Array Value → State → Outcome → State → Prop) (XC : String → State → State → Prop) (mc ms : Nat) (free : Addr → Prop) : Prop :=
  MetFree l y (headSpec ws rm) Pc (fun _ _ _ _ _ => True) (vx_Q Qc XC mc ms free)
def vx_Post (XC : String → State → State → Prop) (mc ms : Nat) (free : Addr → Prop) : Pt → Array Value → Addr → Pt → Prop := fun A a q B =>
  ∃ (g : JFrame) (mk : MethodId) (t : State) (L : List Loc) (E : String) (ce : Cell), B.U.heap = t.heap ∧ B.U.vm = t.vm ∧ XC E (A.U.calling g mk a) t ∧ t.heap[q]? = some ce ∧ ce.vm = .none ∧ A.U.vm.findClass E = some ce.cls ∧ B.locs = A.locs ++ L ∧ (∀ z ∈ L, free z.base) ∧ B.cells = A.cells + mc ∧ B.slots = A.slots + ms
def vx_Back (l : Launch) (R : Room) (p : Program) (e : Env) (below : List Frame) (s : State) (sargs : Array Value) (y : MethodName) (len W9 : Nat)
    (Pre : Pt → Array Value → Prop) (Post : Pt → Array Value → Option Value → Pt → Prop) (PostX : Pt → Array Value → Addr → Pt → Prop) : Prop :=
  ∀ (m : MethodId) (meth : Method) (c : Code) (A : Pt) (g : JFrame) (ig : Instr) (mk : MethodId) (a : Array Value),
    Stand p l e R s m sargs below meth c A.U A.locs A.cells A.slots → g.method = m → g.locals.size = c.maxLocals → decode c.code g.pc = .ok (ig, len) →
    2 * g.monitorRoom + (g.stack.map fun v => v.category).sum ≤ W9 → A.U.methodNamed? y = some mk → Pre A a →
    (∃ (v : Option Value) (B : Pt), Stand p l e R s m sargs below meth c B.U B.locs B.cells B.slots ∧ Post A a v B ∧
      Steps p.tables e below (doInvoke e (A.U.setTop g) [] mk a).1 (B.U.setTop { g with pc := g.pc + len, stack := v.toList ++ g.stack })) ∨
    (∃ (q : Addr) (B : Pt), Stand p l e R s m sargs below meth c B.U B.locs B.cells B.slots ∧ PostX A a q B ∧
      Steps p.tables e below (doInvoke e (A.U.setTop g) [] mk a).1 ((B.U.setTop g).pushFrame (.throwing q)))
section Payer
variable {l : Launch} {R : Room} {p : Program} {e : Env} {below : List Frame} {s : State} {sargs : Array Value} {y : MethodName} {len W9 : Nat}
theorem vx_back {ws : List Cond} {rm : Room} {Pc : Array Value → State → Prop} {Qc : Array Value → State → Outcome → State → Prop} {XC : String → State → State → Prop} {mc ms : Nat} {free : Addr → Prop} {bytes : ByteArray} {maxL : Nat} {ret : Option FieldType}
    (hM : vx_Met l y ws rm Pc Qc XC mc ms free) (hblind : FrameBlind Pc) (hrc : rm.cells = mc) (hrs : rm.slots = ms)
    (hframes : rm.frames + 1 ≤ R.frames) (hlocals : W9 + (maxL + 11) + rm.locals ≤ R.locals)
    (hws : ∀ w ∈ ws, ∀ a' U, s.WarmedH U.vm → w.before a' U = true) (hcode : Cond.code y bytes maxL ret ∈ ws) (hinit : ∀ a' U, s.WarmedH U.vm → (Cond.initialized y.cls).before a' U = true) :
    vx_Back l R p e below s sargs y len W9 (PreOf R mc ms Pc) (PostOf Qc mc ms free) (vx_Post XC mc ms free) := by
  intro m meth c A g ig mk a X hg hsize hdg hW hn hp
  have h1 : (headSpec ws rm).pre.before a A.U = true := atoms_intro fun w hw => hws w hw _ _ X.warmed
  have h2 : (Cond.code y bytes maxL ret).before a A.U = true := hws _ hcode _ _ X.warmed
  have h3 : (Cond.initialized y.cls).before a A.U = true := hinit _ _ X.warmed
  have h4 : A.cells + (headSpec ws rm).room.cells ≤ R.cells := by rw [show (headSpec ws rm).room.cells = mc from hrc]; exact hp.1
  have h5 : A.slots + (headSpec ws rm).room.slots ≤ R.slots := by rw [show (headSpec ws rm).room.slots = ms from hrs]; exact hp.2.1
  have hPc : Pc a (A.U.calling g mk a) := hblind _ _ _ _ hp.2.2
  obtain ⟨U, Ls, c0, s0⟩ := A
  dsimp only [Pt.U, Pt.locs, Pt.cells, Pt.slots] at h1 h2 h3 h4 h5 X hn hPc ⊢
  obtain ⟨methY, cY, hmY, hcY, -, hlY, -, -, -, -⟩ := Cond.code_spec hn h2
  obtain ⟨kY, hkY, -⟩ := className_of_methodNamed hn
  have hinitY : kY.init = .initialized := Cond.initialized_spec (findClass_of_methodNamed hn) hkY h3
  have h : At U g.method c below := by rw [hg]; exact X.here
  have hlocals9 : W9 + (maxL + 11) + (headSpec ws rm).room.locals ≤ R.locals := hlocals
  have happ : (headSpec ws rm).appliesLoose y e.platform (U.calling g mk a) = true :=
    Spec.appliesLoose_calling (g := g) h hdg hn hkY hinitY
      (X.room_calling (g := g) (R' := (headSpec ws rm).room) hsize hmY hcY hframes (by rw [hlY]; omega) h4 h5) h1
  obtain ⟨mid, hmid⟩ := h.above
  have hfr : (U.setTop g).frames = (.java g :: mid) ++ below := by rw [State.frames_setTop' g h.top, hmid]; rfl
  obtain ⟨o, s₂, hsteps, -, hend, hq⟩ := Steps.callFree hM p X.admits X.cas X.clock (acts := []) hfr happ hPc trivial
  have hq' : vx_Q Qc XC mc ms free a (U.calling g mk a) o s₂ := hq
  rw [State.frames_setTop' g h.top] at hend
  obtain ⟨g₀, hg0⟩ := Option.isSome_iff_exists.mp h.top
  obtain ⟨r, hr⟩ := State.topJava?_eq_some.mp hg0
  have hr' : (({ U with heap := s₂.heap, slotsUsed := s₂.slotsUsed } : State).setVm s₂.vm).frames = .java g₀ :: r := hr
  rcases hq' with ⟨hqc, L, hfe, hL⟩ | ⟨q, rfl, E, ce, L, hx, hce, hcv, hcl, hW₂, hsm, hL⟩
  · obtain ⟨⟨v, rfl⟩, hW₂, e2, q2, q3, q4, q5, q6⟩ := id hfe
    have e3 : s₂ = ({ (U.calling g mk a).setFrames s₂.frames with heap := s₂.heap, slotsUsed := s₂.slotsUsed } : State).setVm s₂.vm := by
      have : s₂ = ({ s₂ with vm := (U.calling g mk a).vm } : State).setVm s₂.vm := rfl
      rw [e2] at this
      exact this
    obtain ⟨c₂, i₂, len₂, hc₂, hd₂, hf₂⟩ := hend
    have hW' : U.WarmedH s₂.vm := hW₂
    have hcc : c₂ = c := by
      have h1 : s₂.code? g.method = U.code? g.method := by
        rw [State.code?_eq, State.code?_eq, hW'.alike.method?]
      exact Option.some.inj (hc₂.symm.trans (h1.trans h.code))
    subst hcc
    have hlen : len₂ = len := by rw [hdg] at hd₂; cases hd₂; rfl
    subst hlen
    have hs₂ : s₂ = (({ U with heap := s₂.heap, slotsUsed := s₂.slotsUsed } : State).setVm s₂.vm).setTop { g with pc := g.pc + len₂, stack := v.toList ++ g.stack } := by
      refine e3.trans ?_
      rw [hf₂, State.calling_eq h.top, State.setFrames_setFrames, State.setTop_of_frames _ hr', hr]
      rfl
    have hsame : U.sameButNew ({ U with heap := s₂.heap, slotsUsed := s₂.slotsUsed } : State) L mc ms := by
      refine ⟨?_, q2, q3, q4, q5, q6⟩
      obtain ⟨t, ht, -⟩ := State.frames_cons hr
      show ({ U with heap := s₂.heap, slotsUsed := s₂.slotsUsed } : State) = { U.setFrames U.frames with heap := s₂.heap, slotsUsed := s₂.slotsUsed }
      rw [State.setFrames_self ht]
    subst hg
    refine Or.inl ⟨v, ⟨(({ U with heap := s₂.heap, slotsUsed := s₂.slotsUsed } : State).setVm s₂.vm), Ls ++ L, c0 + mc, s0 + ms⟩,
      ⟨X.admits, X.cas, X.clock, X.frames, X.room, X.hears, X.method, X.code, (X.here.setHeapUsed s₂.heap s₂.slotsUsed).setVm hW'.alike, X.tail, State.WarmedH.trans X.warmed hW', X.limits, X.bytes, X.same.trans (hsame.setVm s.vm)⟩,
      ⟨g, mk, s₂, L, rfl, rfl, hqc, rfl, hL, rfl, rfl⟩, ?_⟩
    show Steps p.tables e below _ ((({ U with heap := s₂.heap, slotsUsed := s₂.slotsUsed } : State).setVm s₂.vm).setTop { g with pc := g.pc + len₂, stack := v.toList ++ g.stack })
    rw [← hs₂]
    exact hsteps
  · obtain ⟨e2, q2, q3, q4, q5, q6⟩ := id hsm
    have e3 : s₂ = ({ (U.calling g mk a).setFrames s₂.frames with heap := s₂.heap, slotsUsed := s₂.slotsUsed } : State).setVm s₂.vm := by
      have : s₂ = ({ s₂ with vm := (U.calling g mk a).vm } : State).setVm s₂.vm := rfl
      rw [e2] at this
      exact this
    have hf₂ : s₂.frames = .throwing q :: .java g :: U.frames.tail := hend
    have hW' : U.WarmedH s₂.vm := hW₂
    have hs₂ : s₂ = ((({ U with heap := s₂.heap, slotsUsed := s₂.slotsUsed } : State).setVm s₂.vm).setTop g).pushFrame (.throwing q) := by
      refine e3.trans ?_
      rw [hf₂, State.calling_eq h.top, State.setFrames_setFrames, State.pushFrame, State.frames_setTop _ hr', State.setTop_of_frames _ hr', State.setFrames_setFrames, hr]
      rfl
    have hsame : U.sameButNew ({ U with heap := s₂.heap, slotsUsed := s₂.slotsUsed } : State) L mc ms := by
      refine ⟨?_, q2, q3, q4, q5, q6⟩
      obtain ⟨t, ht, -⟩ := State.frames_cons hr
      show ({ U with heap := s₂.heap, slotsUsed := s₂.slotsUsed } : State) = { U.setFrames U.frames with heap := s₂.heap, slotsUsed := s₂.slotsUsed }
      rw [State.setFrames_self ht]
    subst hg
    refine Or.inr ⟨q, ⟨(({ U with heap := s₂.heap, slotsUsed := s₂.slotsUsed } : State).setVm s₂.vm), Ls ++ L, c0 + mc, s0 + ms⟩,
      ⟨X.admits, X.cas, X.clock, X.frames, X.room, X.hears, X.method, X.code, (X.here.setHeapUsed s₂.heap s₂.slotsUsed).setVm hW'.alike, X.tail, State.WarmedH.trans X.warmed hW', X.limits, X.bytes, X.same.trans (hsame.setVm s.vm)⟩,
      ⟨g, mk, s₂, L, E, ce, rfl, rfl, hx, hce, hcv, hcl, rfl, hL, rfl, rfl⟩, ?_⟩
    show Steps p.tables e below _ (((({ U with heap := s₂.heap, slotsUsed := s₂.slotsUsed } : State).setVm s₂.vm).setTop g).pushFrame (.throwing q))
    rw [← hs₂]
    exact hsteps
end Payer
section Calls
variable {p : Program} {l : Launch} {e : Env} {R : Room} {s : State} {m : MethodId} {args : Array Value} {below : List Frame} {meth : Method} {c : Code} {T : State} {locs : List Loc} {cells slots : Nat}
theorem vx_callV (X : Stand p l e R s m args below meth c T locs cells slots) (hexec : p.tables.exec = Jvm.exec) {own C : String} {index : Nat} {y : MethodName} {bytes : ByteArray} {maxL : Nat} {ret : Option FieldType}
    (hown : s.vm.findClass own = some m.cls) (hlink : (Cond.methodLink own index y).before args s = true) (hinst : (Cond.instanceMethod y).before args s = true) (hsel : (Cond.selects C y y).before args s = true)
    (hcode : (Cond.code y bytes maxL ret).before args s = true) (hy : y.cls ≠ "java/lang/invoke/MethodHandle" ∧ y.cls ≠ "java/lang/invoke/VarHandle")
    {W9 : Nat} {Pre : Pt → Array Value → Prop} {Post : Pt → Array Value → Option Value → Pt → Prop} {PostX : Pt → Array Value → Addr → Pt → Prop} (hK : vx_Back l R p e below s args y 3 W9 Pre Post PostX)
    {b : Addr} {cellB : Cell} (hcell : T.heap[b]? = some cellB) (hobj : cellB.vm.isStatics = false) (hcls : s.vm.findClass C = some cellB.cls)
    {g : JFrame} (hg : g.method = m) (hsize : g.locals.size = c.maxLocals) {argsL rest : List Value} (hlen : ∀ sig, parseMethodDescriptor y.desc = some sig → argsL.length = sig.parameters.length)
    (hstack : g.stack = argsL.reverse ++ .ref b :: rest) (hW : 2 * g.monitorRoom + (rest.map fun v => v.category).sum ≤ W9) (hdg : decode c.code g.pc = .ok (.invokevirtual index, 3))
    (hpre : ∀ vm₁, s.WarmedH vm₁ → Pre ⟨T.setVm vm₁, locs, cells, slots⟩ (Value.ref b :: argsL).toArray) :
    (∃ (v : Option Value) (vm₁ : Vm) (B : Pt), s.WarmedH vm₁ ∧ Stand p l e R s m args below meth c B.U B.locs B.cells B.slots ∧ Post ⟨T.setVm vm₁, locs, cells, slots⟩ (Value.ref b :: argsL).toArray v B ∧
      ∀ target, Steps p.tables e below (B.U.setTop { g with pc := g.pc + 3, stack := v.toList ++ rest }) target → Steps p.tables e below (T.setTop g) target) ∨
    (∃ (q : Addr) (vm₁ : Vm) (B : Pt), s.WarmedH vm₁ ∧ Stand p l e R s m args below meth c B.U B.locs B.cells B.slots ∧ PostX ⟨T.setVm vm₁, locs, cells, slots⟩ (Value.ref b :: argsL).toArray q B ∧
      Steps p.tables e below (T.setTop g) ((B.U.setTop { g with stack := rest }).pushFrame (.throwing q))) := by
  obtain ⟨mk, methM, hnamed, hmethM, hstM, habM⟩ := Cond.instanceMethod_spec hinst
  obtain ⟨methM', cM, hmethM', -, -, -, -, -, -, hsigM⟩ := Cond.code_spec hnamed hcode
  cases hmethM.symm.trans hmethM'
  obtain ⟨c2, r2, m2, q1, q2, q3, q4, kP, hkP, hkPi⟩ := Cond.selects_spec hsel
  cases hcls.symm.trans q1
  cases (State.methodFound?_of_named hnamed hy).symm.trans q2
  cases hnamed.symm.trans q3
  have hselP : selectMethod e.platform s.vm cellB.cls mk = .method mk := by rw [Launch.admits_selectMethod X.admits]; exact q4
  obtain ⟨vm₁, X₁, hstep₁⟩ := X.invokevirtual hexec hown hlink hnamed hmethM hstM hkP hkPi hy (a := b) (cell := cellB) hcell
    (fun z h => by rw [h] at hobj; cases hobj) hselP hmethM habM hkP hkPi (g := g) hg (argsL := argsL) (rest := rest) (hlen _ hsigM) hstack hdg
  rcases hK m meth c ⟨T.setVm vm₁, locs, cells, slots⟩ { g with stack := rest } (.invokevirtual index) mk (Value.ref b :: argsL).toArray X₁ hg hsize hdg hW (X₁.named hnamed) (hpre vm₁ X₁.warmed) with ⟨v, B, X', hpost, hsteps⟩ | ⟨q, B, X', hpost, hsteps⟩
  · exact Or.inl ⟨v, vm₁, B, X₁.warmed, X', hpost, fun target h => hstep₁ _ fun acts => by rw [doInvoke_state]; exact hsteps.trans h⟩
  · exact Or.inr ⟨q, vm₁, B, X₁.warmed, X', hpost, hstep₁ _ fun acts => by rw [doInvoke_state]; exact hsteps⟩
theorem vx_callS (X : Stand p l e R s m args below meth c T locs cells slots) (hexec : p.tables.exec = Jvm.exec) {own : String} {index : Nat} {y : MethodName} {bytes : ByteArray} {maxL : Nat} {ret : Option FieldType}
    (hown : s.vm.findClass own = some m.cls) (hlink : (Cond.methodLink own index y).before args s = true) (hstat : (Cond.static y).before args s = true) (hinit : (Cond.initialized y.cls).before args s = true)
    (hcode : (Cond.code y bytes maxL ret).before args s = true) (hy : y.cls ≠ "java/lang/invoke/MethodHandle" ∧ y.cls ≠ "java/lang/invoke/VarHandle")
    {W9 : Nat} {Pre : Pt → Array Value → Prop} {Post : Pt → Array Value → Option Value → Pt → Prop} {PostX : Pt → Array Value → Addr → Pt → Prop} (hK : vx_Back l R p e below s args y 3 W9 Pre Post PostX)
    {g : JFrame} (hg : g.method = m) (hsize : g.locals.size = c.maxLocals) {argsL rest : List Value} (hlen : ∀ sig, parseMethodDescriptor y.desc = some sig → argsL.length = sig.parameters.length)
    (hstack : g.stack = argsL.reverse ++ rest) (hW : 2 * g.monitorRoom + (rest.map fun v => v.category).sum ≤ W9) (hdg : decode c.code g.pc = .ok (.invokestatic index, 3))
    (hpre : ∀ vm₁, s.WarmedH vm₁ → Pre ⟨T.setVm vm₁, locs, cells, slots⟩ argsL.toArray) :
    (∃ (v : Option Value) (vm₁ : Vm) (B : Pt), s.WarmedH vm₁ ∧ Stand p l e R s m args below meth c B.U B.locs B.cells B.slots ∧ Post ⟨T.setVm vm₁, locs, cells, slots⟩ argsL.toArray v B ∧
      ∀ target, Steps p.tables e below (B.U.setTop { g with pc := g.pc + 3, stack := v.toList ++ rest }) target → Steps p.tables e below (T.setTop g) target) ∨
    (∃ (q : Addr) (vm₁ : Vm) (B : Pt), s.WarmedH vm₁ ∧ Stand p l e R s m args below meth c B.U B.locs B.cells B.slots ∧ PostX ⟨T.setVm vm₁, locs, cells, slots⟩ argsL.toArray q B ∧
      Steps p.tables e below (T.setTop g) ((B.U.setTop { g with stack := rest }).pushFrame (.throwing q))) := by
  obtain ⟨mk, hnamed⟩ := Cond.code_named hcode
  obtain ⟨methM, cM, hmethM, -, -, -, -, -, -, hsigM⟩ := Cond.code_spec hnamed hcode
  have hstatic : methM.isStatic = true := Cond.static_spec hnamed hmethM hstat
  obtain ⟨kP, hkP, -⟩ := className_of_methodNamed hnamed
  have hinitP : kP.init = .initialized := Cond.initialized_spec (findClass_of_methodNamed hnamed) hkP hinit
  obtain ⟨vm₁, X₁, hstep₁⟩ := X.invokestatic hexec hown hlink hnamed hmethM hstatic hkP hinitP hy (g := g) hg (argsL := argsL) (rest := rest) (hlen _ hsigM) hstack hdg
  rcases hK m meth c ⟨T.setVm vm₁, locs, cells, slots⟩ { g with stack := rest } (.invokestatic index) mk argsL.toArray X₁ hg hsize hdg hW (X₁.named hnamed) (hpre vm₁ X₁.warmed) with ⟨v, B, X', hpost, hsteps⟩ | ⟨q, B, X', hpost, hsteps⟩
  · exact Or.inl ⟨v, vm₁, B, X₁.warmed, X', hpost, fun target h => hstep₁ _ fun acts => by rw [doInvoke_state]; exact hsteps.trans h⟩
  · exact Or.inr ⟨q, vm₁, B, X₁.warmed, X', hpost, hstep₁ _ fun acts => by rw [doInvoke_state]; exact hsteps⟩
end Calls
theorem vx_cls {s : State} {T : State} {vm₁ : Vm} {E : String} {k : ClassId} (hW : s.WarmedH vm₁) (h : (T.setVm vm₁).vm.findClass E = some k) : s.vm.findClass E = some k := by
  have h1 : vm₁.findClass E = some k := h
  rw [hW.alike.findClass] at h1
  exact h1
/-- the method's frame g, with q thrown over it -/
def vx_W (p : Program) (l : Launch) (e : Env) (R : Room) (s : State) (m : MethodId) (args : Array Value) (below : List Frame) (meth : Method) (c : Code) (H : Heap) (locs : List Loc) (cells slots : Nat) (Q : State → Prop) (g : JFrame) (q : Addr) : Prop :=
  ∀ T : State, T.heap = H → Stand p l e R s m args below meth c T locs cells slots → ∃ t, Steps p.tables e below ((T.setTop g).pushFrame (.throwing q)) t ∧ Q t
def vx_Run (p : Program) (l : Launch) (e : Env) (R : Room) (s : State) (m : MethodId) (args : Array Value) (below : List Frame) (meth : Method) (c : Code) (H : Heap) (locs : List Loc) (cells slots mc ms : Nat) (g : JFrame) (rest : List Value) (Qa : State → Outcome → State → Prop) (XC : String → State → State → Prop) (free : Addr → Prop) : Prop :=
  ∀ T : State, T.heap = H → Stand p l e R s m args below meth c T locs cells slots →
    (∃ (v : Option Value) (st₀ t T' : State) (L : List Loc), st₀.heap = H ∧ Stand p l e R s m args below meth c T' (locs ++ L) (cells + mc) (slots + ms) ∧ (∀ q ∈ L, free q.base) ∧ T'.heap = t.heap ∧ T'.vm = t.vm ∧ Qa st₀ (.returned v) t ∧
      Goes p e below T g T' { g with pc := g.pc + 3, stack := v.toList ++ rest }) ∨
    (∃ (q : Addr) (st₀ t T' : State) (L : List Loc) (E : String) (ce : Cell), st₀.heap = H ∧ Stand p l e R s m args below meth c T' (locs ++ L) (cells + mc) (slots + ms) ∧ (∀ z ∈ L, free z.base) ∧ T'.heap = t.heap ∧ T'.vm = t.vm ∧ XC E st₀ t ∧ t.heap[q]? = some ce ∧ ce.vm = .none ∧ s.vm.findClass E = some ce.cls ∧
      Steps p.tables e below (T.setTop g) ((T'.setTop { g with stack := rest }).pushFrame (.throwing q)))
def vx_X {S : Type} (px : S → Prop) (B : String → S → State → Prop) (A : Nat → Prop) : String → State → State → Prop := fun E st t => ∃ u : S, px u ∧ B E u t ∧ va_F A st t
section Runs
variable {p : Program} {l : Launch} {e : Env} {R : Room} {s : State} {m : MethodId} {args : Array Value} {below : List Frame} {meth : Method} {c : Code} {H : Heap} {locs : List Loc} {cells slots : Nat}
variable {y : MethodName} {bytes cc : ByteArray} {maxL nL mc ms n index : Nat} {ret : Option FieldType} {ws : List Cond} {rm : Room} {Pc : Array Value → State → Prop} {Qc : Array Value → State → Outcome → State → Prop} {XC : String → State → State → Prop} {free : Addr → Prop} {Ts : List Cond} {own C : String} {b : Addr} {As rest : List Value} {g : JFrame}
theorem vx_callBack (cb : CallB R s args own index y bytes maxL ret ws rm mc ms n) (hM : vx_Met l y ws rm Pc Qc XC mc ms free) (hbl : FrameBlind Pc) : vx_Back l R p e below s args y 3 8 (PreOf R mc ms Pc) (PostOf Qc mc ms free) (vx_Post XC mc ms free) := by
  obtain ⟨hrc, hrs, hfr, hlo, hws, hcw, -, hini, -⟩ := cb
  exact vx_back (bytes := bytes) (maxL := maxL) (ret := ret) hM hbl hrc hrs hfr hlo hws hcw (fun a' U hW => word_at hW (Or.inl (by first | rfl | simp [Cond.onTables, Cond.keeps, Cond.steady])) hini)
theorem vx_runV (S : CallFix p m c cc nL s args Ts own) (hM : vx_Met l y ws rm Pc Qc XC mc ms free) (cw : CallW R s args own C index y bytes maxL ret ws rm mc ms n) (hp : PreV s H C b Pc As)
    (hg : g.method = m) (hn : As.length = n) (hsize : g.locals.size = nL) (hstack : g.stack = As.reverse ++ .ref b :: rest) (hW : 2 * g.monitorRoom + (rest.map fun v => v.category).sum ≤ 8) (hdg : decode cc g.pc = .ok (.invokevirtual index, 3)) (hf : cells + mc ≤ R.cells ∧ slots + ms ≤ R.slots) :
    vx_Run p l e R s m args below meth c H locs cells slots mc ms g rest (Qc (Value.ref b :: As).toArray) XC free := by
  have hK : vx_Back l R p e below s args y 3 8 (PreOf R mc ms Pc) (PostOf Qc mc ms free) (vx_Post XC mc ms free) := vx_callBack cw.1 hM hp.1
  obtain ⟨⟨-, -, -, -, -, -, hcode, -, hy, hlen, hl⟩, hin, hse⟩ := cw
  obtain ⟨hx, hb, hml, ho, -⟩ := S
  obtain ⟨-, ⟨cellB, hcB, hoB, hclB⟩, hPc⟩ := hp
  intro T hT X
  rcases vx_callV X hx (C := C) (bytes := bytes) (maxL := maxL) (ret := ret) ho hl hin hse hcode hy hK (by rw [hT]; exact hcB) hoB hclB hg (hsize.trans hml.symm) (argsL := As) (rest := rest) (fun sig h => hn.trans (hlen sig h)) hstack hW (by rw [hb]; exact hdg)
    (fun vm₁ hW₁ => ⟨hf.1, hf.2, hPc (T.setVm vm₁) hT hW₁⟩) with ⟨v, vm₁, ⟨U', l2, c2, s2⟩, hW₁, X', ⟨g', mk, t, L, e1, e2, hq, h1, hL, h2, h3⟩, st⟩ | ⟨q, vm₁, ⟨U', l2, c2, s2⟩, hW₁, X', ⟨g', mk, t, L, E, ce, e1, e2, hq, hce, hcv, hcl, h1, hL, h2, h3⟩, st⟩
  · dsimp only [Pt.U, Pt.locs, Pt.cells, Pt.slots] at X' e1 e2 h1 h2 h3 st
    subst h1; subst h2; subst h3
    exact Or.inl ⟨v, (T.setVm vm₁).calling g' mk (Value.ref b :: As).toArray, t, U', L, hT, X', hL, e1, e2, hq, st⟩
  · dsimp only [Pt.U, Pt.locs, Pt.cells, Pt.slots] at X' e1 e2 h1 h2 h3 st hcl
    subst h1; subst h2; subst h3
    exact Or.inr ⟨q, (T.setVm vm₁).calling g' mk (Value.ref b :: As).toArray, t, U', L, E, ce, hT, X', hL, e1, e2, hq, hce, hcv, vx_cls hW₁ hcl, st⟩
theorem vx_runS (S : CallFix p m c cc nL s args Ts own) (hM : vx_Met l y ws rm Pc Qc XC mc ms free) (cw : CallB R s args own index y bytes maxL ret ws rm mc ms n ∧ (Cond.static y).before args s = true) (hp : PreS s H Pc As)
    (hg : g.method = m) (hn : As.length = n) (hsize : g.locals.size = nL) (hstack : g.stack = As.reverse ++ rest) (hW : 2 * g.monitorRoom + (rest.map fun v => v.category).sum ≤ 8) (hdg : decode cc g.pc = .ok (.invokestatic index, 3)) (hf : cells + mc ≤ R.cells ∧ slots + ms ≤ R.slots) :
    vx_Run p l e R s m args below meth c H locs cells slots mc ms g rest (Qc As.toArray) XC free := by
  have hK : vx_Back l R p e below s args y 3 8 (PreOf R mc ms Pc) (PostOf Qc mc ms free) (vx_Post XC mc ms free) := vx_callBack cw.1 hM hp.1
  obtain ⟨⟨-, -, -, -, -, -, hcode, hini, hy, hlen, hl⟩, hstt⟩ := cw
  obtain ⟨hx, hb, hml, ho, -⟩ := S
  intro T hT X
  rcases vx_callS X hx (bytes := bytes) (maxL := maxL) (ret := ret) ho hl hstt hini hcode hy hK hg (hsize.trans hml.symm) (argsL := As) (rest := rest) (fun sig h => hn.trans (hlen sig h)) hstack hW (by rw [hb]; exact hdg)
    (fun vm₁ hW₁ => ⟨hf.1, hf.2, hp.2 (T.setVm vm₁) hT hW₁⟩) with ⟨v, vm₁, ⟨U', l2, c2, s2⟩, hW₁, X', ⟨g', mk, t, L, e1, e2, hq, h1, hL, h2, h3⟩, st⟩ | ⟨q, vm₁, ⟨U', l2, c2, s2⟩, hW₁, X', ⟨g', mk, t, L, E, ce, e1, e2, hq, hce, hcv, hcl, h1, hL, h2, h3⟩, st⟩
  · dsimp only [Pt.U, Pt.locs, Pt.cells, Pt.slots] at X' e1 e2 h1 h2 h3 st
    subst h1; subst h2; subst h3
    exact Or.inl ⟨v, (T.setVm vm₁).calling g' mk As.toArray, t, U', L, hT, X', hL, e1, e2, hq, st⟩
  · dsimp only [Pt.U, Pt.locs, Pt.cells, Pt.slots] at X' e1 e2 h1 h2 h3 st hcl
    subst h1; subst h2; subst h3
    exact Or.inr ⟨q, (T.setVm vm₁).calling g' mk As.toArray, t, U', L, E, ce, hT, X', hL, e1, e2, hq, hce, hcv, vx_cls hW₁ hcl, st⟩
end Runs
section Rows
variable {p : Program} {l : Launch} {e : Env} {R : Room} {s : State} {m : MethodId} {args : Array Value} {below : List Frame} {meth : Method} {c : Code} {H : Heap} {locs : List Loc} {cells slots : Nat} {Q : State → Prop}
variable {mc ms : Nat} {free : Addr → Prop} {A0 A1 : Nat → Prop} {H0 : Heap} {a : Array Value} {pc : Nat} {ls : Array Slot} {st0 rest : List Value}
theorem vx_keep {st₀ t T' : State} {L : List Loc} (h0 : st₀.heap = H) (e1 : T'.heap = t.heap) (hS : va_S A0 H0 H locs) (hA : ∀ q, q < H.size → A1 q → A0 q) (hf : ∀ q, free q → A0 q) (hL : ∀ q ∈ L, free q.base) (hF : va_F A1 st₀ t) :
    H.size ≤ T'.heap.size ∧ (∀ q : Nat, q < H.size → ¬ A1 q → T'.heap[q]? = H[q]?) ∧ va_S A0 H0 T'.heap (locs ++ L) := by
  obtain ⟨hz, hk⟩ := hF
  rw [h0] at hz hk
  exact ⟨by rw [e1]; exact hz, fun q h1 h2 => by rw [e1]; exact hk q h1 h2,
    ⟨Nat.le_trans hS.1 (by rw [e1]; exact hz), fun q h1 h2 => by rw [e1, hk q (Nat.lt_of_lt_of_le h1 hS.1) (fun z => h2 (hA q (Nat.lt_of_lt_of_le h1 hS.1) z))]; exact hS.2.1 q h1 h2, fun q hq => by
      rcases List.mem_append.mp hq with h | h
      · exact hS.2.2 q h
      · exact hf _ (hL q h)⟩⟩
theorem vx_calli {S SX : Type} {post : Int32 → S → Prop} {px : SX → Prop} {B : S → State → Prop} {BX : String → SX → State → Prop} {AX : Nat → Prop} (hr : vx_Run p l e R s m args below meth c H locs cells slots mc ms (F0 m pc ls st0) rest (va_Qi post B A1 a) (vx_X px BX AX) free) (hS : va_S A0 H0 H locs) (hA : ∀ q, q < H.size → A1 q → A0 q) (hf : ∀ q, free q → A0 q) (hAX : ∀ q, q < H.size → AX q → A0 q)
    (kx : ∀ (E : String) (ce : Cell) (q9 : Addr) (u : SX) (t : State) (H1 : Heap) (locs1 : List Loc), t.heap = H1 → s.vm.Alike t.vm → px u → BX E u t → H.size ≤ H1.size → (∀ q : Nat, q < H.size → ¬ AX q → H1[q]? = H[q]?) → va_S A0 H0 H1 locs1 → H1[q9]? = some ce → ce.vm = .none → s.vm.findClass E = some ce.cls → vx_W p l e R s m args below meth c H1 locs1 (cells + mc) (slots + ms) Q (F0 m pc ls rest) q9)
    (kk : ∀ (r : Int32) (u : S) (t : State) (H1 : Heap) (locs1 : List Loc), t.heap = H1 → s.vm.Alike t.vm → post r u → B u t → H.size ≤ H1.size → (∀ q : Nat, q < H.size → ¬ A1 q → H1[q]? = H[q]?) → va_S A0 H0 H1 locs1 → W p l e R s m args below meth c H1 locs1 (cells + mc) (slots + ms) Q (F0 m (pc + 3) ls (.int r :: rest))) : W p l e R s m args below meth c H locs cells slots Q (F0 m pc ls st0) := by
  intro T hT X
  rcases hr T hT X with ⟨v, st₀, t, T', L, h0, X', hL, e1, e2, ⟨⟨r, u, hv, hp, hb⟩, hF⟩, st⟩ | ⟨q, st₀, t, T', L, E, ce, h0, X', hL, e1, e2, ⟨u, hp, hb, hF⟩, hce, hcv, hcl, st⟩
  · cases hv
    obtain ⟨k1, k2, k3⟩ := vx_keep h0 e1 hS hA hf hL hF
    obtain ⟨t2, a1, b1⟩ := kk r u t T'.heap (locs ++ L) e1.symm (by rw [← e2]; exact X'.warmed.alike) hp hb k1 k2 k3 T' rfl X'
    exact ⟨t2, st t2 a1, b1⟩
  · obtain ⟨k1, k2, k3⟩ := vx_keep h0 e1 hS hAX hf hL hF
    obtain ⟨t2, a1, b1⟩ := kx E ce q u t T'.heap (locs ++ L) e1.symm (by rw [← e2]; exact X'.warmed.alike) hp hb k1 k2 k3 (by rw [e1]; exact hce) hcv hcl T' rfl X'
    exact ⟨t2, st.trans a1, b1⟩
theorem vx_calll {S SX : Type} {post : Int64 → S → Prop} {px : SX → Prop} {B : S → State → Prop} {BX : String → SX → State → Prop} {AX : Nat → Prop} (hr : vx_Run p l e R s m args below meth c H locs cells slots mc ms (F0 m pc ls st0) rest (va_Ql post B A1 a) (vx_X px BX AX) free) (hS : va_S A0 H0 H locs) (hA : ∀ q, q < H.size → A1 q → A0 q) (hf : ∀ q, free q → A0 q) (hAX : ∀ q, q < H.size → AX q → A0 q)
    (kx : ∀ (E : String) (ce : Cell) (q9 : Addr) (u : SX) (t : State) (H1 : Heap) (locs1 : List Loc), t.heap = H1 → s.vm.Alike t.vm → px u → BX E u t → H.size ≤ H1.size → (∀ q : Nat, q < H.size → ¬ AX q → H1[q]? = H[q]?) → va_S A0 H0 H1 locs1 → H1[q9]? = some ce → ce.vm = .none → s.vm.findClass E = some ce.cls → vx_W p l e R s m args below meth c H1 locs1 (cells + mc) (slots + ms) Q (F0 m pc ls rest) q9)
    (kk : ∀ (r : Int64) (u : S) (t : State) (H1 : Heap) (locs1 : List Loc), t.heap = H1 → s.vm.Alike t.vm → post r u → B u t → H.size ≤ H1.size → (∀ q : Nat, q < H.size → ¬ A1 q → H1[q]? = H[q]?) → va_S A0 H0 H1 locs1 → W p l e R s m args below meth c H1 locs1 (cells + mc) (slots + ms) Q (F0 m (pc + 3) ls (.long r :: rest))) : W p l e R s m args below meth c H locs cells slots Q (F0 m pc ls st0) := by
  intro T hT X
  rcases hr T hT X with ⟨v, st₀, t, T', L, h0, X', hL, e1, e2, ⟨⟨r, u, hv, hp, hb⟩, hF⟩, st⟩ | ⟨q, st₀, t, T', L, E, ce, h0, X', hL, e1, e2, ⟨u, hp, hb, hF⟩, hce, hcv, hcl, st⟩
  · cases hv
    obtain ⟨k1, k2, k3⟩ := vx_keep h0 e1 hS hA hf hL hF
    obtain ⟨t2, a1, b1⟩ := kk r u t T'.heap (locs ++ L) e1.symm (by rw [← e2]; exact X'.warmed.alike) hp hb k1 k2 k3 T' rfl X'
    exact ⟨t2, st t2 a1, b1⟩
  · obtain ⟨k1, k2, k3⟩ := vx_keep h0 e1 hS hAX hf hL hF
    obtain ⟨t2, a1, b1⟩ := kx E ce q u t T'.heap (locs ++ L) e1.symm (by rw [← e2]; exact X'.warmed.alike) hp hb k1 k2 k3 (by rw [e1]; exact hce) hcv hcl T' rfl X'
    exact ⟨t2, st.trans a1, b1⟩
theorem vx_callf {S SX : Type} {post : UInt32 → S → Prop} {px : SX → Prop} {B : S → State → Prop} {BX : String → SX → State → Prop} {AX : Nat → Prop} (hr : vx_Run p l e R s m args below meth c H locs cells slots mc ms (F0 m pc ls st0) rest (va_Qf post B A1 a) (vx_X px BX AX) free) (hS : va_S A0 H0 H locs) (hA : ∀ q, q < H.size → A1 q → A0 q) (hf : ∀ q, free q → A0 q) (hAX : ∀ q, q < H.size → AX q → A0 q)
    (kx : ∀ (E : String) (ce : Cell) (q9 : Addr) (u : SX) (t : State) (H1 : Heap) (locs1 : List Loc), t.heap = H1 → s.vm.Alike t.vm → px u → BX E u t → H.size ≤ H1.size → (∀ q : Nat, q < H.size → ¬ AX q → H1[q]? = H[q]?) → va_S A0 H0 H1 locs1 → H1[q9]? = some ce → ce.vm = .none → s.vm.findClass E = some ce.cls → vx_W p l e R s m args below meth c H1 locs1 (cells + mc) (slots + ms) Q (F0 m pc ls rest) q9)
    (kk : ∀ (r : UInt32) (u : S) (t : State) (H1 : Heap) (locs1 : List Loc), t.heap = H1 → s.vm.Alike t.vm → post r u → B u t → H.size ≤ H1.size → (∀ q : Nat, q < H.size → ¬ A1 q → H1[q]? = H[q]?) → va_S A0 H0 H1 locs1 → W p l e R s m args below meth c H1 locs1 (cells + mc) (slots + ms) Q (F0 m (pc + 3) ls (.float r :: rest))) : W p l e R s m args below meth c H locs cells slots Q (F0 m pc ls st0) := by
  intro T hT X
  rcases hr T hT X with ⟨v, st₀, t, T', L, h0, X', hL, e1, e2, ⟨⟨r, u, hv, hp, hb⟩, hF⟩, st⟩ | ⟨q, st₀, t, T', L, E, ce, h0, X', hL, e1, e2, ⟨u, hp, hb, hF⟩, hce, hcv, hcl, st⟩
  · cases hv
    obtain ⟨k1, k2, k3⟩ := vx_keep h0 e1 hS hA hf hL hF
    obtain ⟨t2, a1, b1⟩ := kk r u t T'.heap (locs ++ L) e1.symm (by rw [← e2]; exact X'.warmed.alike) hp hb k1 k2 k3 T' rfl X'
    exact ⟨t2, st t2 a1, b1⟩
  · obtain ⟨k1, k2, k3⟩ := vx_keep h0 e1 hS hAX hf hL hF
    obtain ⟨t2, a1, b1⟩ := kx E ce q u t T'.heap (locs ++ L) e1.symm (by rw [← e2]; exact X'.warmed.alike) hp hb k1 k2 k3 (by rw [e1]; exact hce) hcv hcl T' rfl X'
    exact ⟨t2, st.trans a1, b1⟩
theorem vx_calld {S SX : Type} {post : UInt64 → S → Prop} {px : SX → Prop} {B : S → State → Prop} {BX : String → SX → State → Prop} {AX : Nat → Prop} (hr : vx_Run p l e R s m args below meth c H locs cells slots mc ms (F0 m pc ls st0) rest (va_Qd post B A1 a) (vx_X px BX AX) free) (hS : va_S A0 H0 H locs) (hA : ∀ q, q < H.size → A1 q → A0 q) (hf : ∀ q, free q → A0 q) (hAX : ∀ q, q < H.size → AX q → A0 q)
    (kx : ∀ (E : String) (ce : Cell) (q9 : Addr) (u : SX) (t : State) (H1 : Heap) (locs1 : List Loc), t.heap = H1 → s.vm.Alike t.vm → px u → BX E u t → H.size ≤ H1.size → (∀ q : Nat, q < H.size → ¬ AX q → H1[q]? = H[q]?) → va_S A0 H0 H1 locs1 → H1[q9]? = some ce → ce.vm = .none → s.vm.findClass E = some ce.cls → vx_W p l e R s m args below meth c H1 locs1 (cells + mc) (slots + ms) Q (F0 m pc ls rest) q9)
    (kk : ∀ (r : UInt64) (u : S) (t : State) (H1 : Heap) (locs1 : List Loc), t.heap = H1 → s.vm.Alike t.vm → post r u → B u t → H.size ≤ H1.size → (∀ q : Nat, q < H.size → ¬ A1 q → H1[q]? = H[q]?) → va_S A0 H0 H1 locs1 → W p l e R s m args below meth c H1 locs1 (cells + mc) (slots + ms) Q (F0 m (pc + 3) ls (.double r :: rest))) : W p l e R s m args below meth c H locs cells slots Q (F0 m pc ls st0) := by
  intro T hT X
  rcases hr T hT X with ⟨v, st₀, t, T', L, h0, X', hL, e1, e2, ⟨⟨r, u, hv, hp, hb⟩, hF⟩, st⟩ | ⟨q, st₀, t, T', L, E, ce, h0, X', hL, e1, e2, ⟨u, hp, hb, hF⟩, hce, hcv, hcl, st⟩
  · cases hv
    obtain ⟨k1, k2, k3⟩ := vx_keep h0 e1 hS hA hf hL hF
    obtain ⟨t2, a1, b1⟩ := kk r u t T'.heap (locs ++ L) e1.symm (by rw [← e2]; exact X'.warmed.alike) hp hb k1 k2 k3 T' rfl X'
    exact ⟨t2, st t2 a1, b1⟩
  · obtain ⟨k1, k2, k3⟩ := vx_keep h0 e1 hS hAX hf hL hF
    obtain ⟨t2, a1, b1⟩ := kx E ce q u t T'.heap (locs ++ L) e1.symm (by rw [← e2]; exact X'.warmed.alike) hp hb k1 k2 k3 (by rw [e1]; exact hce) hcv hcl T' rfl X'
    exact ⟨t2, st.trans a1, b1⟩
theorem vx_callv {S SX : Type} {post : S → Prop} {px : SX → Prop} {B : S → State → Prop} {BX : String → SX → State → Prop} {AX : Nat → Prop} (hr : vx_Run p l e R s m args below meth c H locs cells slots mc ms (F0 m pc ls st0) rest (va_Qv post B A1 a) (vx_X px BX AX) free) (hS : va_S A0 H0 H locs) (hA : ∀ q, q < H.size → A1 q → A0 q) (hf : ∀ q, free q → A0 q) (hAX : ∀ q, q < H.size → AX q → A0 q)
    (kx : ∀ (E : String) (ce : Cell) (q9 : Addr) (u : SX) (t : State) (H1 : Heap) (locs1 : List Loc), t.heap = H1 → s.vm.Alike t.vm → px u → BX E u t → H.size ≤ H1.size → (∀ q : Nat, q < H.size → ¬ AX q → H1[q]? = H[q]?) → va_S A0 H0 H1 locs1 → H1[q9]? = some ce → ce.vm = .none → s.vm.findClass E = some ce.cls → vx_W p l e R s m args below meth c H1 locs1 (cells + mc) (slots + ms) Q (F0 m pc ls rest) q9)
    (kk : ∀ (u : S) (t : State) (H1 : Heap) (locs1 : List Loc), t.heap = H1 → s.vm.Alike t.vm → post u → B u t → H.size ≤ H1.size → (∀ q : Nat, q < H.size → ¬ A1 q → H1[q]? = H[q]?) → va_S A0 H0 H1 locs1 → W p l e R s m args below meth c H1 locs1 (cells + mc) (slots + ms) Q (F0 m (pc + 3) ls (rest))) : W p l e R s m args below meth c H locs cells slots Q (F0 m pc ls st0) := by
  intro T hT X
  rcases hr T hT X with ⟨v, st₀, t, T', L, h0, X', hL, e1, e2, ⟨⟨u, hv, hp, hb⟩, hF⟩, st⟩ | ⟨q, st₀, t, T', L, E, ce, h0, X', hL, e1, e2, ⟨u, hp, hb, hF⟩, hce, hcv, hcl, st⟩
  · cases hv
    obtain ⟨k1, k2, k3⟩ := vx_keep h0 e1 hS hA hf hL hF
    obtain ⟨t2, a1, b1⟩ := kk u t T'.heap (locs ++ L) e1.symm (by rw [← e2]; exact X'.warmed.alike) hp hb k1 k2 k3 T' rfl X'
    exact ⟨t2, st t2 a1, b1⟩
  · obtain ⟨k1, k2, k3⟩ := vx_keep h0 e1 hS hAX hf hL hF
    obtain ⟨t2, a1, b1⟩ := kx E ce q u t T'.heap (locs ++ L) e1.symm (by rw [← e2]; exact X'.warmed.alike) hp hb k1 k2 k3 (by rw [e1]; exact hce) hcv hcl T' rfl X'
    exact ⟨t2, st.trans a1, b1⟩
/-- caught by the row x of this method's table; the rows ahead don't take it -/
theorem vx_catch {own name : String} {E : String} {ce : Cell} {q : Addr} (hown : s.vm.findClass own = some m.cls) (pre : List ExceptionTableEntry) (x : ExceptionTableEntry) (suf : List ExceptionTableEntry) (hsplit : c.exceptionTable.toList = pre ++ x :: suf)
    (hpass : ∀ z ∈ pre, covers z pc = false ∨ (z.catchType ≠ 0 ∧ ∃ nm : String, (Cond.classLink own z.catchType nm).before args s = true ∧ va_Nc E nm s)) (hx : covers x pc = true) (h0 : x.catchType ≠ 0)
    (hlink : (Cond.classLink own x.catchType name).before args s = true) (hcast : (Cond.castable E name).before args s = true) (hcell : H[q]? = some ce) (hv : ce.vm = .none) (hcl : s.vm.findClass E = some ce.cls)
    (kk : W p l e R s m args below meth c H locs cells slots Q (F0 m x.handlerPc ls [.ref q])) : vx_W p l e R s m args below meth c H locs cells slots Q (F0 m pc ls rest) q := by
  intro T hT X
  have hpl : e.platform.magicAccessors = ({} : Platform).magicAccessors := by rw [X.admits.platform]
  obtain ⟨c3, c4, hc3, hc4, hasg⟩ := Cond.castable_spec hcast
  cases Option.some.inj (hc3.symm.trans hcl)
  obtain ⟨c5, hc5, hcl5⟩ := Cond.classLink_spec hown hlink e.platform hpl
  cases Option.some.inj (hc4.symm.trans hc5)
  obtain ⟨vm', X', st⟩ := X.thenCaughtThrough q (g := F0 m pc ls rest) rfl (Steps.refl _) (by rw [hT]; exact hcell) (by rw [hv]; rfl) (by obtain ⟨k9, h9, -⟩ := Vm.findClass_spec hcl; exact ⟨k9, h9⟩) pre x suf hsplit
    (fun z hz => by
      rcases hpass z hz with h | ⟨hz0, nm, hl1, hn1⟩
      · exact Or.inl h
      · obtain ⟨c6, hc6, hcl6⟩ := Cond.classLink_spec hown hl1 e.platform hpl
        obtain ⟨a8, b8, h1, h2, h3⟩ := hn1
        cases Option.some.inj (h1.symm.trans hcl)
        cases Option.some.inj (h2.symm.trans hc6)
        exact Or.inr ⟨hz0, _, hcl6, h3⟩) hx (Or.inr ⟨h0, c4, hcl5, hasg⟩)
  obtain ⟨t, a1, b1⟩ := kk (T.setVm vm') hT X'
  exact ⟨t, st.trans a1, b1⟩
end Rows
section Ends
variable {p : Program} {l : Launch} {e : Env} {R : Room} {s : State} {m : MethodId} {args : Array Value} {below : List Frame} {meth : Method} {c : Code} {H : Heap} {locs : List Loc} {cells slots : Nat} {Q : State → Prop}
variable {mc ms : Nat} {free : Addr → Prop} {A0 A1 : Nat → Prop} {H0 : Heap} {a : Array Value} {ls : Array Slot} {st0 rest : List Value}
variable {Qc : Array Value → State → Outcome → State → Prop} {XC : String → State → State → Prop}
/-- what a body that may throw owes at its end -/
def vx_MQ (below : List Frame) (Qc : Array Value → State → Outcome → State → Prop) (XC : String → State → State → Prop) (a : Array Value) (s : State) (mc ms : Nat) (free : Addr → Prop) : State → Prop := fun t =>
  ∃ o, t.status = .running ∧ Ended t below o ∧ vx_Q Qc XC mc ms free a s o t
theorem vx_ret {g : JFrame} {mc ms : Nat} (k : W p l e R s m args below meth c H locs cells slots (MQ below Qc args s mc ms free) g) : W p l e R s m args below meth c H locs cells slots (vx_MQ below Qc XC args s mc ms free) g := by
  intro T hT X
  obtain ⟨t, a1, o, b1, b2, b3, b4⟩ := k T hT X
  exact ⟨t, a1, o, b1, b2, Or.inl ⟨b3, b4⟩⟩
/-- not caught here: it goes on to the caller -/
theorem vx_widen {g : JFrame} {q : Addr} {k n : Nat} (h1 : cells ≤ k) (h2 : slots ≤ n) (kk : vx_W p l e R s m args below meth c H locs k n Q g q) : vx_W p l e R s m args below meth c H locs cells slots Q g q := fun T hT X => kk T hT (stand_widen X h1 h2)
theorem vx_out {pc : Nat} {E : String} {ce : Cell} {q : Addr} {mc ms : Nat} (hout : ∀ x ∈ c.exceptionTable.toList, covers x pc = false) (hlocks : meth.locks = false) (hcell : H[q]? = some ce) (hv : ce.vm = .none) (hcl : s.vm.findClass E = some ce.cls)
    (hx : ∀ t : State, t.heap = H → s.vm.Alike t.vm → XC E s t) (hf : ∀ z ∈ locs, free z.base) (hc : cells ≤ mc) (hs : slots ≤ ms) :
    vx_W p l e R s m args below meth c H locs cells slots (vx_MQ below Qc XC args s mc ms free) (F0 m pc ls rest) q := by
  intro T hT X
  obtain ⟨st1, hrun, hend, hW, hsm⟩ := X.leaveThrown q (g := F0 m pc ls rest) rfl rfl rfl hout hlocks
  have hcell9 : (T.setFrames (.throwing q :: below)).heap[q]? = some ce := by
    show T.heap[q]? = some ce
    rw [hT]; exact hcell
  exact ⟨_, st1, .threw q, hrun, hend, Or.inr ⟨q, rfl, E, ce, locs, hx _ hT hW.alike, hcell9, hv, hcl, hW, hsm.mono hc hs, hf⟩⟩
theorem vx_frame {U : State} {k n : Nat} (h : s.sameButNew ({ U with vm := s.vm } : State) locs k n) : s.heap.size ≤ U.heap.size ∧ ∀ q : Nat, q < s.heap.size → (∀ z ∈ locs, z.base ≠ q) → U.heap[q]? = s.heap[q]? := by
  obtain ⟨-, h2, -, -, -, h6⟩ := h
  refine ⟨h2, fun q hq hz => ?_⟩
  obtain ⟨c9, e1, e2, e3, e4⟩ := h6 q _ (Array.getElem?_eq_getElem hq)
  have hs : c9.slots = (s.heap[q]).slots := Array.ext_getElem? fun i => e4 i fun hm => hz _ hm rfl
  have h9 : c9 = s.heap[q] := by
    rw [hs] at e2
    exact e2
  have e5 : U.heap[q]? = some c9 := e1
  rw [e5, h9, Array.getElem?_eq_getElem hq]
/-- the words of a throw but the four that speak of the heap -/
def vx_no (w : Cond) : Bool := decide (w ≠ .isRef (.static Bundle.tN "UNASSIGNED_STACK" Bundle.steD)) && decide (w ≠ .isRef (.static Bundle.tN "SUPPRESSED_SENTINEL" Bundle.listD)) && decide (w ≠ .laysStatic Bundle.tN "UNASSIGNED_STACK" Bundle.steD) && decide (w ≠ .laysStatic Bundle.tN "SUPPRESSED_SENTINEL" Bundle.listD)
def vx_at0 (own : String) (ic : Nat) (X : String) (names : List String) : List Cond := (Bundle.ownAtoms0 own ic X names).filter vx_no
def vx_atS (own : String) (ic : Nat) (X : String) (names : List String) : List Cond := (Bundle.ownAtoms own ic X names).filter vx_no
/-- a word that the tables alone decide, or a good one -/
def vx_ot (w : Cond) : Bool := w.onTables || goodWord w
theorem vx_ot_at {args a' : Array Value} {s U : State} {w : Cond} (hW : s.WarmedH U.vm) (hvm : s.vm = U.vm) (hg : vx_ot w = true) (h : w.before args s = true) : w.before a' U = true := by
  simp only [vx_ot, Bool.or_eq_true] at hg
  rcases hg with hg | hg
  · exact va_tabs hg hvm h
  · exact word_at hW (good_of_word hg) h
/-- a list's words: the good ones out of the method's own list, the others by premises of their own -/
theorem vx_hat {args : Array Value} {s : State} {L B : List Cond} (h1 : ∀ w ∈ L.filter goodWord, w.before args s = true) (h2 : ∀ w ∈ L.filter (fun w => !goodWord w), w ∈ B) (h3 : ∀ w ∈ B, w.before args s = true) : ∀ w ∈ L, w.before args s = true := by
  intro w hw
  by_cases g : goodWord w = true
  · exact h1 w (List.mem_filter.mpr ⟨hw, g⟩)
  · refine h3 w (h2 w (List.mem_filter.mpr ⟨hw, ?_⟩))
    show (!goodWord w) = true
    cases hgw : goodWord w
    · rfl
    · exact absurd hgw g
theorem vx_c {args : Array Value} {s : State} {w : Cond} {B : List Cond} (h : w.before args s = true) (t : ∀ w ∈ B, w.before args s = true) : ∀ w' ∈ w :: B, w'.before args s = true := fun w' h' => (List.mem_cons.mp h').elim (fun e => by rw [e]; exact h) (t w')
theorem vx_n {args : Array Value} {s : State} : ∀ w ∈ ([] : List Cond), w.before args s = true := fun _ h => nomatch h
theorem vx_own {args : Array Value} {s : State} {L : List Cond} (h1 : ∀ w ∈ L.filter vx_no, w.before args s = true)
    (hU : (Cond.isRef (.static Bundle.tN "UNASSIGNED_STACK" Bundle.steD)).before args s = true) (hN : (Cond.isRef (.static Bundle.tN "SUPPRESSED_SENTINEL" Bundle.listD)).before args s = true)
    (lU : (Cond.laysStatic Bundle.tN "UNASSIGNED_STACK" Bundle.steD).before args s = true) (lN : (Cond.laysStatic Bundle.tN "SUPPRESSED_SENTINEL" Bundle.listD).before args s = true) : ∀ w ∈ L, w.before args s = true := by
  intro w hw
  by_cases e1 : w = .isRef (.static Bundle.tN "UNASSIGNED_STACK" Bundle.steD)
  · rw [e1]; exact hU
  · by_cases e2 : w = .isRef (.static Bundle.tN "SUPPRESSED_SENTINEL" Bundle.listD)
    · rw [e2]; exact hN
    · by_cases e3 : w = .laysStatic Bundle.tN "UNASSIGNED_STACK" Bundle.steD
      · rw [e3]; exact lU
      · by_cases e4 : w = .laysStatic Bundle.tN "SUPPRESSED_SENTINEL" Bundle.listD
        · rw [e4]; exact lN
        · exact h1 w (List.mem_filter.mpr ⟨hw, by unfold vx_no; rw [decide_eq_true e1, decide_eq_true e2, decide_eq_true e3, decide_eq_true e4]; rfl⟩)
/-- where a static field lies, its class's statics cell in H -/
def vx_L (C n d : String) (A : Nat → Prop) (U : State) (H : Heap) : Prop := ∃ (c : ClassId) (k : Class) (i : Nat) (f : Field) (a : Nat) (cell : Cell), U.vm.findClass C = some c ∧ U.fieldFound? C n d = some (c, k, i, f) ∧ f.isStatic = true ∧ k.statics = some a ∧ H[a]? = some cell ∧ cell.vm.isStatics = true ∧ cell.cls = c ∧ f.slot < cell.slots.size ∧ k.staticTypes[f.slot]? = some f.type ∧ ¬ A a
theorem vx_L.moved {C n d : String} {A : Nat → Prop} {u U : State} {H : Heap} (hvm : u.vm.Alike U.vm) (h : vx_L C n d A u H) : vx_L C n d A U H := by
  obtain ⟨c, k, i, f, a, cell, h1, h2, h3, h4, h5, h6, h7, h8, h9, h10⟩ := h
  obtain ⟨k', hi', he⟩ := State.fieldFound?_setVm hvm h2
  exact ⟨c, k', i, f, a, cell, by rw [hvm.findClass]; exact h1, hi', h3, by rw [he]; exact h4, h5, h6, h7, h8, by rw [he]; exact h9, h10⟩
theorem vx_L.kept {C n d : String} {A : Nat → Prop} {U : State} {H H1 : Heap} (h : vx_L C n d A U H) (hq : ∀ a : Nat, a < H.size → ¬ A a → H1[a]? = H[a]?) : vx_L C n d A U H1 := by
  obtain ⟨c, k, i, f, a, cell, h1, h2, h3, h4, h5, h6, h7, h8, h9, h10⟩ := h
  exact ⟨c, k, i, f, a, cell, h1, h2, h3, h4, by rw [hq a (Array.getElem?_eq_some_iff.mp h5).1 h10]; exact h5, h6, h7, h8, h9, h10⟩
theorem vx_L.narrow {C n d : String} {A B : Nat → Prop} {U : State} {H : Heap} (h : vx_L C n d A U H) (hAB : ∀ q, B q → A q) : vx_L C n d B U H := by
  obtain ⟨c, k, i, f, a, cell, h1, h2, h3, h4, h5, h6, h7, h8, h9, h10⟩ := h
  exact ⟨c, k, i, f, a, cell, h1, h2, h3, h4, h5, h6, h7, h8, h9, fun z => h10 (hAB _ z)⟩
theorem vx_L.word {C n d : String} {A : Nat → Prop} {s : State} {args : Array Value} (h : vx_L C n d A s s.heap) : (Cond.laysStatic C n d).before args s = true := by
  obtain ⟨c, k, i, f, a, cell, h1, h2, h3, h4, h5, h6, h7, h8, h9, -⟩ := h
  show (Cond.laysStatic C n d).holds args s none s [] = true
  exact Cond.laysStatic_of h1 h2 h3 h4 h5 h6 h7 h8 h9
/-- .. and what it holds: null or some reference -/
def vx_Zq (C n d : String) (A : Nat → Prop) (U : State) (H : Heap) : Prop := va_Zq C n d A U H ∧ vx_L C n d A U H
theorem vx_Zq.moved {C n d : String} {A : Nat → Prop} {u U : State} {H : Heap} (hvm : u.vm.Alike U.vm) (h : vx_Zq C n d A u H) : vx_Zq C n d A U H := ⟨va_Zq.moved hvm h.1, vx_L.moved hvm h.2⟩
theorem vx_Zq.kept {C n d : String} {A : Nat → Prop} {U : State} {H H1 : Heap} (h : vx_Zq C n d A U H) (hq : ∀ a : Nat, a < H.size → ¬ A a → H1[a]? = H[a]?) : vx_Zq C n d A U H1 := ⟨va_Zq.kept h.1 hq, vx_L.kept h.2 hq⟩
theorem vx_Zq.narrow {C n d : String} {A B : Nat → Prop} {U : State} {H : Heap} (h : vx_Zq C n d A U H) (hAB : ∀ q, B q → A q) : vx_Zq C n d B U H := ⟨va_Zq.narrow h.1 hAB, vx_L.narrow h.2 hAB⟩
theorem vx_Zqof {args : Array Value} {s : State} {C n d : String} {A : Nat → Prop} (hl : (Cond.laysStatic C n d).before args s = true) (hini : (Cond.initialized C).before args s = true) (h : (Cond.isRef (.static C n d)).before args s = true) (hA : ∀ a : Nat, a < s.heap.size → ¬ A a) : vx_Zq C n d A s s.heap := by
  refine ⟨va_Zqof hl hini h hA, ?_⟩
  obtain ⟨c, k, i, f, a, cell, h1, h2, h3, h4, h5, h6, h7, h8, h9⟩ := Cond.laysStatic_spec hl
  exact ⟨c, k, i, f, a, cell, h1, h2, h3, h4, h5, h6, h7, h8, h9, hA a (Array.getElem?_eq_some_iff.mp h5).1⟩
theorem vx_isRef {C n d : String} {v : Value} {A : Nat → Prop} {s : State} {args : Array Value} (h : va_Z C n d v A s s.heap) (hv : v.isRef = true) : (Cond.isRef (.static C n d)).before args s = true := by
  obtain ⟨cf, kf, fi, f, a, cell, h1, h2, h3, h4, h5, h6, h7, -⟩ := h
  have he : (Term.static C n d).eval args s none [] s = some v := by
    simp [Term.eval, State.fieldNamed?, h1, h2, h4, h5, h6, h7]
  simp only [Cond.before, Cond.holds, Cond.value, he]
  cases v <;> simp_all [Value.isRef]
theorem vx_isRefq {C n d : String} {A : Nat → Prop} {s : State} {args : Array Value} (h : va_Zq C n d A s s.heap) : (Cond.isRef (.static C n d)).before args s = true := by
  rcases h with h | ⟨t, h⟩
  · exact vx_isRef h rfl
  · exact vx_isRef h rfl
/-- the same frame, seen from here: as if the method were called anew in this heap -/
theorem vx_rebase {T : State} (X : Stand p l e R s m args below meth c T locs cells slots) {R' : Room} (hf : R'.frames ≤ R.frames) (hl : R'.locals ≤ R.locals) (hc : cells + R'.cells ≤ R.cells) (hs : slots + R'.slots ≤ R.slots) :
    Stand p l e R' ((T.setVm s.vm).setFrames (.invoking m args :: below)) m args below meth c T [] 0 0 := by
  have htop : (T.setVm s.vm).topJava?.isSome := X.here.top
  have hF : ((T.setVm s.vm).setFrames (.invoking m args :: below)).frames = .invoking m args :: below := State.frames_setFrames _ (State.cur_lt_of_top htop)
  obtain ⟨g₀, hg0⟩ := Option.isSome_iff_exists.mp htop
  obtain ⟨r, hr⟩ := State.topJava?_eq_some.mp hg0
  have hl9 : e.platform.stackLimits (T.setVm s.vm).me = e.platform.stackLimits s.me := X.limits
  have hb9 : (T.setVm s.vm).me.stackBytes = s.me.stackBytes := X.bytes
  refine ⟨X.admits, X.cas, X.clock, hF, ?_, X.hears, X.method, X.code, X.here, X.tail, X.warmed, ?_, ?_, ?_⟩
  · have h := X.room
    have hU : ((T.setVm s.vm).setFrames (.invoking m args :: below)).localsInUse = s.localsInUse := by
      rw [State.localsInUse_invoking hF (meth := meth) (c := c) X.method X.code, State.localsInUse_invoking X.frames X.method X.code]
    simp only [State.hasRoom, Bool.and_eq_true, decide_eq_true_eq] at h ⊢
    obtain ⟨⟨⟨⟨h1, h2, h3, h4, h5, h6⟩, h7⟩, h8⟩, h9⟩ := h
    rw [X.frames, List.length_cons] at h2 h3
    have q1 := X.heapSize
    have q2 := X.used
    simp only [hF, hU, List.length_cons, State.stackLimits_setFrames, State.stackBytes_setFrames, hl9, hb9]
    refine ⟨⟨⟨⟨by omega, by omega, by omega, by omega, by omega, h6⟩, ?_⟩, ?_⟩, X.book⟩
    · show T.heap.size + R'.cells ≤ e.platform.maxCells
      omega
    · show T.slotsUsed + R'.slots ≤ e.platform.maxSlots
      omega
  · rw [State.stackLimits_setFrames]; rfl
  · rw [State.stackBytes_setFrames]; rfl
  · refine ⟨?_, Nat.le_refl _, Nat.le_refl _, ?_, ?_, fun a c9 h9 => ⟨c9, h9, rfl, rfl, fun _ _ => rfl⟩⟩
    · obtain ⟨t, ht, -⟩ := State.frames_cons hr
      show T.setVm s.vm = { ((T.setVm s.vm).setFrames (.invoking m args :: below)).setFrames (T.setVm s.vm).frames with heap := T.heap, slotsUsed := T.slotsUsed }
      rw [State.setFrames_setFrames, State.setFrames_self ht]
      rfl
    · show T.slotsUsed = T.slotsUsed + ((T.heap.toList.drop T.heap.size).map (·.slots.size)).sum
      rw [List.drop_eq_nil_of_le (Nat.le_of_eq Array.length_toList)]
      rfl
    · show ((T.heap.toList.drop T.heap.size).map (·.slots.size)).sum ≤ 0
      rw [List.drop_eq_nil_of_le (Nat.le_of_eq Array.length_toList)]
      exact Nat.le_refl _
/-- 'throw new E()': new; dup; invokespecial; athrow -/
theorem vx_throw0 {cc : ByteArray} {pc : Nat} (hexec : p.tables.exec = Jvm.exec) (hb : c.code = cc) (hl : l.stackTraces = false) {own cls : String} {names : List String} {ik ic mc ms : Nat} {A : Nat → Prop}
    (hown : s.vm.findClass own = some m.cls) (hcls : Bundle.fit cls = true) (hnames : ∀ n ∈ names, Bundle.fit n = true)
    (hk : (Cond.classLink own ik cls).before args s = true) (hini : (Cond.initialized cls).before args s = true) (hat : ∀ w ∈ vx_at0 own ic cls names, w.before args s = true)
    (hgood : ∀ w ∈ Cond.classLink own ik cls :: Cond.initialized cls :: vx_at0 own ic cls names, vx_ot w = true)
    (hU : vx_Zq Bundle.tN "UNASSIGNED_STACK" Bundle.steD A s s.heap) (hN : vx_Zq Bundle.tN "SUPPRESSED_SENTINEL" Bundle.listD A s s.heap) (hS : va_S A s.heap H locs) (hsize : ls.size = c.maxLocals)
    (d0 : decode cc pc = .ok (.new ik, 3)) (d3 : decode cc (pc + 3) = .ok (.dup, 1)) (d4 : decode cc (pc + 4) = .ok (.invokespecial ic, 3)) (d7 : decode cc (pc + 7) = .ok (.athrow, 1))
    (hout : ∀ x ∈ c.exceptionTable.toList, covers x (pc + 7) = false)
    (hRframes : names.length + 3 < R.frames) (hRlocals : (rest.map fun v => v.category).sum + (13 * (names.length + 1) + 42) ≤ R.locals) (hRcells : cells + 1 ≤ R.cells) (hRslots : slots + 6 ≤ R.slots) (hlocks : meth.locks = false)
    (hx : ∀ t : State, s.vm.Alike t.vm → H.size ≤ t.heap.size → (∀ q : Nat, q < H.size → t.heap[q]? = H[q]?) → XC cls s t)
    (hf : ∀ z ∈ locs, free z.base) (hc : cells + 1 ≤ mc) (hs : slots + 6 ≤ ms) :
    W p l e R s m args below meth c H locs cells slots (vx_MQ below Qc XC args s mc ms free) (F0 m pc ls rest) := by
  intro T hT X
  have htr : e.platform.stackTraces = false := (show e.platform.stackTraces = l.stackTraces by rw [X.admits.platform]).trans hl
  have Y := vx_rebase X (R' := { frames := R.frames, locals := R.locals, cells := 1, slots := 6 }) (Nat.le_refl _) (Nat.le_refl _) hRcells hRslots
  obtain ⟨s', hA⟩ : ∃ z, z = (T.setVm s.vm).setFrames (.invoking m args :: below) := ⟨_, rfl⟩
  rw [← hA] at Y
  have hvm : s'.vm = s.vm := by rw [hA]; rfl
  have hhp : s'.heap = H := by rw [hA]; exact hT
  have hW0 : s.WarmedH s'.vm := by rw [hvm]; exact State.WarmedH.refl s
  have hat' : ∀ w ∈ vx_at0 own ic cls names, w.before args s' = true := fun w hw => vx_ot_at hW0 hvm.symm (hgood w (List.mem_cons_of_mem _ (List.mem_cons_of_mem _ hw))) (hat w hw)
  have hk' : (Cond.classLink own ik cls).before args s' = true := vx_ot_at hW0 hvm.symm (hgood _ List.mem_cons_self) hk
  have hini' : (Cond.initialized cls).before args s' = true := vx_ot_at hW0 hvm.symm (hgood _ (List.mem_cons_of_mem _ List.mem_cons_self)) hini
  have hU' : vx_Zq Bundle.tN "UNASSIGNED_STACK" Bundle.steD A s' s'.heap := by rw [hhp]; exact vx_Zq.moved hW0.alike (hU.kept hS.2.1)
  have hN' : vx_Zq Bundle.tN "SUPPRESSED_SENTINEL" Bundle.listD A s' s'.heap := by rw [hhp]; exact vx_Zq.moved hW0.alike (hN.kept hS.2.1)
  have h : ∀ w ∈ Bundle.ownAtoms0 own ic cls names, w.before args s' = true := vx_own hat' (vx_isRefq hU'.1) (vx_isRefq hN'.1) hU'.2.word hN'.2.word
  have hown' : s'.vm.findClass own = some m.cls := by rw [hvm]; exact hown
  have hins : (Cond.instantiable cls 6).before args s' = true := h _ (by simp [Bundle.ownAtoms0])
  obtain ⟨vm₁, cX, kX, hfX, hkX, -, -, X₁, st1⟩ := Y.newCold hexec (own := own) (C := cls) (index := ik) (n := 6) hown' hk' hins hini'
    (g := F0 m pc ls rest) rfl (by rw [hb]; exact d0) (Nat.le_refl _) (Nat.le_refl _)
  generalize hT1 : (T.setVm vm₁).pushCell { cls := cX, slots := kX.instanceTypes.map defaultValue, vm := .none } = T1 at X₁ st1
  have hcat : (Value.ref T.heap.size).category = 1 := rfl
  have hcellA : T1.heap[T.heap.size]? = some (freshCell cX kX) := by rw [← hT1]; exact State.heap_pushCell_size _ _
  have d3' : decode c.code (pc + 3) = .ok (.dup, 1) := by rw [hb]; exact d3
  obtain ⟨U, hsteps, hrun, hend, hW, hsame, ce, hce, hO⟩ := X₁.ctorThrow0 hexec htr (own := own) (cls := cls) (names := names) (ic := ic) hown' hcls hnames h (fun x hx => nomatch hx) hfX hkX hcellA (by rw [hhp, hT]; exact Nat.le_refl _)
    (g := { method := m, pc := pc + 4, locals := ls, stack := .ref T.heap.size :: .ref T.heap.size :: rest, locked := none }) rfl hsize rfl rfl (rest := rest) rfl
    (by rw [hb]; exact d4) (by rw [hb]; exact d7) hout hRframes (by simp only [List.map_cons, List.sum_cons, hcat]; omega) hlocks
  obtain ⟨f1, f2⟩ := vx_frame hsame
  rw [hhp] at f1 f2
  have hWs : s.WarmedH U.vm := State.WarmedH.trans hW0 hW
  have hcl : s.vm.findClass cls = some ce.cls := by
    have h9 := hO.cls
    rw [hvm] at h9
    exact h9
  have hall : s.sameButNew ({ U with vm := s.vm } : State) locs mc ms := by
    subst hA
    obtain ⟨e1, e2⟩ := hsame
    rw [State.setFrames_setFrames] at e1
    have h2 : (T.setVm s.vm).sameButNew ({ U with vm := s.vm } : State) [] (0 + 1) (0 + 6) := ⟨e1, e2⟩
    have h3 := X.same.trans h2
    rw [List.append_nil] at h3
    exact h3.mono hc hs
  refine ⟨U, ?_, .threw T.heap.size, hrun, hend, Or.inr ⟨T.heap.size, rfl, cls, ce, locs, hx U hWs.alike f1 (fun q hq => f2 q hq (fun z hz => nomatch hz)), hce, hO.vm, hcl, hWs, hall, hf⟩⟩
  refine st1 _ ?_
  show Steps p.tables e below (T1.setTop { method := m, pc := pc + 3, locals := ls, stack := .ref T.heap.size :: rest, locked := none }) _
  jvm_step X₁.here [X₁.here.top, hexec, d3', Value.category]
  exact hsteps
/-- 'throw new E("text")': new; dup; ldc; invokespecial; athrow -/
theorem vx_throwS {cc : ByteArray} {pc : Nat} (hexec : p.tables.exec = Jvm.exec) (hb : c.code = cc) (hl : l.stackTraces = false) {own cls text : String} {names : List String} {ik is ic mc ms sa : Nat} {A : Nat → Prop}
    (hown : s.vm.findClass own = some m.cls) (hcls : Bundle.fit cls = true) (hnames : ∀ n ∈ names, Bundle.fit n = true)
    (hk : (Cond.classLink own ik cls).before args s = true) (hini : (Cond.initialized cls).before args s = true) (hstr : vk_R own is text sa s) (hat : ∀ w ∈ vx_atS own ic cls names, w.before args s = true)
    (hgood : ∀ w ∈ Cond.classLink own ik cls :: Cond.initialized cls :: vx_atS own ic cls names, vx_ot w = true)
    (hU : vx_Zq Bundle.tN "UNASSIGNED_STACK" Bundle.steD A s s.heap) (hN : vx_Zq Bundle.tN "SUPPRESSED_SENTINEL" Bundle.listD A s s.heap) (hS : va_S A s.heap H locs) (hsize : ls.size = c.maxLocals)
    (d0 : decode cc pc = .ok (.new ik, 3)) (d3 : decode cc (pc + 3) = .ok (.dup, 1)) (d4 : decode cc (pc + 4) = .ok (.ldc is, 2)) (d6 : decode cc (pc + 6) = .ok (.invokespecial ic, 3)) (d9 : decode cc (pc + 9) = .ok (.athrow, 1))
    (hout : ∀ x ∈ c.exceptionTable.toList, covers x (pc + 9) = false)
    (hRframes : names.length + 3 < R.frames) (hRlocals : (rest.map fun v => v.category).sum + (13 * (names.length + 1) + 43) ≤ R.locals) (hRcells : cells + 1 ≤ R.cells) (hRslots : slots + 6 ≤ R.slots) (hlocks : meth.locks = false)
    (hx : ∀ t : State, s.vm.Alike t.vm → H.size ≤ t.heap.size → (∀ q : Nat, q < H.size → t.heap[q]? = H[q]?) → XC cls s t)
    (hf : ∀ z ∈ locs, free z.base) (hc : cells + 1 ≤ mc) (hs : slots + 6 ≤ ms) :
    W p l e R s m args below meth c H locs cells slots (vx_MQ below Qc XC args s mc ms free) (F0 m pc ls rest) := by
  intro T hT X
  have htr : e.platform.stackTraces = false := (show e.platform.stackTraces = l.stackTraces by rw [X.admits.platform]).trans hl
  have Y := vx_rebase X (R' := { frames := R.frames, locals := R.locals, cells := 1, slots := 6 }) (Nat.le_refl _) (Nat.le_refl _) hRcells hRslots
  obtain ⟨s', hA⟩ : ∃ z, z = (T.setVm s.vm).setFrames (.invoking m args :: below) := ⟨_, rfl⟩
  rw [← hA] at Y
  have hvm : s'.vm = s.vm := by rw [hA]; rfl
  have hhp : s'.heap = H := by rw [hA]; exact hT
  have hW0 : s.WarmedH s'.vm := by rw [hvm]; exact State.WarmedH.refl s
  have hat' : ∀ w ∈ vx_atS own ic cls names, w.before args s' = true := fun w hw => vx_ot_at hW0 hvm.symm (hgood w (List.mem_cons_of_mem _ (List.mem_cons_of_mem _ hw))) (hat w hw)
  have hk' : (Cond.classLink own ik cls).before args s' = true := vx_ot_at hW0 hvm.symm (hgood _ List.mem_cons_self) hk
  have hini' : (Cond.initialized cls).before args s' = true := vx_ot_at hW0 hvm.symm (hgood _ (List.mem_cons_of_mem _ List.mem_cons_self)) hini
  have hU' : vx_Zq Bundle.tN "UNASSIGNED_STACK" Bundle.steD A s' s'.heap := by rw [hhp]; exact vx_Zq.moved hW0.alike (hU.kept hS.2.1)
  have hN' : vx_Zq Bundle.tN "SUPPRESSED_SENTINEL" Bundle.listD A s' s'.heap := by rw [hhp]; exact vx_Zq.moved hW0.alike (hN.kept hS.2.1)
  have h : ∀ w ∈ Bundle.ownAtoms own ic cls names, w.before args s' = true := vx_own hat' (vx_isRefq hU'.1) (vx_isRefq hN'.1) hU'.2.word hN'.2.word
  have hown' : s'.vm.findClass own = some m.cls := by rw [hvm]; exact hown
  have hins : (Cond.instantiable cls 6).before args s' = true := h _ (by simp [Bundle.ownAtoms])
  obtain ⟨vm₁, cX, kX, hfX, hkX, -, -, X₁, st1⟩ := Y.newCold hexec (own := own) (C := cls) (index := ik) (n := 6) hown' hk' hins hini'
    (g := F0 m pc ls rest) rfl (by rw [hb]; exact d0) (Nat.le_refl _) (Nat.le_refl _)
  generalize hT1 : (T.setVm vm₁).pushCell { cls := cX, slots := kX.instanceTypes.map defaultValue, vm := .none } = T1 at X₁ st1
  have hcat : (Value.ref T.heap.size).category = 1 := rfl
  have hcellA : T1.heap[T.heap.size]? = some (freshCell cX kX) := by rw [← hT1]; exact State.heap_pushCell_size _ _
  have d3' : decode c.code (pc + 3) = .ok (.dup, 1) := by rw [hb]; exact d3
  have d4' : decode c.code (pc + 4) = .ok (.ldc is, 2) := by rw [hb]; exact d4
  have hstr' : vk_R own is text sa s' := vk_R.warm hW0 hstr
  obtain ⟨U, hsteps, hrun, hend, hW, hsame, ce, hce, hO⟩ := X₁.ctorThrowS hexec htr (own := own) (cls := cls) (names := names) (ic := ic) hown' hcls hnames h (fun x hx => nomatch hx) hfX hkX hcellA (by rw [hhp, hT]; exact Nat.le_refl _) (msg := .ref sa) rfl
    (g := { method := m, pc := pc + 6, locals := ls, stack := .ref sa :: .ref T.heap.size :: .ref T.heap.size :: rest, locked := none }) rfl hsize rfl rfl (rest := rest) rfl
    (by rw [hb]; exact d6) (by rw [hb]; exact d9) hout hRframes (by simp only [List.map_cons, List.sum_cons, hcat]; omega) hlocks
  obtain ⟨f1, f2⟩ := vx_frame hsame
  rw [hhp] at f1 f2
  have hWs : s.WarmedH U.vm := State.WarmedH.trans hW0 hW
  have hcl : s.vm.findClass cls = some ce.cls := by
    have h9 := hO.cls
    rw [hvm] at h9
    exact h9
  have hall : s.sameButNew ({ U with vm := s.vm } : State) locs mc ms := by
    subst hA
    obtain ⟨e1, e2⟩ := hsame
    rw [State.setFrames_setFrames] at e1
    have h2 : (T.setVm s.vm).sameButNew ({ U with vm := s.vm } : State) [] (0 + 1) (0 + 6) := ⟨e1, e2⟩
    have h3 := X.same.trans h2
    rw [List.append_nil] at h3
    exact h3.mono hc hs
  refine ⟨U, ?_, .threw T.heap.size, hrun, hend, Or.inr ⟨T.heap.size, rfl, cls, ce, locs, hx U hWs.alike f1 (fun q hq => f2 q hq (fun z hz => nomatch hz)), hce, hO.vm, hcl, hWs, hall, hf⟩⟩
  refine st1 _ ?_
  show Steps p.tables e below (T1.setTop { method := m, pc := pc + 3, locals := ls, stack := .ref T.heap.size :: rest, locked := none }) _
  jvm_step X₁.here [X₁.here.top, hexec, d3', Value.category]
  exact X₁.ldcString hexec (own := own) (text := text) (index := is) (a := sa) hown' hstr'.1 hstr'.2
    (g := { method := m, pc := pc + 4, locals := ls, stack := .ref T.heap.size :: .ref T.heap.size :: rest, locked := none }) rfl d4' _ hsteps
/-- 'throw new E("text")', the text by a wide index -/
theorem vx_throwSW {cc : ByteArray} {pc : Nat} (hexec : p.tables.exec = Jvm.exec) (hb : c.code = cc) (hl : l.stackTraces = false) {own cls text : String} {names : List String} {ik is ic mc ms sa : Nat} {A : Nat → Prop}
    (hown : s.vm.findClass own = some m.cls) (hcls : Bundle.fit cls = true) (hnames : ∀ n ∈ names, Bundle.fit n = true)
    (hk : (Cond.classLink own ik cls).before args s = true) (hini : (Cond.initialized cls).before args s = true) (hstr : vk_R own is text sa s) (hat : ∀ w ∈ vx_atS own ic cls names, w.before args s = true)
    (hgood : ∀ w ∈ Cond.classLink own ik cls :: Cond.initialized cls :: vx_atS own ic cls names, vx_ot w = true)
    (hU : vx_Zq Bundle.tN "UNASSIGNED_STACK" Bundle.steD A s s.heap) (hN : vx_Zq Bundle.tN "SUPPRESSED_SENTINEL" Bundle.listD A s s.heap) (hS : va_S A s.heap H locs) (hsize : ls.size = c.maxLocals)
    (d0 : decode cc pc = .ok (.new ik, 3)) (d3 : decode cc (pc + 3) = .ok (.dup, 1)) (d4 : decode cc (pc + 4) = .ok (.ldc_w is, 3)) (d7 : decode cc (pc + 7) = .ok (.invokespecial ic, 3)) (d10 : decode cc (pc + 10) = .ok (.athrow, 1))
    (hout : ∀ x ∈ c.exceptionTable.toList, covers x (pc + 10) = false)
    (hRframes : names.length + 3 < R.frames) (hRlocals : (rest.map fun v => v.category).sum + (13 * (names.length + 1) + 43) ≤ R.locals) (hRcells : cells + 1 ≤ R.cells) (hRslots : slots + 6 ≤ R.slots) (hlocks : meth.locks = false)
    (hx : ∀ t : State, s.vm.Alike t.vm → H.size ≤ t.heap.size → (∀ q : Nat, q < H.size → t.heap[q]? = H[q]?) → XC cls s t)
    (hf : ∀ z ∈ locs, free z.base) (hc : cells + 1 ≤ mc) (hs : slots + 6 ≤ ms) :
    W p l e R s m args below meth c H locs cells slots (vx_MQ below Qc XC args s mc ms free) (F0 m pc ls rest) := by
  intro T hT X
  have htr : e.platform.stackTraces = false := (show e.platform.stackTraces = l.stackTraces by rw [X.admits.platform]).trans hl
  have Y := vx_rebase X (R' := { frames := R.frames, locals := R.locals, cells := 1, slots := 6 }) (Nat.le_refl _) (Nat.le_refl _) hRcells hRslots
  obtain ⟨s', hA⟩ : ∃ z, z = (T.setVm s.vm).setFrames (.invoking m args :: below) := ⟨_, rfl⟩
  rw [← hA] at Y
  have hvm : s'.vm = s.vm := by rw [hA]; rfl
  have hhp : s'.heap = H := by rw [hA]; exact hT
  have hW0 : s.WarmedH s'.vm := by rw [hvm]; exact State.WarmedH.refl s
  have hat' : ∀ w ∈ vx_atS own ic cls names, w.before args s' = true := fun w hw => vx_ot_at hW0 hvm.symm (hgood w (List.mem_cons_of_mem _ (List.mem_cons_of_mem _ hw))) (hat w hw)
  have hk' : (Cond.classLink own ik cls).before args s' = true := vx_ot_at hW0 hvm.symm (hgood _ List.mem_cons_self) hk
  have hini' : (Cond.initialized cls).before args s' = true := vx_ot_at hW0 hvm.symm (hgood _ (List.mem_cons_of_mem _ List.mem_cons_self)) hini
  have hU' : vx_Zq Bundle.tN "UNASSIGNED_STACK" Bundle.steD A s' s'.heap := by rw [hhp]; exact vx_Zq.moved hW0.alike (hU.kept hS.2.1)
  have hN' : vx_Zq Bundle.tN "SUPPRESSED_SENTINEL" Bundle.listD A s' s'.heap := by rw [hhp]; exact vx_Zq.moved hW0.alike (hN.kept hS.2.1)
  have h : ∀ w ∈ Bundle.ownAtoms own ic cls names, w.before args s' = true := vx_own hat' (vx_isRefq hU'.1) (vx_isRefq hN'.1) hU'.2.word hN'.2.word
  have hown' : s'.vm.findClass own = some m.cls := by rw [hvm]; exact hown
  have hins : (Cond.instantiable cls 6).before args s' = true := h _ (by simp [Bundle.ownAtoms])
  obtain ⟨vm₁, cX, kX, hfX, hkX, -, -, X₁, st1⟩ := Y.newCold hexec (own := own) (C := cls) (index := ik) (n := 6) hown' hk' hins hini'
    (g := F0 m pc ls rest) rfl (by rw [hb]; exact d0) (Nat.le_refl _) (Nat.le_refl _)
  generalize hT1 : (T.setVm vm₁).pushCell { cls := cX, slots := kX.instanceTypes.map defaultValue, vm := .none } = T1 at X₁ st1
  have hcat : (Value.ref T.heap.size).category = 1 := rfl
  have hcellA : T1.heap[T.heap.size]? = some (freshCell cX kX) := by rw [← hT1]; exact State.heap_pushCell_size _ _
  have d3' : decode c.code (pc + 3) = .ok (.dup, 1) := by rw [hb]; exact d3
  have d4' : decode c.code (pc + 4) = .ok (.ldc_w is, 3) := by rw [hb]; exact d4
  have hstr' : vk_R own is text sa s' := vk_R.warm hW0 hstr
  obtain ⟨U, hsteps, hrun, hend, hW, hsame, ce, hce, hO⟩ := X₁.ctorThrowS hexec htr (own := own) (cls := cls) (names := names) (ic := ic) hown' hcls hnames h (fun x hx => nomatch hx) hfX hkX hcellA (by rw [hhp, hT]; exact Nat.le_refl _) (msg := .ref sa) rfl
    (g := { method := m, pc := pc + 7, locals := ls, stack := .ref sa :: .ref T.heap.size :: .ref T.heap.size :: rest, locked := none }) rfl hsize rfl rfl (rest := rest) rfl
    (by rw [hb]; exact d7) (by rw [hb]; exact d10) hout hRframes (by simp only [List.map_cons, List.sum_cons, hcat]; omega) hlocks
  obtain ⟨f1, f2⟩ := vx_frame hsame
  rw [hhp] at f1 f2
  have hWs : s.WarmedH U.vm := State.WarmedH.trans hW0 hW
  have hcl : s.vm.findClass cls = some ce.cls := by
    have h9 := hO.cls
    rw [hvm] at h9
    exact h9
  have hall : s.sameButNew ({ U with vm := s.vm } : State) locs mc ms := by
    subst hA
    obtain ⟨e1, e2⟩ := hsame
    rw [State.setFrames_setFrames] at e1
    have h2 : (T.setVm s.vm).sameButNew ({ U with vm := s.vm } : State) [] (0 + 1) (0 + 6) := ⟨e1, e2⟩
    have h3 := X.same.trans h2
    rw [List.append_nil] at h3
    exact h3.mono hc hs
  refine ⟨U, ?_, .threw T.heap.size, hrun, hend, Or.inr ⟨T.heap.size, rfl, cls, ce, locs, hx U hWs.alike f1 (fun q hq => f2 q hq (fun z hz => nomatch hz)), hce, hO.vm, hcl, hWs, hall, hf⟩⟩
  refine st1 _ ?_
  show Steps p.tables e below (T1.setTop { method := m, pc := pc + 3, locals := ls, stack := .ref T.heap.size :: rest, locked := none }) _
  jvm_step X₁.here [X₁.here.top, hexec, d3', Value.category]
  exact X₁.ldcStringW hexec (own := own) (text := text) (index := is) (a := sa) hown' hstr'.1 hstr'.2
    (g := { method := m, pc := pc + 4, locals := ls, stack := .ref T.heap.size :: .ref T.heap.size :: rest, locked := none }) rfl d4' _ hsteps
end Ends
section Bodies
variable {l : Launch}
theorem vx_ofW {y : MethodName} {ws ws' : List Cond} {rm : Room} {Pc : Array Value → State → Prop} {Qc : Array Value → State → Outcome → State → Prop} {XC : String → State → State → Prop} {mc ms : Nat} {free : Addr → Prop} {cc : ByteArray} {maxL : Nat} {ret : Option FieldType}
    (hy : plainName y.cls = true) (hw : ws = Cond.code y cc maxL ret :: ws')
    (body : ∀ p e s m args below meth c s₁, BodyLoose p l y (headSpec ws rm) cc maxL ret e s m args below meth c s₁ → c.maxLocals = maxL → (∀ x ∈ c.exceptionTable.toList, False) → Pc args s →
      W p l e (headSpec ws rm).room s m args below meth c s.heap [] 0 0 (vx_MQ below Qc XC args s mc ms free) (entryFrame m args maxL)) : vx_Met l y ws rm Pc Qc XC mc ms free := by
  refine MetFree.of_bodyS (code := cc) (maxLocals := maxL) (ret := ret) hy ?_ ?_
  · intro args s m h hn
    obtain ⟨meth, c, h1, h2, h3, h4, h5, h6, -, -⟩ := Cond.code_spec hn (atoms_spec (ws := ws) h _ (by rw [hw]; exact List.mem_cons_self))
    exact ⟨meth, c, h1, h2, h3, h4, h5, h6⟩
  · intro p e s m args below meth c s₁ B hml hP _
    have hh0 : s₁.heap = s.heap := by rw [B.state]; rfl
    have ht : ∀ x ∈ c.exceptionTable.toList, False := by
      obtain ⟨meth9, c9, h1, h2, -, -, -, -, h7, -⟩ := Cond.code_spec B.named (atoms_spec (ws := ws) B.pre _ (by rw [hw]; exact List.mem_cons_self))
      cases Option.some.inj (h1.symm.trans B.method)
      cases Option.some.inj (h2.symm.trans (Stand.of_body B).code)
      intro x hx
      rw [Array.isEmpty_iff.mp h7] at hx
      cases hx
    obtain ⟨t, a1, o, b1, b2, b3⟩ := body p e s m args below meth c s₁ B hml ht hP s₁ hh0 (Stand.of_body B)
    exact ⟨t, o, a1, b1, b2, b3⟩
/-- the table of a body with handlers -/
theorem vx_table {p : Program} {x y : MethodName} {S : Spec} {cc bytes : ByteArray} {maxL maxL' : Nat} {ret ret' : Option FieldType} {e : Env} {s s₁ : State} {m : MethodId} {args : Array Value} {below : List Frame} {meth : Method} {c : Code} {hh : List (Nat × Nat × Nat × Nat)}
    (B : BodyLoose p l y S cc maxL ret e s m args below meth c s₁) (h : (Cond.codeWith y bytes maxL' ret' hh).before args s = true) : c.exceptionTable.toList = tableOf hh := by
  obtain ⟨m9, meth9, c9, hn9, h1, h2, -, -, h6, -⟩ := Cond.codeWith_spec h
  cases Option.some.inj (hn9.symm.trans B.named)
  cases Option.some.inj (h1.symm.trans B.method)
  cases Option.some.inj (h2.symm.trans (Stand.of_body B).code)
  rw [← h6, table_eq]
end Bodies
end VXA
/-! ===== END ===== -/
/-! ===== BEGIN a static call of a method with an exception table ===== -/
section VXS
variable {p : Program} {l : Launch} {e : Env} {R : Room} {s : State} {m : MethodId} {args : Array Value} {below : List Frame} {meth : Method} {c : Code} {T : State} {H : Heap} {locs : List Loc} {cells slots : Nat}
abbrev vx_CSW (R : Room) (s : State) (args : Array Value) (own : String) (index : Nat) (y : MethodName) (bytes : ByteArray) (maxL : Nat) (ret : Option FieldType) (hh : List (Nat × Nat × Nat × Nat)) (ws : List Cond) (rm : Room) (mc ms n : Nat) : Prop :=
  (rm.cells = mc ∧ rm.slots = ms ∧ rm.frames + 1 ≤ R.frames ∧ 8 + (maxL + 11) + rm.locals ≤ R.locals ∧ (∀ w ∈ ws, ∀ (a' : Array Value) (U : State), s.WarmedH U.vm → w.before a' U = true) ∧ Cond.codeWith y bytes maxL ret hh ∈ ws) ∧
  (Cond.codeWith y bytes maxL ret hh).before args s = true ∧ (Cond.initialized y.cls).before args s = true ∧ (y.cls ≠ "java/lang/invoke/MethodHandle" ∧ y.cls ≠ "java/lang/invoke/VarHandle") ∧
  (∀ sig, parseMethodDescriptor y.desc = some sig → n = sig.parameters.length) ∧ (Cond.methodLink own index y).before args s = true ∧ (Cond.static y).before args s = true
theorem vx_cwSW {own : String} {index maxL mc ms : Nat} {y : MethodName} {bytes : ByteArray} {ret : Option FieldType} {hh : List (Nat × Nat × Nat × Nat)} {Ts ws ws' : List Cond} {rm : Room} (n : Nat) (ht : ∀ w ∈ Ts, w.before args s = true) (hT : GoodIn Ts (va_wsS own index y ws)) (hw : ws = Cond.codeWith y bytes maxL ret hh :: ws') (hrc : rm.cells = mc) (hrs : rm.slots = ms)
    (hd : y.cls ≠ "java/lang/invoke/MethodHandle" ∧ y.cls ≠ "java/lang/invoke/VarHandle" ∧ (parseMethodDescriptor y.desc).map (fun d => d.parameters.length) = some n) (hR : rm.frames + 1 ≤ R.frames ∧ 8 + (maxL + 11) + rm.locals ≤ R.locals) :
    vx_CSW R s args own index y bytes maxL ret hh ws rm mc ms n := by
  have ok : ∀ w ∈ va_wsS own index y ws, w.before args s = true := fun w h => ht w (hT w h).1
  have hG : GoodIn Ts ws := fun w h => hT w (by unfold va_wsS; exact List.mem_append_right _ h)
  have hc : Cond.codeWith y bytes maxL ret hh ∈ ws := by rw [hw]; exact List.mem_cons_self
  refine ⟨⟨hrc, hrs, hR.1, hR.2, pay_in ht hG, hc⟩, ht _ (hG _ hc).1, ok _ (by simp [va_wsS]), ⟨hd.1, hd.2.1⟩, fun sig h => ?_, ok _ (by simp [va_wsS]), ok _ (by simp [va_wsS])⟩
  have h2 := hd.2.2
  rw [h] at h2
  exact (Option.some.inj h2).symm
theorem vx_callSW (X : Stand p l e R s m args below meth c T locs cells slots) (hexec : p.tables.exec = Jvm.exec) {own : String} {index : Nat} {y : MethodName} {bytes : ByteArray} {maxL : Nat} {ret : Option FieldType} {hh : List (Nat × Nat × Nat × Nat)}
    (hown : s.vm.findClass own = some m.cls) (hlink : (Cond.methodLink own index y).before args s = true) (hstat : (Cond.static y).before args s = true) (hinit : (Cond.initialized y.cls).before args s = true)
    (hcode : (Cond.codeWith y bytes maxL ret hh).before args s = true) (hy : y.cls ≠ "java/lang/invoke/MethodHandle" ∧ y.cls ≠ "java/lang/invoke/VarHandle")
    {W9 : Nat} {Pre : Pt → Array Value → Prop} {Post : Pt → Array Value → Option Value → Pt → Prop} (hK : Back l R p e below s args y 3 W9 Pre Post)
    {g : JFrame} (hg : g.method = m) (hsize : g.locals.size = c.maxLocals) {argsL rest : List Value} (hlen : ∀ sig, parseMethodDescriptor y.desc = some sig → argsL.length = sig.parameters.length)
    (hstack : g.stack = argsL.reverse ++ rest) (hW : 2 * g.monitorRoom + (rest.map fun v => v.category).sum ≤ W9) (hdg : decode c.code g.pc = .ok (.invokestatic index, 3))
    (hpre : ∀ vm₁, s.WarmedH vm₁ → Pre ⟨T.setVm vm₁, locs, cells, slots⟩ argsL.toArray) :
    ∃ (v : Option Value) (vm₁ : Vm) (B : Pt), s.WarmedH vm₁ ∧ Stand p l e R s m args below meth c B.U B.locs B.cells B.slots ∧ Post ⟨T.setVm vm₁, locs, cells, slots⟩ argsL.toArray v B ∧
      ∀ target, Steps p.tables e below (B.U.setTop { g with pc := g.pc + 3, stack := v.toList ++ rest }) target → Steps p.tables e below (T.setTop g) target := by
  obtain ⟨mk, methM, cM, hnamed, hmethM, -, -, -, -, -, -, hsigM⟩ := Cond.codeWith_spec hcode
  have hstatic : methM.isStatic = true := Cond.static_spec hnamed hmethM hstat
  obtain ⟨kP, hkP, -⟩ := className_of_methodNamed hnamed
  have hinitP : kP.init = .initialized := Cond.initialized_spec (findClass_of_methodNamed hnamed) hkP hinit
  obtain ⟨vm₁, X₁, hstep₁⟩ := X.invokestatic hexec hown hlink hnamed hmethM hstatic hkP hinitP hy (g := g) hg (argsL := argsL) (rest := rest) (hlen _ hsigM) hstack hdg
  obtain ⟨v, B, X', hpost, hsteps⟩ := hK m meth c ⟨T.setVm vm₁, locs, cells, slots⟩ { g with stack := rest } (.invokestatic index) mk argsL.toArray X₁ hg hsize hdg hW (X₁.named hnamed) (hpre vm₁ X₁.warmed)
  exact ⟨v, vm₁, B, X₁.warmed, X', hpost, fun target h => hstep₁ _ fun acts => by rw [doInvoke_state]; exact hsteps.trans h⟩
theorem vx_runSW {y : MethodName} {bytes cc : ByteArray} {maxL nL mc ms n index : Nat} {ret : Option FieldType} {hh : List (Nat × Nat × Nat × Nat)} {ws : List Cond} {rm : Room} {Pc : Array Value → State → Prop} {Qc : Array Value → State → Outcome → State → Prop} {free : Addr → Prop} {Ts : List Cond} {own : String} {As rest : List Value} {g : JFrame}
    (S : CallFix p m c cc nL s args Ts own) (hM : Met l y ws rm Pc Qc mc ms free) (cw : vx_CSW R s args own index y bytes maxL ret hh ws rm mc ms n) (hp : PreS s H Pc As)
    (hg : g.method = m) (hn : As.length = n) (hsize : g.locals.size = nL) (hstack : g.stack = As.reverse ++ rest) (hW : 2 * g.monitorRoom + (rest.map fun v => v.category).sum ≤ 8) (hdg : decode cc g.pc = .ok (.invokestatic index, 3)) (hf : cells + mc ≤ R.cells ∧ slots + ms ≤ R.slots) :
    va_Run p l e R s m args below meth c H locs cells slots mc ms g rest (Qc As.toArray) (free) := by
  obtain ⟨⟨hrc, hrs, hfr, hlo, hws, hcw⟩, hcode, hini, hy, hlen, hl, hstt⟩ := cw
  have hK : Back l R p e below s args y 3 8 (PreOf R mc ms Pc) (PostOf Qc mc ms free) := va_backW (hh := hh) (bytes := bytes) (maxL := maxL) (ret := ret) hM hp.1 hrc hrs hfr hlo hws hcw (fun a' U hW => word_at hW (Or.inl (by first | rfl | simp [Cond.onTables, Cond.keeps, Cond.steady])) hini)
  obtain ⟨hx, hb, hml, ho, -⟩ := S
  intro T hT X
  obtain ⟨v, vm₁, ⟨U', l2, c2, s2⟩, hW₁, X', ⟨g', mk, t, L, e1, e2, hq, h1, hL, h2, h3⟩, st⟩ := vx_callSW X hx (hh := hh) (bytes := bytes) (maxL := maxL) (ret := ret) ho hl hstt hini hcode hy hK hg (hsize.trans hml.symm) (argsL := As) (rest := rest) (fun sig h => hn.trans (hlen sig h)) hstack hW (by rw [hb]; exact hdg)
    (fun vm₁ hW₁ => ⟨hf.1, hf.2, hp.2 (T.setVm vm₁) hT hW₁⟩)
  dsimp only [Pt.U, Pt.locs, Pt.cells, Pt.slots] at X' e1 e2 h1 h2 h3 st
  subst h1; subst h2; subst h3
  exact ⟨v, (T.setVm vm₁).calling g' mk As.toArray, t, U', L, hT, X', hL, e1, e2, hq, st⟩
/-- not caught here, past rows that name other classes: it goes on to the caller -/
theorem vx_outP {p : Program} {l : Launch} {e : Env} {R : Room} {s : State} {m : MethodId} {args : Array Value} {below : List Frame} {meth : Method} {c : Code} {H : Heap} {locs : List Loc} {cells slots : Nat} {free : Addr → Prop} {ls : Array Slot} {rest : List Value} {Qc : Array Value → State → Outcome → State → Prop} {XC : String → State → State → Prop}
    {pc : Nat} {own E : String} {ce : Cell} {q : Addr} {mc ms : Nat} (hown : s.vm.findClass own = some m.cls) (hlocks : meth.locks = false)
    (hpass : ∀ z ∈ c.exceptionTable.toList, covers z pc = false ∨ (z.catchType ≠ 0 ∧ ∃ nm : String, (Cond.classLink own z.catchType nm).before args s = true ∧ va_Nc E nm s)) (hcell : H[q]? = some ce) (hv : ce.vm = .none) (hcl : s.vm.findClass E = some ce.cls)
    (hx : ∀ t : State, t.heap = H → s.vm.Alike t.vm → XC E s t) (hf : ∀ z ∈ locs, free z.base) (hc : cells ≤ mc) (hs : slots ≤ ms) :
    vx_W p l e R s m args below meth c H locs cells slots (vx_MQ below Qc XC args s mc ms free) (F0 m pc ls rest) q := by
  intro T hT X
  have hpl : e.platform.magicAccessors = ({} : Platform).magicAccessors := by rw [X.admits.platform]
  obtain ⟨vm', hW', X', st⟩ := X.outThrough hlocks q (g := F0 m pc ls rest) rfl rfl rfl (cell := ce) (by rw [hT]; exact hcell) (by rw [hv]; rfl)
    (by obtain ⟨k9, h9, -⟩ := Vm.findClass_spec hcl; exact ⟨k9, h9⟩) (fun z hz => by
      rcases hpass z hz with h | ⟨hz0, nm, hl1, hn1⟩
      · exact Or.inl h
      · obtain ⟨c6, hc6, hcl6⟩ := Cond.classLink_spec hown hl1 e.platform hpl
        obtain ⟨a8, b8, h1, h2, h3⟩ := hn1
        cases Option.some.inj (h1.symm.trans hcl)
        cases Option.some.inj (h2.symm.trans hc6)
        exact Or.inr ⟨hz0, _, hcl6, h3⟩)
  obtain ⟨g₀, hfr⟩ := X'.frames_eq
  have hcell9 : ((T.setVm vm').setFrames (.throwing q :: below)).heap[q]? = some ce := by
    show T.heap[q]? = some ce
    rw [hT]; exact hcell
  have hend : Ended ((T.setVm vm').setFrames (.throwing q :: below)) below (.threw q) := State.frames_setFrames _ (State.cur_lt_of_frames hfr)
  refine ⟨(T.setVm vm').setFrames (.throwing q :: below), ?_, .threw q, X'.here.running, hend, Or.inr ⟨q, rfl, E, ce, locs, hx _ hT (X'.ends _).1.alike, hcell9, hv, hcl, (X'.ends _).1, (X'.ends _).2.mono hc hs, hf⟩⟩
  rw [X.pushThrowing_eq]
  exact st
/-- a thing of a world lies in the heap -/
theorem vx_lt {D : va_G} {cl : List vw_C} {ws : va_W} {H1 : Heap} (h : va_P D cl ws H1) {k : Nat} {q : Nat × va_E} (hk : ws[k]? = some q) : q.1 < H1.size := (h k q hk).lt
end VXS
/-! ===== END ===== -/
/-! ===== BEGIN methods with a table of their own: called by a name, returning or throwing ===== -/
section VXH
/-! vx_backW, vx_callVX, vx_callSX, vx_callVW, vx_runVW, vx_runVX, vx_runSX, vx_ofWH follow the same proofs as their sisters above (Free/Laws.lean, Shelf42/LK1.lean); vx_outP calls Shelf42/NT130.lean (outThrough). -/
section
variable {l : Launch} {R : Room} {p : Program} {e : Env} {below : List Frame} {s : State} {sargs : Array Value} {y : MethodName} {len W9 : Nat}
theorem vx_backW {ws : List Cond} {rm : Room} {Pc : Array Value → State → Prop} {Qc : Array Value → State → Outcome → State → Prop} {XC : String → State → State → Prop} {mc ms : Nat} {free : Addr → Prop} {bytes : ByteArray} {maxL : Nat} {ret : Option FieldType} {hh : List (Nat × Nat × Nat × Nat)}
    (hM : vx_Met l y ws rm Pc Qc XC mc ms free) (hblind : FrameBlind Pc) (hrc : rm.cells = mc) (hrs : rm.slots = ms)
    (hframes : rm.frames + 1 ≤ R.frames) (hlocals : W9 + (maxL + 11) + rm.locals ≤ R.locals)
    (hws : ∀ w ∈ ws, ∀ a' U, s.WarmedH U.vm → w.before a' U = true) (hcode : Cond.codeWith y bytes maxL ret hh ∈ ws) (hinit : ∀ a' U, s.WarmedH U.vm → (Cond.initialized y.cls).before a' U = true) :
    vx_Back l R p e below s sargs y len W9 (PreOf R mc ms Pc) (PostOf Qc mc ms free) (vx_Post XC mc ms free) := by
  intro m meth c A g ig mk a X hg hsize hdg hW hn hp
  have h1 : (headSpec ws rm).pre.before a A.U = true := atoms_intro fun w hw => hws w hw _ _ X.warmed
  have h2 : (Cond.codeWith y bytes maxL ret hh).before a A.U = true := hws _ hcode _ _ X.warmed
  have h3 : (Cond.initialized y.cls).before a A.U = true := hinit _ _ X.warmed
  have h4 : A.cells + (headSpec ws rm).room.cells ≤ R.cells := by rw [show (headSpec ws rm).room.cells = mc from hrc]; exact hp.1
  have h5 : A.slots + (headSpec ws rm).room.slots ≤ R.slots := by rw [show (headSpec ws rm).room.slots = ms from hrs]; exact hp.2.1
  have hPc : Pc a (A.U.calling g mk a) := hblind _ _ _ _ hp.2.2
  obtain ⟨U, Ls, c0, s0⟩ := A
  dsimp only [Pt.U, Pt.locs, Pt.cells, Pt.slots] at h1 h2 h3 h4 h5 X hn hPc ⊢
  obtain ⟨m9, methY, cY, hn9, hmY, hcY, -, hlY, -⟩ := Cond.codeWith_spec h2
  cases Option.some.inj (hn9.symm.trans hn)
  obtain ⟨kY, hkY, -⟩ := className_of_methodNamed hn
  have hinitY : kY.init = .initialized := Cond.initialized_spec (findClass_of_methodNamed hn) hkY h3
  have h : At U g.method c below := by rw [hg]; exact X.here
  have hlocals9 : W9 + (maxL + 11) + (headSpec ws rm).room.locals ≤ R.locals := hlocals
  have happ : (headSpec ws rm).appliesLoose y e.platform (U.calling g mk a) = true :=
    Spec.appliesLoose_calling (g := g) h hdg hn hkY hinitY
      (X.room_calling (g := g) (R' := (headSpec ws rm).room) hsize hmY hcY hframes (by rw [hlY]; omega) h4 h5) h1
  obtain ⟨mid, hmid⟩ := h.above
  have hfr : (U.setTop g).frames = (.java g :: mid) ++ below := by rw [State.frames_setTop' g h.top, hmid]; rfl
  obtain ⟨o, s₂, hsteps, -, hend, hq⟩ := Steps.callFree hM p X.admits X.cas X.clock (acts := []) hfr happ hPc trivial
  have hq' : vx_Q Qc XC mc ms free a (U.calling g mk a) o s₂ := hq
  rw [State.frames_setTop' g h.top] at hend
  obtain ⟨g₀, hg0⟩ := Option.isSome_iff_exists.mp h.top
  obtain ⟨r, hr⟩ := State.topJava?_eq_some.mp hg0
  have hr' : (({ U with heap := s₂.heap, slotsUsed := s₂.slotsUsed } : State).setVm s₂.vm).frames = .java g₀ :: r := hr
  rcases hq' with ⟨hqc, L, hfe, hL⟩ | ⟨q, rfl, E, ce, L, hx, hce, hcv, hcl, hW₂, hsm, hL⟩
  · obtain ⟨⟨v, rfl⟩, hW₂, e2, q2, q3, q4, q5, q6⟩ := id hfe
    have e3 : s₂ = ({ (U.calling g mk a).setFrames s₂.frames with heap := s₂.heap, slotsUsed := s₂.slotsUsed } : State).setVm s₂.vm := by
      have : s₂ = ({ s₂ with vm := (U.calling g mk a).vm } : State).setVm s₂.vm := rfl
      rw [e2] at this
      exact this
    obtain ⟨c₂, i₂, len₂, hc₂, hd₂, hf₂⟩ := hend
    have hW' : U.WarmedH s₂.vm := hW₂
    have hcc : c₂ = c := by
      have h1 : s₂.code? g.method = U.code? g.method := by
        rw [State.code?_eq, State.code?_eq, hW'.alike.method?]
      exact Option.some.inj (hc₂.symm.trans (h1.trans h.code))
    subst hcc
    have hlen : len₂ = len := by rw [hdg] at hd₂; cases hd₂; rfl
    subst hlen
    have hs₂ : s₂ = (({ U with heap := s₂.heap, slotsUsed := s₂.slotsUsed } : State).setVm s₂.vm).setTop { g with pc := g.pc + len₂, stack := v.toList ++ g.stack } := by
      refine e3.trans ?_
      rw [hf₂, State.calling_eq h.top, State.setFrames_setFrames, State.setTop_of_frames _ hr', hr]
      rfl
    have hsame : U.sameButNew ({ U with heap := s₂.heap, slotsUsed := s₂.slotsUsed } : State) L mc ms := by
      refine ⟨?_, q2, q3, q4, q5, q6⟩
      obtain ⟨t, ht, -⟩ := State.frames_cons hr
      show ({ U with heap := s₂.heap, slotsUsed := s₂.slotsUsed } : State) = { U.setFrames U.frames with heap := s₂.heap, slotsUsed := s₂.slotsUsed }
      rw [State.setFrames_self ht]
    subst hg
    refine Or.inl ⟨v, ⟨(({ U with heap := s₂.heap, slotsUsed := s₂.slotsUsed } : State).setVm s₂.vm), Ls ++ L, c0 + mc, s0 + ms⟩,
      ⟨X.admits, X.cas, X.clock, X.frames, X.room, X.hears, X.method, X.code, (X.here.setHeapUsed s₂.heap s₂.slotsUsed).setVm hW'.alike, X.tail, State.WarmedH.trans X.warmed hW', X.limits, X.bytes, X.same.trans (hsame.setVm s.vm)⟩,
      ⟨g, mk, s₂, L, rfl, rfl, hqc, rfl, hL, rfl, rfl⟩, ?_⟩
    show Steps p.tables e below _ ((({ U with heap := s₂.heap, slotsUsed := s₂.slotsUsed } : State).setVm s₂.vm).setTop { g with pc := g.pc + len₂, stack := v.toList ++ g.stack })
    rw [← hs₂]
    exact hsteps
  · obtain ⟨e2, q2, q3, q4, q5, q6⟩ := id hsm
    have e3 : s₂ = ({ (U.calling g mk a).setFrames s₂.frames with heap := s₂.heap, slotsUsed := s₂.slotsUsed } : State).setVm s₂.vm := by
      have : s₂ = ({ s₂ with vm := (U.calling g mk a).vm } : State).setVm s₂.vm := rfl
      rw [e2] at this
      exact this
    have hf₂ : s₂.frames = .throwing q :: .java g :: U.frames.tail := hend
    have hW' : U.WarmedH s₂.vm := hW₂
    have hs₂ : s₂ = ((({ U with heap := s₂.heap, slotsUsed := s₂.slotsUsed } : State).setVm s₂.vm).setTop g).pushFrame (.throwing q) := by
      refine e3.trans ?_
      rw [hf₂, State.calling_eq h.top, State.setFrames_setFrames, State.pushFrame, State.frames_setTop _ hr', State.setTop_of_frames _ hr', State.setFrames_setFrames, hr]
      rfl
    have hsame : U.sameButNew ({ U with heap := s₂.heap, slotsUsed := s₂.slotsUsed } : State) L mc ms := by
      refine ⟨?_, q2, q3, q4, q5, q6⟩
      obtain ⟨t, ht, -⟩ := State.frames_cons hr
      show ({ U with heap := s₂.heap, slotsUsed := s₂.slotsUsed } : State) = { U.setFrames U.frames with heap := s₂.heap, slotsUsed := s₂.slotsUsed }
      rw [State.setFrames_self ht]
    subst hg
    refine Or.inr ⟨q, ⟨(({ U with heap := s₂.heap, slotsUsed := s₂.slotsUsed } : State).setVm s₂.vm), Ls ++ L, c0 + mc, s0 + ms⟩,
      ⟨X.admits, X.cas, X.clock, X.frames, X.room, X.hears, X.method, X.code, (X.here.setHeapUsed s₂.heap s₂.slotsUsed).setVm hW'.alike, X.tail, State.WarmedH.trans X.warmed hW', X.limits, X.bytes, X.same.trans (hsame.setVm s.vm)⟩,
      ⟨g, mk, s₂, L, E, ce, rfl, rfl, hx, hce, hcv, hcl, rfl, hL, rfl, rfl⟩, ?_⟩
    show Steps p.tables e below _ (((({ U with heap := s₂.heap, slotsUsed := s₂.slotsUsed } : State).setVm s₂.vm).setTop g).pushFrame (.throwing q))
    rw [← hs₂]
    exact hsteps
end
variable {p : Program} {l : Launch} {e : Env} {R : Room} {s : State} {m : MethodId} {args : Array Value} {below : List Frame} {meth : Method} {c : Code} {T : State} {H : Heap} {locs : List Loc} {cells slots : Nat}
theorem vx_callVX (X : Stand p l e R s m args below meth c T locs cells slots) (hexec : p.tables.exec = Jvm.exec) {own C : String} {index : Nat} {y : MethodName} {bytes : ByteArray} {maxL : Nat} {ret : Option FieldType} {hh : List (Nat × Nat × Nat × Nat)}
    (hown : s.vm.findClass own = some m.cls) (hlink : (Cond.methodLink own index y).before args s = true) (hinst : (Cond.instanceMethod y).before args s = true) (hsel : (Cond.selects C y y).before args s = true)
    (hcode : (Cond.codeWith y bytes maxL ret hh).before args s = true) (hy : y.cls ≠ "java/lang/invoke/MethodHandle" ∧ y.cls ≠ "java/lang/invoke/VarHandle")
    {W9 : Nat} {Pre : Pt → Array Value → Prop} {Post : Pt → Array Value → Option Value → Pt → Prop} {PostX : Pt → Array Value → Addr → Pt → Prop} (hK : vx_Back l R p e below s args y 3 W9 Pre Post PostX)
    {b : Addr} {cellB : Cell} (hcell : T.heap[b]? = some cellB) (hobj : cellB.vm.isStatics = false) (hcls : s.vm.findClass C = some cellB.cls)
    {g : JFrame} (hg : g.method = m) (hsize : g.locals.size = c.maxLocals) {argsL rest : List Value} (hlen : ∀ sig, parseMethodDescriptor y.desc = some sig → argsL.length = sig.parameters.length)
    (hstack : g.stack = argsL.reverse ++ .ref b :: rest) (hW : 2 * g.monitorRoom + (rest.map fun v => v.category).sum ≤ W9) (hdg : decode c.code g.pc = .ok (.invokevirtual index, 3))
    (hpre : ∀ vm₁, s.WarmedH vm₁ → Pre ⟨T.setVm vm₁, locs, cells, slots⟩ (Value.ref b :: argsL).toArray) :
    (∃ (v : Option Value) (vm₁ : Vm) (B : Pt), s.WarmedH vm₁ ∧ Stand p l e R s m args below meth c B.U B.locs B.cells B.slots ∧ Post ⟨T.setVm vm₁, locs, cells, slots⟩ (Value.ref b :: argsL).toArray v B ∧
      ∀ target, Steps p.tables e below (B.U.setTop { g with pc := g.pc + 3, stack := v.toList ++ rest }) target → Steps p.tables e below (T.setTop g) target) ∨
    (∃ (q : Addr) (vm₁ : Vm) (B : Pt), s.WarmedH vm₁ ∧ Stand p l e R s m args below meth c B.U B.locs B.cells B.slots ∧ PostX ⟨T.setVm vm₁, locs, cells, slots⟩ (Value.ref b :: argsL).toArray q B ∧
      Steps p.tables e below (T.setTop g) ((B.U.setTop { g with stack := rest }).pushFrame (.throwing q))) := by
  obtain ⟨mk, methM, hnamed, hmethM, hstM, habM⟩ := Cond.instanceMethod_spec hinst
  obtain ⟨m8, methM', cM, hn8, hmethM', -, -, -, -, -, -, hsigM⟩ := Cond.codeWith_spec hcode
  cases Option.some.inj (hn8.symm.trans hnamed)
  cases hmethM.symm.trans hmethM'
  obtain ⟨c2, r2, m2, q1, q2, q3, q4, kP, hkP, hkPi⟩ := Cond.selects_spec hsel
  cases hcls.symm.trans q1
  cases (State.methodFound?_of_named hnamed hy).symm.trans q2
  cases hnamed.symm.trans q3
  have hselP : selectMethod e.platform s.vm cellB.cls mk = .method mk := by rw [Launch.admits_selectMethod X.admits]; exact q4
  obtain ⟨vm₁, X₁, hstep₁⟩ := X.invokevirtual hexec hown hlink hnamed hmethM hstM hkP hkPi hy (a := b) (cell := cellB) hcell
    (fun z h => by rw [h] at hobj; cases hobj) hselP hmethM habM hkP hkPi (g := g) hg (argsL := argsL) (rest := rest) (hlen _ hsigM) hstack hdg
  rcases hK m meth c ⟨T.setVm vm₁, locs, cells, slots⟩ { g with stack := rest } (.invokevirtual index) mk (Value.ref b :: argsL).toArray X₁ hg hsize hdg hW (X₁.named hnamed) (hpre vm₁ X₁.warmed) with ⟨v, B, X', hpost, hsteps⟩ | ⟨q, B, X', hpost, hsteps⟩
  · exact Or.inl ⟨v, vm₁, B, X₁.warmed, X', hpost, fun target h => hstep₁ _ fun acts => by rw [doInvoke_state]; exact hsteps.trans h⟩
  · exact Or.inr ⟨q, vm₁, B, X₁.warmed, X', hpost, hstep₁ _ fun acts => by rw [doInvoke_state]; exact hsteps⟩
theorem vx_callSX (X : Stand p l e R s m args below meth c T locs cells slots) (hexec : p.tables.exec = Jvm.exec) {own : String} {index : Nat} {y : MethodName} {bytes : ByteArray} {maxL : Nat} {ret : Option FieldType} {hh : List (Nat × Nat × Nat × Nat)}
    (hown : s.vm.findClass own = some m.cls) (hlink : (Cond.methodLink own index y).before args s = true) (hstat : (Cond.static y).before args s = true) (hinit : (Cond.initialized y.cls).before args s = true)
    (hcode : (Cond.codeWith y bytes maxL ret hh).before args s = true) (hy : y.cls ≠ "java/lang/invoke/MethodHandle" ∧ y.cls ≠ "java/lang/invoke/VarHandle")
    {W9 : Nat} {Pre : Pt → Array Value → Prop} {Post : Pt → Array Value → Option Value → Pt → Prop} {PostX : Pt → Array Value → Addr → Pt → Prop} (hK : vx_Back l R p e below s args y 3 W9 Pre Post PostX)
    {g : JFrame} (hg : g.method = m) (hsize : g.locals.size = c.maxLocals) {argsL rest : List Value} (hlen : ∀ sig, parseMethodDescriptor y.desc = some sig → argsL.length = sig.parameters.length)
    (hstack : g.stack = argsL.reverse ++ rest) (hW : 2 * g.monitorRoom + (rest.map fun v => v.category).sum ≤ W9) (hdg : decode c.code g.pc = .ok (.invokestatic index, 3))
    (hpre : ∀ vm₁, s.WarmedH vm₁ → Pre ⟨T.setVm vm₁, locs, cells, slots⟩ argsL.toArray) :
    (∃ (v : Option Value) (vm₁ : Vm) (B : Pt), s.WarmedH vm₁ ∧ Stand p l e R s m args below meth c B.U B.locs B.cells B.slots ∧ Post ⟨T.setVm vm₁, locs, cells, slots⟩ argsL.toArray v B ∧
      ∀ target, Steps p.tables e below (B.U.setTop { g with pc := g.pc + 3, stack := v.toList ++ rest }) target → Steps p.tables e below (T.setTop g) target) ∨
    (∃ (q : Addr) (vm₁ : Vm) (B : Pt), s.WarmedH vm₁ ∧ Stand p l e R s m args below meth c B.U B.locs B.cells B.slots ∧ PostX ⟨T.setVm vm₁, locs, cells, slots⟩ argsL.toArray q B ∧
      Steps p.tables e below (T.setTop g) ((B.U.setTop { g with stack := rest }).pushFrame (.throwing q))) := by
  obtain ⟨mk, methM, cM, hnamed, hmethM, -, -, -, -, -, -, hsigM⟩ := Cond.codeWith_spec hcode
  have hstatic : methM.isStatic = true := Cond.static_spec hnamed hmethM hstat
  obtain ⟨kP, hkP, -⟩ := className_of_methodNamed hnamed
  have hinitP : kP.init = .initialized := Cond.initialized_spec (findClass_of_methodNamed hnamed) hkP hinit
  obtain ⟨vm₁, X₁, hstep₁⟩ := X.invokestatic hexec hown hlink hnamed hmethM hstatic hkP hinitP hy (g := g) hg (argsL := argsL) (rest := rest) (hlen _ hsigM) hstack hdg
  rcases hK m meth c ⟨T.setVm vm₁, locs, cells, slots⟩ { g with stack := rest } (.invokestatic index) mk argsL.toArray X₁ hg hsize hdg hW (X₁.named hnamed) (hpre vm₁ X₁.warmed) with ⟨v, B, X', hpost, hsteps⟩ | ⟨q, B, X', hpost, hsteps⟩
  · exact Or.inl ⟨v, vm₁, B, X₁.warmed, X', hpost, fun target h => hstep₁ _ fun acts => by rw [doInvoke_state]; exact hsteps.trans h⟩
  · exact Or.inr ⟨q, vm₁, B, X₁.warmed, X', hpost, hstep₁ _ fun acts => by rw [doInvoke_state]; exact hsteps⟩
theorem vx_callVW (X : Stand p l e R s m args below meth c T locs cells slots) (hexec : p.tables.exec = Jvm.exec) {own C : String} {index : Nat} {y : MethodName} {bytes : ByteArray} {maxL : Nat} {ret : Option FieldType} {hh : List (Nat × Nat × Nat × Nat)}
    (hown : s.vm.findClass own = some m.cls) (hlink : (Cond.methodLink own index y).before args s = true) (hinst : (Cond.instanceMethod y).before args s = true) (hsel : (Cond.selects C y y).before args s = true)
    (hcode : (Cond.codeWith y bytes maxL ret hh).before args s = true) (hy : y.cls ≠ "java/lang/invoke/MethodHandle" ∧ y.cls ≠ "java/lang/invoke/VarHandle")
    {W9 : Nat} {Pre : Pt → Array Value → Prop} {Post : Pt → Array Value → Option Value → Pt → Prop} (hK : Back l R p e below s args y 3 W9 Pre Post)
    {b : Addr} {cellB : Cell} (hcell : T.heap[b]? = some cellB) (hobj : cellB.vm.isStatics = false) (hcls : s.vm.findClass C = some cellB.cls)
    {g : JFrame} (hg : g.method = m) (hsize : g.locals.size = c.maxLocals) {argsL rest : List Value} (hlen : ∀ sig, parseMethodDescriptor y.desc = some sig → argsL.length = sig.parameters.length)
    (hstack : g.stack = argsL.reverse ++ .ref b :: rest) (hW : 2 * g.monitorRoom + (rest.map fun v => v.category).sum ≤ W9) (hdg : decode c.code g.pc = .ok (.invokevirtual index, 3))
    (hpre : ∀ vm₁, s.WarmedH vm₁ → Pre ⟨T.setVm vm₁, locs, cells, slots⟩ (Value.ref b :: argsL).toArray) :
    ∃ (v : Option Value) (vm₁ : Vm) (B : Pt), s.WarmedH vm₁ ∧ Stand p l e R s m args below meth c B.U B.locs B.cells B.slots ∧ Post ⟨T.setVm vm₁, locs, cells, slots⟩ (Value.ref b :: argsL).toArray v B ∧
      ∀ target, Steps p.tables e below (B.U.setTop { g with pc := g.pc + 3, stack := v.toList ++ rest }) target → Steps p.tables e below (T.setTop g) target := by
  obtain ⟨mk, methM, hnamed, hmethM, hstM, habM⟩ := Cond.instanceMethod_spec hinst
  obtain ⟨m8, methM', cM, hn8, hmethM', -, -, -, -, -, -, hsigM⟩ := Cond.codeWith_spec hcode
  cases Option.some.inj (hn8.symm.trans hnamed)
  cases hmethM.symm.trans hmethM'
  obtain ⟨c2, r2, m2, q1, q2, q3, q4, kP, hkP, hkPi⟩ := Cond.selects_spec hsel
  cases hcls.symm.trans q1
  cases (State.methodFound?_of_named hnamed hy).symm.trans q2
  cases hnamed.symm.trans q3
  have hselP : selectMethod e.platform s.vm cellB.cls mk = .method mk := by rw [Launch.admits_selectMethod X.admits]; exact q4
  obtain ⟨vm₁, X₁, hstep₁⟩ := X.invokevirtual hexec hown hlink hnamed hmethM hstM hkP hkPi hy (a := b) (cell := cellB) hcell
    (fun z h => by rw [h] at hobj; cases hobj) hselP hmethM habM hkP hkPi (g := g) hg (argsL := argsL) (rest := rest) (hlen _ hsigM) hstack hdg
  obtain ⟨v, B, X', hpost, hsteps⟩ := hK m meth c ⟨T.setVm vm₁, locs, cells, slots⟩ { g with stack := rest } (.invokevirtual index) mk (Value.ref b :: argsL).toArray X₁ hg hsize hdg hW (X₁.named hnamed) (hpre vm₁ X₁.warmed)
  exact ⟨v, vm₁, B, X₁.warmed, X', hpost, fun target h => hstep₁ _ fun acts => by rw [doInvoke_state]; exact hsteps.trans h⟩
abbrev vx_CVW (R : Room) (s : State) (args : Array Value) (own C : String) (index : Nat) (y : MethodName) (bytes : ByteArray) (maxL : Nat) (ret : Option FieldType) (hh : List (Nat × Nat × Nat × Nat)) (ws : List Cond) (rm : Room) (mc ms n : Nat) : Prop :=
  (rm.cells = mc ∧ rm.slots = ms ∧ rm.frames + 1 ≤ R.frames ∧ 8 + (maxL + 11) + rm.locals ≤ R.locals ∧ (∀ w ∈ ws, ∀ (a' : Array Value) (U : State), s.WarmedH U.vm → w.before a' U = true) ∧ Cond.codeWith y bytes maxL ret hh ∈ ws) ∧
  (Cond.codeWith y bytes maxL ret hh).before args s = true ∧ (Cond.initialized y.cls).before args s = true ∧ (y.cls ≠ "java/lang/invoke/MethodHandle" ∧ y.cls ≠ "java/lang/invoke/VarHandle") ∧
  (∀ sig, parseMethodDescriptor y.desc = some sig → n = sig.parameters.length) ∧ (Cond.methodLink own index y).before args s = true ∧ (Cond.instanceMethod y).before args s = true ∧ (Cond.selects C y y).before args s = true
theorem vx_cwVW {own C : String} {index maxL mc ms : Nat} {y : MethodName} {bytes : ByteArray} {ret : Option FieldType} {hh : List (Nat × Nat × Nat × Nat)} {Ts ws ws' : List Cond} {rm : Room} (n : Nat) (ht : ∀ w ∈ Ts, w.before args s = true) (hT : GoodIn Ts (wsV own index C y ws)) (hw : ws = Cond.codeWith y bytes maxL ret hh :: ws') (hrc : rm.cells = mc) (hrs : rm.slots = ms)
    (hd : y.cls = C ∧ y.cls ≠ "java/lang/invoke/MethodHandle" ∧ y.cls ≠ "java/lang/invoke/VarHandle" ∧ (parseMethodDescriptor y.desc).map (fun d => d.parameters.length) = some n) (hR : rm.frames + 1 ≤ R.frames ∧ 8 + (maxL + 11) + rm.locals ≤ R.locals) :
    vx_CVW R s args own C index y bytes maxL ret hh ws rm mc ms n := by
  obtain ⟨hC, hd⟩ := hd
  subst hC
  have ok : ∀ w ∈ wsV own index y.cls y ws, w.before args s = true := fun w h => ht w (hT w h).1
  have hG : GoodIn Ts ws := fun w h => hT w (by unfold wsV; exact List.mem_append_right _ h)
  have hc : Cond.codeWith y bytes maxL ret hh ∈ ws := by rw [hw]; exact List.mem_cons_self
  refine ⟨⟨hrc, hrs, hR.1, hR.2, pay_in ht hG, hc⟩, ht _ (hG _ hc).1, ok _ (by simp [wsV]), ⟨hd.1, hd.2.1⟩, fun sig h => ?_, ok _ (by simp [wsV]), ok _ (by simp [wsV]), ok _ (by simp [wsV])⟩
  have h2 := hd.2.2
  rw [h] at h2
  exact (Option.some.inj h2).symm
theorem vx_runVW {y : MethodName} {bytes cc : ByteArray} {maxL nL mc ms n index : Nat} {ret : Option FieldType} {hh : List (Nat × Nat × Nat × Nat)} {ws : List Cond} {rm : Room} {Pc : Array Value → State → Prop} {Qc : Array Value → State → Outcome → State → Prop} {free : Addr → Prop} {Ts : List Cond} {own C : String} {b : Addr} {As rest : List Value} {g : JFrame}
    (S : CallFix p m c cc nL s args Ts own) (hM : Met l y ws rm Pc Qc mc ms free) (cw : vx_CVW R s args own C index y bytes maxL ret hh ws rm mc ms n) (hp : PreV s H C b Pc As)
    (hg : g.method = m) (hn : As.length = n) (hsize : g.locals.size = nL) (hstack : g.stack = As.reverse ++ .ref b :: rest) (hW : 2 * g.monitorRoom + (rest.map fun v => v.category).sum ≤ 8) (hdg : decode cc g.pc = .ok (.invokevirtual index, 3)) (hf : cells + mc ≤ R.cells ∧ slots + ms ≤ R.slots) :
    va_Run p l e R s m args below meth c H locs cells slots mc ms g rest (Qc (Value.ref b :: As).toArray) free := by
  obtain ⟨⟨hrc, hrs, hfr, hlo, hws, hcw⟩, hcode, hini, hy, hlen, hl, hin, hse⟩ := cw
  have hK : Back l R p e below s args y 3 8 (PreOf R mc ms Pc) (PostOf Qc mc ms free) := va_backW (hh := hh) (bytes := bytes) (maxL := maxL) (ret := ret) hM hp.1 hrc hrs hfr hlo hws hcw (fun a' U hW => word_at hW (Or.inl (by first | rfl | simp [Cond.onTables, Cond.keeps, Cond.steady])) hini)
  obtain ⟨hx, hb, hml, ho, -⟩ := S
  obtain ⟨-, ⟨cellB, hcB, hoB, hclB⟩, hPc⟩ := hp
  intro T hT X
  obtain ⟨v, vm₁, ⟨U', l2, c2, s2⟩, hW₁, X', ⟨g', mk, t, L, e1, e2, hq, h1, hL, h2, h3⟩, st⟩ := vx_callVW X hx (C := C) (hh := hh) (bytes := bytes) (maxL := maxL) (ret := ret) ho hl hin hse hcode hy hK (by rw [hT]; exact hcB) hoB hclB hg (hsize.trans hml.symm) (argsL := As) (rest := rest) (fun sig h => hn.trans (hlen sig h)) hstack hW (by rw [hb]; exact hdg)
    (fun vm₁ hW₁ => ⟨hf.1, hf.2, hPc (T.setVm vm₁) hT hW₁⟩)
  dsimp only [Pt.U, Pt.locs, Pt.cells, Pt.slots] at X' e1 e2 h1 h2 h3 st
  subst h1; subst h2; subst h3
  exact ⟨v, (T.setVm vm₁).calling g' mk (Value.ref b :: As).toArray, t, U', L, hT, X', hL, e1, e2, hq, st⟩
section
variable {y : MethodName} {bytes cc : ByteArray} {maxL nL mc ms n index : Nat} {ret : Option FieldType} {ws : List Cond} {rm : Room} {Pc : Array Value → State → Prop} {Qc : Array Value → State → Outcome → State → Prop} {XC : String → State → State → Prop} {free : Addr → Prop} {Ts : List Cond} {own C : String} {b : Addr} {As rest : List Value} {g : JFrame}
theorem vx_runVX {hh : List (Nat × Nat × Nat × Nat)} (S : CallFix p m c cc nL s args Ts own) (hM : vx_Met l y ws rm Pc Qc XC mc ms free) (cw : vx_CVW R s args own C index y bytes maxL ret hh ws rm mc ms n) (hp : PreV s H C b Pc As)
    (hg : g.method = m) (hn : As.length = n) (hsize : g.locals.size = nL) (hstack : g.stack = As.reverse ++ .ref b :: rest) (hW : 2 * g.monitorRoom + (rest.map fun v => v.category).sum ≤ 8) (hdg : decode cc g.pc = .ok (.invokevirtual index, 3)) (hf : cells + mc ≤ R.cells ∧ slots + ms ≤ R.slots) :
    vx_Run p l e R s m args below meth c H locs cells slots mc ms g rest (Qc (Value.ref b :: As).toArray) XC free := by
  obtain ⟨⟨hrc, hrs, hfr, hlo, hws, hcw⟩, hcode, hini, hy, hlen, hl, hin, hse⟩ := cw
  have hK : vx_Back l R p e below s args y 3 8 (PreOf R mc ms Pc) (PostOf Qc mc ms free) (vx_Post XC mc ms free) := vx_backW (hh := hh) (bytes := bytes) (maxL := maxL) (ret := ret) hM hp.1 hrc hrs hfr hlo hws hcw (fun a' U hW => word_at hW (Or.inl (by first | rfl | simp [Cond.onTables, Cond.keeps, Cond.steady])) hini)
  obtain ⟨hx, hb, hml, ho, -⟩ := S
  obtain ⟨-, ⟨cellB, hcB, hoB, hclB⟩, hPc⟩ := hp
  intro T hT X
  rcases vx_callVX X hx (C := C) (hh := hh) (bytes := bytes) (maxL := maxL) (ret := ret) ho hl hin hse hcode hy hK (by rw [hT]; exact hcB) hoB hclB hg (hsize.trans hml.symm) (argsL := As) (rest := rest) (fun sig h => hn.trans (hlen sig h)) hstack hW (by rw [hb]; exact hdg)
    (fun vm₁ hW₁ => ⟨hf.1, hf.2, hPc (T.setVm vm₁) hT hW₁⟩) with ⟨v, vm₁, ⟨U', l2, c2, s2⟩, hW₁, X', ⟨g', mk, t, L, e1, e2, hq, h1, hL, h2, h3⟩, st⟩ | ⟨q, vm₁, ⟨U', l2, c2, s2⟩, hW₁, X', ⟨g', mk, t, L, E, ce, e1, e2, hq, hce, hcv, hcl, h1, hL, h2, h3⟩, st⟩
  · dsimp only [Pt.U, Pt.locs, Pt.cells, Pt.slots] at X' e1 e2 h1 h2 h3 st
    subst h1; subst h2; subst h3
    exact Or.inl ⟨v, (T.setVm vm₁).calling g' mk (Value.ref b :: As).toArray, t, U', L, hT, X', hL, e1, e2, hq, st⟩
  · dsimp only [Pt.U, Pt.locs, Pt.cells, Pt.slots] at X' e1 e2 h1 h2 h3 st hcl
    subst h1; subst h2; subst h3
    exact Or.inr ⟨q, (T.setVm vm₁).calling g' mk (Value.ref b :: As).toArray, t, U', L, E, ce, hT, X', hL, e1, e2, hq, hce, hcv, vx_cls hW₁ hcl, st⟩
theorem vx_runSX {hh : List (Nat × Nat × Nat × Nat)} (S : CallFix p m c cc nL s args Ts own) (hM : vx_Met l y ws rm Pc Qc XC mc ms free) (cw : vx_CSW R s args own index y bytes maxL ret hh ws rm mc ms n) (hp : PreS s H Pc As)
    (hg : g.method = m) (hn : As.length = n) (hsize : g.locals.size = nL) (hstack : g.stack = As.reverse ++ rest) (hW : 2 * g.monitorRoom + (rest.map fun v => v.category).sum ≤ 8) (hdg : decode cc g.pc = .ok (.invokestatic index, 3)) (hf : cells + mc ≤ R.cells ∧ slots + ms ≤ R.slots) :
    vx_Run p l e R s m args below meth c H locs cells slots mc ms g rest (Qc As.toArray) XC free := by
  obtain ⟨⟨hrc, hrs, hfr, hlo, hws, hcw⟩, hcode, hini, hy, hlen, hl, hstt⟩ := cw
  have hK : vx_Back l R p e below s args y 3 8 (PreOf R mc ms Pc) (PostOf Qc mc ms free) (vx_Post XC mc ms free) := vx_backW (hh := hh) (bytes := bytes) (maxL := maxL) (ret := ret) hM hp.1 hrc hrs hfr hlo hws hcw (fun a' U hW => word_at hW (Or.inl (by first | rfl | simp [Cond.onTables, Cond.keeps, Cond.steady])) hini)
  obtain ⟨hx, hb, hml, ho, -⟩ := S
  intro T hT X
  rcases vx_callSX X hx (hh := hh) (bytes := bytes) (maxL := maxL) (ret := ret) ho hl hstt hini hcode hy hK hg (hsize.trans hml.symm) (argsL := As) (rest := rest) (fun sig h => hn.trans (hlen sig h)) hstack hW (by rw [hb]; exact hdg)
    (fun vm₁ hW₁ => ⟨hf.1, hf.2, hp.2 (T.setVm vm₁) hT hW₁⟩) with ⟨v, vm₁, ⟨U', l2, c2, s2⟩, hW₁, X', ⟨g', mk, t, L, e1, e2, hq, h1, hL, h2, h3⟩, st⟩ | ⟨q, vm₁, ⟨U', l2, c2, s2⟩, hW₁, X', ⟨g', mk, t, L, E, ce, e1, e2, hq, hce, hcv, hcl, h1, hL, h2, h3⟩, st⟩
  · dsimp only [Pt.U, Pt.locs, Pt.cells, Pt.slots] at X' e1 e2 h1 h2 h3 st
    subst h1; subst h2; subst h3
    exact Or.inl ⟨v, (T.setVm vm₁).calling g' mk As.toArray, t, U', L, hT, X', hL, e1, e2, hq, st⟩
  · dsimp only [Pt.U, Pt.locs, Pt.cells, Pt.slots] at X' e1 e2 h1 h2 h3 st hcl
    subst h1; subst h2; subst h3
    exact Or.inr ⟨q, (T.setVm vm₁).calling g' mk As.toArray, t, U', L, E, ce, hT, X', hL, e1, e2, hq, hce, hcv, vx_cls hW₁ hcl, st⟩
end
end VXH
theorem vx_ofWH {l : Launch} {y : MethodName} {ws ws' : List Cond} {rm : Room} {Pc : Array Value → State → Prop} {Qc : Array Value → State → Outcome → State → Prop} {XC : String → State → State → Prop} {mc ms : Nat} {free : Addr → Prop} {cc : ByteArray} {maxL : Nat} {ret : Option FieldType} {hh : List (Nat × Nat × Nat × Nat)}
    (hy : plainName y.cls = true) (hw : ws = Cond.codeWith y cc maxL ret hh :: ws')
    (body : ∀ p e s m args below meth c s₁, BodyLoose p l y (headSpec ws rm) cc maxL ret e s m args below meth c s₁ → c.maxLocals = maxL → Pc args s →
      W p l e (headSpec ws rm).room s m args below meth c s.heap [] 0 0 (vx_MQ below Qc XC args s mc ms free) (entryFrame m args maxL)) : vx_Met l y ws rm Pc Qc XC mc ms free := by
  refine MetFree.of_bodyS (code := cc) (maxLocals := maxL) (ret := ret) hy ?_ ?_
  · intro args s m h hn
    obtain ⟨m9, meth, c, hn9, h1, h2, h3, h4, -, h5, h6, -⟩ := Cond.codeWith_spec (atoms_spec (ws := ws) h _ (by rw [hw]; exact List.mem_cons_self))
    cases hn.symm.trans hn9
    exact ⟨meth, c, h1, h2, h3, h4, h5, h6⟩
  · intro p e s m args below meth c s₁ B hml hP _
    have hh0 : s₁.heap = s.heap := by rw [B.state]; rfl
    obtain ⟨t, a1, o, b1, b2, b3⟩ := body p e s m args below meth c s₁ B hml hP s₁ hh0 (Stand.of_body B)
    exact ⟨t, o, a1, b1, b2, b3⟩
/-! ===== END ===== -/
end
section
-- ===== PART A: goes FIRST, ahead of the names: the tables' words, and 'selects' of the private methods out of them =====
/-- a private method of a class that the tables say can be made, by its rows of tables_1 -/
def lw_okq (q : MethodName × Nat) : Prop := (q.1.cls ≠ "java/lang/invoke/MethodHandle" ∧ q.1.cls ≠ "java/lang/invoke/VarHandle") ∧ Cond.instantiable q.1.cls q.2 ∈ tables_1 ∧ Cond.privateMethod q.1 ∈ tables_1 ∧ Cond.instanceMethod q.1 ∈ tables_1
theorem lw_p0 : lw_okq (⟨"PusherRoom$RoomText", "clear", "()V"⟩, 10) := ⟨⟨by decide +kernel, by decide +kernel⟩, List.mem_of_getElem? (i := 54) (by decide +kernel), List.mem_of_getElem? (i := 60) (by decide +kernel), List.mem_of_getElem? (i := 61) (by decide +kernel)⟩
theorem lw_p1 : lw_okq (⟨"java/lang/Throwable", "fillInStackTrace", "(I)Ljava/lang/Throwable;"⟩, 6) := ⟨⟨by decide +kernel, by decide +kernel⟩, List.mem_of_getElem? (i := 415) (by decide +kernel), List.mem_of_getElem? (i := 413) (by decide +kernel), List.mem_of_getElem? (i := 414) (by decide +kernel)⟩
theorem lw_p2 : lw_okq (⟨"PusherRoom$RoomText", "endRow", "()Z"⟩, 10) := ⟨⟨by decide +kernel, by decide +kernel⟩, List.mem_of_getElem? (i := 54) (by decide +kernel), List.mem_of_getElem? (i := 485) (by decide +kernel), List.mem_of_getElem? (i := 486) (by decide +kernel)⟩
theorem lw_p3 : lw_okq (⟨"PusherRoom$RoomText", "addCell", "(C)Z"⟩, 10) := ⟨⟨by decide +kernel, by decide +kernel⟩, List.mem_of_getElem? (i := 54) (by decide +kernel), List.mem_of_getElem? (i := 489) (by decide +kernel), List.mem_of_getElem? (i := 490) (by decide +kernel)⟩
theorem lw_p4 : lw_okq (⟨"PusherRoom$Grid", "pulled", "(J)J"⟩, 7) := ⟨⟨by decide +kernel, by decide +kernel⟩, List.mem_of_getElem? (i := 107) (by decide +kernel), List.mem_of_getElem? (i := 615) (by decide +kernel), List.mem_of_getElem? (i := 616) (by decide +kernel)⟩
theorem lw_p5 : lw_okq (⟨"PusherRoom", "requireRoom", "()V"⟩, 12) := ⟨⟨by decide +kernel, by decide +kernel⟩, List.mem_of_getElem? (i := 31) (by decide +kernel), List.mem_of_getElem? (i := 653) (by decide +kernel), List.mem_of_getElem? (i := 654) (by decide +kernel)⟩
theorem lw_p6 : lw_okq (⟨"PusherRoom$Matching", "measure", "(J)I"⟩, 3) := ⟨⟨by decide +kernel, by decide +kernel⟩, List.mem_of_getElem? (i := 250) (by decide +kernel), List.mem_of_getElem? (i := 818) (by decide +kernel), List.mem_of_getElem? (i := 819) (by decide +kernel)⟩
theorem lw_p7 : lw_okq (⟨"PusherRoom$Matching", "measureFrom", "(II)V"⟩, 3) := ⟨⟨by decide +kernel, by decide +kernel⟩, List.mem_of_getElem? (i := 250) (by decide +kernel), List.mem_of_getElem? (i := 823) (by decide +kernel), List.mem_of_getElem? (i := 824) (by decide +kernel)⟩
theorem lw_p8 : lw_okq (⟨"PusherRoom$Matching", "offer", "(II)V"⟩, 3) := ⟨⟨by decide +kernel, by decide +kernel⟩, List.mem_of_getElem? (i := 250) (by decide +kernel), List.mem_of_getElem? (i := 833) (by decide +kernel), List.mem_of_getElem? (i := 834) (by decide +kernel)⟩
theorem lw_p9 : lw_okq (⟨"PusherRoom$Matching", "offerTo", "(III)V"⟩, 3) := ⟨⟨by decide +kernel, by decide +kernel⟩, List.mem_of_getElem? (i := 250) (by decide +kernel), List.mem_of_getElem? (i := 838) (by decide +kernel), List.mem_of_getElem? (i := 839) (by decide +kernel)⟩
theorem lw_p10 : lw_okq (⟨"PusherRoom$Position", "ahead", "(I)J"⟩, 3) := ⟨⟨by decide +kernel, by decide +kernel⟩, List.mem_of_getElem? (i := 148) (by decide +kernel), List.mem_of_getElem? (i := 912) (by decide +kernel), List.mem_of_getElem? (i := 913) (by decide +kernel)⟩
theorem lw_p11 : lw_okq (⟨"PusherRoom$Position", "boxReason", "(JI)I"⟩, 3) := ⟨⟨by decide +kernel, by decide +kernel⟩, List.mem_of_getElem? (i := 148) (by decide +kernel), List.mem_of_getElem? (i := 917) (by decide +kernel), List.mem_of_getElem? (i := 918) (by decide +kernel)⟩
theorem lw_p12 : lw_okq (⟨"PusherRoom", "keepRefusal", "(II)V"⟩, 12) := ⟨⟨by decide +kernel, by decide +kernel⟩, List.mem_of_getElem? (i := 31) (by decide +kernel), List.mem_of_getElem? (i := 926) (by decide +kernel), List.mem_of_getElem? (i := 927) (by decide +kernel)⟩
theorem lw_p13 : lw_okq (⟨"PusherRoom$History", "forgetOldest", "()V"⟩, 4) := ⟨⟨by decide +kernel, by decide +kernel⟩, List.mem_of_getElem? (i := 215) (by decide +kernel), List.mem_of_getElem? (i := 968) (by decide +kernel), List.mem_of_getElem? (i := 969) (by decide +kernel)⟩
theorem lw_p14 : lw_okq (⟨"PusherRoom", "requirePush", "(II)V"⟩, 12) := ⟨⟨by decide +kernel, by decide +kernel⟩, List.mem_of_getElem? (i := 31) (by decide +kernel), List.mem_of_getElem? (i := 981) (by decide +kernel), List.mem_of_getElem? (i := 982) (by decide +kernel)⟩
theorem lw_p15 : lw_okq (⟨"PusherRoom", "requireBox", "(II)V"⟩, 12) := ⟨⟨by decide +kernel, by decide +kernel⟩, List.mem_of_getElem? (i := 31) (by decide +kernel), List.mem_of_getElem? (i := 985) (by decide +kernel), List.mem_of_getElem? (i := 986) (by decide +kernel)⟩
def lw_privs_1 : List (MethodName × Nat) := [(⟨"PusherRoom$RoomText", "clear", "()V"⟩, 10), (⟨"java/lang/Throwable", "fillInStackTrace", "(I)Ljava/lang/Throwable;"⟩, 6), (⟨"PusherRoom$RoomText", "endRow", "()Z"⟩, 10), (⟨"PusherRoom$RoomText", "addCell", "(C)Z"⟩, 10), (⟨"PusherRoom$Grid", "pulled", "(J)J"⟩, 7), (⟨"PusherRoom", "requireRoom", "()V"⟩, 12), (⟨"PusherRoom$Matching", "measure", "(J)I"⟩, 3), (⟨"PusherRoom$Matching", "measureFrom", "(II)V"⟩, 3), (⟨"PusherRoom$Matching", "offer", "(II)V"⟩, 3), (⟨"PusherRoom$Matching", "offerTo", "(III)V"⟩, 3), (⟨"PusherRoom$Position", "ahead", "(I)J"⟩, 3), (⟨"PusherRoom$Position", "boxReason", "(JI)I"⟩, 3), (⟨"PusherRoom", "keepRefusal", "(II)V"⟩, 12), (⟨"PusherRoom$History", "forgetOldest", "()V"⟩, 4), (⟨"PusherRoom", "requirePush", "(II)V"⟩, 12), (⟨"PusherRoom", "requireBox", "(II)V"⟩, 12)]
theorem lw_r1 : ∀ q ∈ lw_privs_1, lw_okq q := List.forall_mem_cons.mpr ⟨lw_p0, List.forall_mem_cons.mpr ⟨lw_p1, List.forall_mem_cons.mpr ⟨lw_p2, List.forall_mem_cons.mpr ⟨lw_p3, List.forall_mem_cons.mpr ⟨lw_p4, List.forall_mem_cons.mpr ⟨lw_p5, List.forall_mem_cons.mpr ⟨lw_p6, List.forall_mem_cons.mpr ⟨lw_p7, List.forall_mem_cons.mpr ⟨lw_p8, List.forall_mem_cons.mpr ⟨lw_p9, List.forall_mem_cons.mpr ⟨lw_p10, List.forall_mem_cons.mpr ⟨lw_p11, List.forall_mem_cons.mpr ⟨lw_p12, List.forall_mem_cons.mpr ⟨lw_p13, List.forall_mem_cons.mpr ⟨lw_p14, List.forall_mem_cons.mpr ⟨lw_p15, fun _ h => absurd h List.not_mem_nil⟩⟩⟩⟩⟩⟩⟩⟩⟩⟩⟩⟩⟩⟩⟩⟩
theorem lw_p16 : lw_okq (⟨"PusherRoom$Game", "walkTo", "(J)V"⟩, 7) := ⟨⟨by decide +kernel, by decide +kernel⟩, List.mem_of_getElem? (i := 101) (by decide +kernel), List.mem_of_getElem? (i := 1010) (by decide +kernel), List.mem_of_getElem? (i := 1011) (by decide +kernel)⟩
theorem lw_p17 : lw_okq (⟨"PusherRoom$Game", "directionInto", "(J)I"⟩, 7) := ⟨⟨by decide +kernel, by decide +kernel⟩, List.mem_of_getElem? (i := 101) (by decide +kernel), List.mem_of_getElem? (i := 1023) (by decide +kernel), List.mem_of_getElem? (i := 1024) (by decide +kernel)⟩
theorem lw_p18 : lw_okq (⟨"PusherRoom", "commitOrThrow", "()V"⟩, 12) := ⟨⟨by decide +kernel, by decide +kernel⟩, List.mem_of_getElem? (i := 31) (by decide +kernel), List.mem_of_getElem? (i := 1030) (by decide +kernel), List.mem_of_getElem? (i := 1031) (by decide +kernel)⟩
theorem lw_p19 : lw_okq (⟨"PusherRoom", "playElements", "(I)Z"⟩, 12) := ⟨⟨by decide +kernel, by decide +kernel⟩, List.mem_of_getElem? (i := 31) (by decide +kernel), List.mem_of_getElem? (i := 1076) (by decide +kernel), List.mem_of_getElem? (i := 1077) (by decide +kernel)⟩
theorem lw_p20 : lw_okq (⟨"PusherRoom", "playElement", "(II)Z"⟩, 12) := ⟨⟨by decide +kernel, by decide +kernel⟩, List.mem_of_getElem? (i := 31) (by decide +kernel), List.mem_of_getElem? (i := 1084) (by decide +kernel), List.mem_of_getElem? (i := 1085) (by decide +kernel)⟩
theorem lw_p21 : lw_okq (⟨"PusherRoom", "searchAndKeep", "(IZ)V"⟩, 12) := ⟨⟨by decide +kernel, by decide +kernel⟩, List.mem_of_getElem? (i := 31) (by decide +kernel), List.mem_of_getElem? (i := 1128) (by decide +kernel), List.mem_of_getElem? (i := 1129) (by decide +kernel)⟩
theorem lw_p22 : lw_okq (⟨"PusherRoom$Search", "add", "(JIII)V"⟩, 11) := ⟨⟨by decide +kernel, by decide +kernel⟩, List.mem_of_getElem? (i := 266) (by decide +kernel), List.mem_of_getElem? (i := 1140) (by decide +kernel), List.mem_of_getElem? (i := 1141) (by decide +kernel)⟩
theorem lw_p23 : lw_okq (⟨"PusherRoom$Search", "slotFor", "(JI)I"⟩, 11) := ⟨⟨by decide +kernel, by decide +kernel⟩, List.mem_of_getElem? (i := 266) (by decide +kernel), List.mem_of_getElem? (i := 1144) (by decide +kernel), List.mem_of_getElem? (i := 1145) (by decide +kernel)⟩
theorem lw_p24 : lw_okq (⟨"PusherRoom$Search", "visit", "(I)V"⟩, 11) := ⟨⟨by decide +kernel, by decide +kernel⟩, List.mem_of_getElem? (i := 266) (by decide +kernel), List.mem_of_getElem? (i := 1152) (by decide +kernel), List.mem_of_getElem? (i := 1153) (by decide +kernel)⟩
theorem lw_p25 : lw_okq (⟨"PusherRoom$Search", "lookAt", "(IJII)V"⟩, 11) := ⟨⟨by decide +kernel, by decide +kernel⟩, List.mem_of_getElem? (i := 266) (by decide +kernel), List.mem_of_getElem? (i := 1160) (by decide +kernel), List.mem_of_getElem? (i := 1161) (by decide +kernel)⟩
theorem lw_p26 : lw_okq (⟨"PusherRoomModel", "hasRoom", "()Z"⟩, 36) := ⟨⟨by decide +kernel, by decide +kernel⟩, List.mem_of_getElem? (i := 1295) (by decide +kernel), List.mem_of_getElem? (i := 1422) (by decide +kernel), List.mem_of_getElem? (i := 1423) (by decide +kernel)⟩
theorem lw_p27 : lw_okq (⟨"PusherRoomModel", "roomFault", "()I"⟩, 36) := ⟨⟨by decide +kernel, by decide +kernel⟩, List.mem_of_getElem? (i := 1295) (by decide +kernel), List.mem_of_getElem? (i := 1441) (by decide +kernel), List.mem_of_getElem? (i := 1442) (by decide +kernel)⟩
theorem lw_p28 : lw_okq (⟨"PusherRoomModel", "fails", "(I)I"⟩, 36) := ⟨⟨by decide +kernel, by decide +kernel⟩, List.mem_of_getElem? (i := 1295) (by decide +kernel), List.mem_of_getElem? (i := 1454) (by decide +kernel), List.mem_of_getElem? (i := 1455) (by decide +kernel)⟩
theorem lw_p29 : lw_okq (⟨"PusherRoomModel", "lays", "(I)I"⟩, 36) := ⟨⟨by decide +kernel, by decide +kernel⟩, List.mem_of_getElem? (i := 1295) (by decide +kernel), List.mem_of_getElem? (i := 1458) (by decide +kernel), List.mem_of_getElem? (i := 1459) (by decide +kernel)⟩
theorem lw_p30 : lw_okq (⟨"PusherRoomModel", "isOpen", "(I)Z"⟩, 36) := ⟨⟨by decide +kernel, by decide +kernel⟩, List.mem_of_getElem? (i := 1295) (by decide +kernel), List.mem_of_getElem? (i := 1466) (by decide +kernel), List.mem_of_getElem? (i := 1467) (by decide +kernel)⟩
theorem lw_p31 : lw_okq (⟨"PusherRoomModel", "isBox", "(I)Z"⟩, 36) := ⟨⟨by decide +kernel, by decide +kernel⟩, List.mem_of_getElem? (i := 1295) (by decide +kernel), List.mem_of_getElem? (i := 1470) (by decide +kernel), List.mem_of_getElem? (i := 1471) (by decide +kernel)⟩
def lw_privs_2 : List (MethodName × Nat) := [(⟨"PusherRoom$Game", "walkTo", "(J)V"⟩, 7), (⟨"PusherRoom$Game", "directionInto", "(J)I"⟩, 7), (⟨"PusherRoom", "commitOrThrow", "()V"⟩, 12), (⟨"PusherRoom", "playElements", "(I)Z"⟩, 12), (⟨"PusherRoom", "playElement", "(II)Z"⟩, 12), (⟨"PusherRoom", "searchAndKeep", "(IZ)V"⟩, 12), (⟨"PusherRoom$Search", "add", "(JIII)V"⟩, 11), (⟨"PusherRoom$Search", "slotFor", "(JI)I"⟩, 11), (⟨"PusherRoom$Search", "visit", "(I)V"⟩, 11), (⟨"PusherRoom$Search", "lookAt", "(IJII)V"⟩, 11), (⟨"PusherRoomModel", "hasRoom", "()Z"⟩, 36), (⟨"PusherRoomModel", "roomFault", "()I"⟩, 36), (⟨"PusherRoomModel", "fails", "(I)I"⟩, 36), (⟨"PusherRoomModel", "lays", "(I)I"⟩, 36), (⟨"PusherRoomModel", "isOpen", "(I)Z"⟩, 36), (⟨"PusherRoomModel", "isBox", "(I)Z"⟩, 36)]
theorem lw_r2 : ∀ q ∈ lw_privs_2, lw_okq q := List.forall_mem_cons.mpr ⟨lw_p16, List.forall_mem_cons.mpr ⟨lw_p17, List.forall_mem_cons.mpr ⟨lw_p18, List.forall_mem_cons.mpr ⟨lw_p19, List.forall_mem_cons.mpr ⟨lw_p20, List.forall_mem_cons.mpr ⟨lw_p21, List.forall_mem_cons.mpr ⟨lw_p22, List.forall_mem_cons.mpr ⟨lw_p23, List.forall_mem_cons.mpr ⟨lw_p24, List.forall_mem_cons.mpr ⟨lw_p25, List.forall_mem_cons.mpr ⟨lw_p26, List.forall_mem_cons.mpr ⟨lw_p27, List.forall_mem_cons.mpr ⟨lw_p28, List.forall_mem_cons.mpr ⟨lw_p29, List.forall_mem_cons.mpr ⟨lw_p30, List.forall_mem_cons.mpr ⟨lw_p31, fun _ h => absurd h List.not_mem_nil⟩⟩⟩⟩⟩⟩⟩⟩⟩⟩⟩⟩⟩⟩⟩⟩
theorem lw_p32 : lw_okq (⟨"PusherRoomModel", "isGoal", "(I)Z"⟩, 36) := ⟨⟨by decide +kernel, by decide +kernel⟩, List.mem_of_getElem? (i := 1295) (by decide +kernel), List.mem_of_getElem? (i := 1474) (by decide +kernel), List.mem_of_getElem? (i := 1475) (by decide +kernel)⟩
theorem lw_p33 : lw_okq (⟨"PusherRoomModel", "dies", "()V"⟩, 36) := ⟨⟨by decide +kernel, by decide +kernel⟩, List.mem_of_getElem? (i := 1295) (by decide +kernel), List.mem_of_getElem? (i := 1482) (by decide +kernel), List.mem_of_getElem? (i := 1483) (by decide +kernel)⟩
theorem lw_p34 : lw_okq (⟨"PusherRoomModel", "size", "()I"⟩, 36) := ⟨⟨by decide +kernel, by decide +kernel⟩, List.mem_of_getElem? (i := 1295) (by decide +kernel), List.mem_of_getElem? (i := 1486) (by decide +kernel), List.mem_of_getElem? (i := 1487) (by decide +kernel)⟩
theorem lw_p35 : lw_okq (⟨"PusherRoomModel", "pushesTo", "(I)V"⟩, 36) := ⟨⟨by decide +kernel, by decide +kernel⟩, List.mem_of_getElem? (i := 1295) (by decide +kernel), List.mem_of_getElem? (i := 1490) (by decide +kernel), List.mem_of_getElem? (i := 1491) (by decide +kernel)⟩
theorem lw_p36 : lw_okq (⟨"PusherRoomModel", "beside", "(II)I"⟩, 36) := ⟨⟨by decide +kernel, by decide +kernel⟩, List.mem_of_getElem? (i := 1295) (by decide +kernel), List.mem_of_getElem? (i := 1497) (by decide +kernel), List.mem_of_getElem? (i := 1498) (by decide +kernel)⟩
theorem lw_p37 : lw_okq (⟨"PusherRoomModel", "walksFrom", "(I)V"⟩, 36) := ⟨⟨by decide +kernel, by decide +kernel⟩, List.mem_of_getElem? (i := 1295) (by decide +kernel), List.mem_of_getElem? (i := 1501) (by decide +kernel), List.mem_of_getElem? (i := 1502) (by decide +kernel)⟩
theorem lw_p38 : lw_okq (⟨"PusherRoomModel", "freezes", "()V"⟩, 36) := ⟨⟨by decide +kernel, by decide +kernel⟩, List.mem_of_getElem? (i := 1295) (by decide +kernel), List.mem_of_getElem? (i := 1505) (by decide +kernel), List.mem_of_getElem? (i := 1506) (by decide +kernel)⟩
theorem lw_p39 : lw_okq (⟨"PusherRoomModel", "isBlocked", "(II)Z"⟩, 36) := ⟨⟨by decide +kernel, by decide +kernel⟩, List.mem_of_getElem? (i := 1295) (by decide +kernel), List.mem_of_getElem? (i := 1509) (by decide +kernel), List.mem_of_getElem? (i := 1510) (by decide +kernel)⟩
theorem lw_p40 : lw_okq (⟨"PusherRoomModel", "isIn", "(II)Z"⟩, 36) := ⟨⟨by decide +kernel, by decide +kernel⟩, List.mem_of_getElem? (i := 1295) (by decide +kernel), List.mem_of_getElem? (i := 1513) (by decide +kernel), List.mem_of_getElem? (i := 1514) (by decide +kernel)⟩
theorem lw_p41 : lw_okq (⟨"PusherRoomModel", "isTunnel", "(II)Z"⟩, 36) := ⟨⟨by decide +kernel, by decide +kernel⟩, List.mem_of_getElem? (i := 1295) (by decide +kernel), List.mem_of_getElem? (i := 1517) (by decide +kernel), List.mem_of_getElem? (i := 1518) (by decide +kernel)⟩
theorem lw_p42 : lw_okq (⟨"PusherRoomModel", "counted", "(Z)I"⟩, 36) := ⟨⟨by decide +kernel, by decide +kernel⟩, List.mem_of_getElem? (i := 1295) (by decide +kernel), List.mem_of_getElem? (i := 1525) (by decide +kernel), List.mem_of_getElem? (i := 1526) (by decide +kernel)⟩
theorem lw_p43 : lw_okq (⟨"PusherRoomModel", "recordedPushes", "()I"⟩, 36) := ⟨⟨by decide +kernel, by decide +kernel⟩, List.mem_of_getElem? (i := 1295) (by decide +kernel), List.mem_of_getElem? (i := 1529) (by decide +kernel), List.mem_of_getElem? (i := 1530) (by decide +kernel)⟩
theorem lw_p44 : lw_okq (⟨"PusherRoomModel", "groups", "()I"⟩, 36) := ⟨⟨by decide +kernel, by decide +kernel⟩, List.mem_of_getElem? (i := 1295) (by decide +kernel), List.mem_of_getElem? (i := 1533) (by decide +kernel), List.mem_of_getElem? (i := 1534) (by decide +kernel)⟩
theorem lw_p45 : lw_okq (⟨"PusherRoomModel", "goalRooms", "(I)I"⟩, 36) := ⟨⟨by decide +kernel, by decide +kernel⟩, List.mem_of_getElem? (i := 1295) (by decide +kernel), List.mem_of_getElem? (i := 1537) (by decide +kernel), List.mem_of_getElem? (i := 1538) (by decide +kernel)⟩
theorem lw_p46 : lw_okq (⟨"PusherRoomModel", "gathers", "(I)Z"⟩, 36) := ⟨⟨by decide +kernel, by decide +kernel⟩, List.mem_of_getElem? (i := 1295) (by decide +kernel), List.mem_of_getElem? (i := 1541) (by decide +kernel), List.mem_of_getElem? (i := 1542) (by decide +kernel)⟩
theorem lw_p47 : lw_okq (⟨"PusherRoomModel", "isSolved", "()Z"⟩, 36) := ⟨⟨by decide +kernel, by decide +kernel⟩, List.mem_of_getElem? (i := 1295) (by decide +kernel), List.mem_of_getElem? (i := 1545) (by decide +kernel), List.mem_of_getElem? (i := 1546) (by decide +kernel)⟩
def lw_privs_3 : List (MethodName × Nat) := [(⟨"PusherRoomModel", "isGoal", "(I)Z"⟩, 36), (⟨"PusherRoomModel", "dies", "()V"⟩, 36), (⟨"PusherRoomModel", "size", "()I"⟩, 36), (⟨"PusherRoomModel", "pushesTo", "(I)V"⟩, 36), (⟨"PusherRoomModel", "beside", "(II)I"⟩, 36), (⟨"PusherRoomModel", "walksFrom", "(I)V"⟩, 36), (⟨"PusherRoomModel", "freezes", "()V"⟩, 36), (⟨"PusherRoomModel", "isBlocked", "(II)Z"⟩, 36), (⟨"PusherRoomModel", "isIn", "(II)Z"⟩, 36), (⟨"PusherRoomModel", "isTunnel", "(II)Z"⟩, 36), (⟨"PusherRoomModel", "counted", "(Z)I"⟩, 36), (⟨"PusherRoomModel", "recordedPushes", "()I"⟩, 36), (⟨"PusherRoomModel", "groups", "()I"⟩, 36), (⟨"PusherRoomModel", "goalRooms", "(I)I"⟩, 36), (⟨"PusherRoomModel", "gathers", "(I)Z"⟩, 36), (⟨"PusherRoomModel", "isSolved", "()Z"⟩, 36)]
theorem lw_r3 : ∀ q ∈ lw_privs_3, lw_okq q := List.forall_mem_cons.mpr ⟨lw_p32, List.forall_mem_cons.mpr ⟨lw_p33, List.forall_mem_cons.mpr ⟨lw_p34, List.forall_mem_cons.mpr ⟨lw_p35, List.forall_mem_cons.mpr ⟨lw_p36, List.forall_mem_cons.mpr ⟨lw_p37, List.forall_mem_cons.mpr ⟨lw_p38, List.forall_mem_cons.mpr ⟨lw_p39, List.forall_mem_cons.mpr ⟨lw_p40, List.forall_mem_cons.mpr ⟨lw_p41, List.forall_mem_cons.mpr ⟨lw_p42, List.forall_mem_cons.mpr ⟨lw_p43, List.forall_mem_cons.mpr ⟨lw_p44, List.forall_mem_cons.mpr ⟨lw_p45, List.forall_mem_cons.mpr ⟨lw_p46, List.forall_mem_cons.mpr ⟨lw_p47, fun _ h => absurd h List.not_mem_nil⟩⟩⟩⟩⟩⟩⟩⟩⟩⟩⟩⟩⟩⟩⟩⟩
theorem lw_p48 : lw_okq (⟨"PusherRoomModel", "oneMore", "(I)V"⟩, 36) := ⟨⟨by decide +kernel, by decide +kernel⟩, List.mem_of_getElem? (i := 1295) (by decide +kernel), List.mem_of_getElem? (i := 1557) (by decide +kernel), List.mem_of_getElem? (i := 1558) (by decide +kernel)⟩
theorem lw_p49 : lw_okq (⟨"PusherRoomModel", "stuckFor", "()I"⟩, 36) := ⟨⟨by decide +kernel, by decide +kernel⟩, List.mem_of_getElem? (i := 1295) (by decide +kernel), List.mem_of_getElem? (i := 1565) (by decide +kernel), List.mem_of_getElem? (i := 1566) (by decide +kernel)⟩
theorem lw_p50 : lw_okq (⟨"PusherRoomModel", "ordered", "(I)I"⟩, 36) := ⟨⟨by decide +kernel, by decide +kernel⟩, List.mem_of_getElem? (i := 1295) (by decide +kernel), List.mem_of_getElem? (i := 1573) (by decide +kernel), List.mem_of_getElem? (i := 1574) (by decide +kernel)⟩
theorem lw_p51 : lw_okq (⟨"PusherRoomModel", "plainSteps", "(I)V"⟩, 36) := ⟨⟨by decide +kernel, by decide +kernel⟩, List.mem_of_getElem? (i := 1295) (by decide +kernel), List.mem_of_getElem? (i := 1577) (by decide +kernel), List.mem_of_getElem? (i := 1578) (by decide +kernel)⟩
theorem lw_p52 : lw_okq (⟨"PusherRoomModel", "reasonForStep", "(I)I"⟩, 36) := ⟨⟨by decide +kernel, by decide +kernel⟩, List.mem_of_getElem? (i := 1295) (by decide +kernel), List.mem_of_getElem? (i := 1585) (by decide +kernel), List.mem_of_getElem? (i := 1586) (by decide +kernel)⟩
theorem lw_p53 : lw_okq (⟨"PusherRoomModel", "reasonForBox", "(II)I"⟩, 36) := ⟨⟨by decide +kernel, by decide +kernel⟩, List.mem_of_getElem? (i := 1295) (by decide +kernel), List.mem_of_getElem? (i := 1589) (by decide +kernel), List.mem_of_getElem? (i := 1590) (by decide +kernel)⟩
theorem lw_p54 : lw_okq (⟨"PusherRoomModel", "keeps", "(II)I"⟩, 36) := ⟨⟨by decide +kernel, by decide +kernel⟩, List.mem_of_getElem? (i := 1295) (by decide +kernel), List.mem_of_getElem? (i := 1593) (by decide +kernel), List.mem_of_getElem? (i := 1594) (by decide +kernel)⟩
theorem lw_p55 : lw_okq (⟨"PusherRoomModel", "remembers", "()V"⟩, 36) := ⟨⟨by decide +kernel, by decide +kernel⟩, List.mem_of_getElem? (i := 1295) (by decide +kernel), List.mem_of_getElem? (i := 1597) (by decide +kernel), List.mem_of_getElem? (i := 1598) (by decide +kernel)⟩
theorem lw_p56 : lw_okq (⟨"PusherRoomModel", "commands", "()V"⟩, 36) := ⟨⟨by decide +kernel, by decide +kernel⟩, List.mem_of_getElem? (i := 1295) (by decide +kernel), List.mem_of_getElem? (i := 1601) (by decide +kernel), List.mem_of_getElem? (i := 1602) (by decide +kernel)⟩
theorem lw_p57 : lw_okq (⟨"PusherRoomModel", "goes", "(I)I"⟩, 36) := ⟨⟨by decide +kernel, by decide +kernel⟩, List.mem_of_getElem? (i := 1295) (by decide +kernel), List.mem_of_getElem? (i := 1605) (by decide +kernel), List.mem_of_getElem? (i := 1606) (by decide +kernel)⟩
theorem lw_p58 : lw_okq (⟨"PusherRoomModel", "pushing", "(IIZ)I"⟩, 36) := ⟨⟨by decide +kernel, by decide +kernel⟩, List.mem_of_getElem? (i := 1295) (by decide +kernel), List.mem_of_getElem? (i := 1613) (by decide +kernel), List.mem_of_getElem? (i := 1614) (by decide +kernel)⟩
theorem lw_p59 : lw_okq (⟨"PusherRoomModel", "pushStops", "(II)I"⟩, 36) := ⟨⟨by decide +kernel, by decide +kernel⟩, List.mem_of_getElem? (i := 1295) (by decide +kernel), List.mem_of_getElem? (i := 1617) (by decide +kernel), List.mem_of_getElem? (i := 1618) (by decide +kernel)⟩
theorem lw_p60 : lw_okq (⟨"PusherRoomModel", "reasonForPush", "(II)I"⟩, 36) := ⟨⟨by decide +kernel, by decide +kernel⟩, List.mem_of_getElem? (i := 1295) (by decide +kernel), List.mem_of_getElem? (i := 1621) (by decide +kernel), List.mem_of_getElem? (i := 1622) (by decide +kernel)⟩
theorem lw_p61 : lw_okq (⟨"PusherRoomModel", "walksAndPushes", "(II)V"⟩, 36) := ⟨⟨by decide +kernel, by decide +kernel⟩, List.mem_of_getElem? (i := 1295) (by decide +kernel), List.mem_of_getElem? (i := 1625) (by decide +kernel), List.mem_of_getElem? (i := 1626) (by decide +kernel)⟩
theorem lw_p62 : lw_okq (⟨"PusherRoomModel", "isNearer", "(I)Z"⟩, 36) := ⟨⟨by decide +kernel, by decide +kernel⟩, List.mem_of_getElem? (i := 1295) (by decide +kernel), List.mem_of_getElem? (i := 1629) (by decide +kernel), List.mem_of_getElem? (i := 1630) (by decide +kernel)⟩
theorem lw_p63 : lw_okq (⟨"PusherRoomModel", "goesBack", "()V"⟩, 36) := ⟨⟨by decide +kernel, by decide +kernel⟩, List.mem_of_getElem? (i := 1295) (by decide +kernel), List.mem_of_getElem? (i := 1633) (by decide +kernel), List.mem_of_getElem? (i := 1634) (by decide +kernel)⟩
def lw_privs_4 : List (MethodName × Nat) := [(⟨"PusherRoomModel", "oneMore", "(I)V"⟩, 36), (⟨"PusherRoomModel", "stuckFor", "()I"⟩, 36), (⟨"PusherRoomModel", "ordered", "(I)I"⟩, 36), (⟨"PusherRoomModel", "plainSteps", "(I)V"⟩, 36), (⟨"PusherRoomModel", "reasonForStep", "(I)I"⟩, 36), (⟨"PusherRoomModel", "reasonForBox", "(II)I"⟩, 36), (⟨"PusherRoomModel", "keeps", "(II)I"⟩, 36), (⟨"PusherRoomModel", "remembers", "()V"⟩, 36), (⟨"PusherRoomModel", "commands", "()V"⟩, 36), (⟨"PusherRoomModel", "goes", "(I)I"⟩, 36), (⟨"PusherRoomModel", "pushing", "(IIZ)I"⟩, 36), (⟨"PusherRoomModel", "pushStops", "(II)I"⟩, 36), (⟨"PusherRoomModel", "reasonForPush", "(II)I"⟩, 36), (⟨"PusherRoomModel", "walksAndPushes", "(II)V"⟩, 36), (⟨"PusherRoomModel", "isNearer", "(I)Z"⟩, 36), (⟨"PusherRoomModel", "goesBack", "()V"⟩, 36)]
theorem lw_r4 : ∀ q ∈ lw_privs_4, lw_okq q := List.forall_mem_cons.mpr ⟨lw_p48, List.forall_mem_cons.mpr ⟨lw_p49, List.forall_mem_cons.mpr ⟨lw_p50, List.forall_mem_cons.mpr ⟨lw_p51, List.forall_mem_cons.mpr ⟨lw_p52, List.forall_mem_cons.mpr ⟨lw_p53, List.forall_mem_cons.mpr ⟨lw_p54, List.forall_mem_cons.mpr ⟨lw_p55, List.forall_mem_cons.mpr ⟨lw_p56, List.forall_mem_cons.mpr ⟨lw_p57, List.forall_mem_cons.mpr ⟨lw_p58, List.forall_mem_cons.mpr ⟨lw_p59, List.forall_mem_cons.mpr ⟨lw_p60, List.forall_mem_cons.mpr ⟨lw_p61, List.forall_mem_cons.mpr ⟨lw_p62, List.forall_mem_cons.mpr ⟨lw_p63, fun _ h => absurd h List.not_mem_nil⟩⟩⟩⟩⟩⟩⟩⟩⟩⟩⟩⟩⟩⟩⟩⟩
theorem lw_p64 : lw_okq (⟨"PusherRoomModel", "stepsFault", "()I"⟩, 36) := ⟨⟨by decide +kernel, by decide +kernel⟩, List.mem_of_getElem? (i := 1295) (by decide +kernel), List.mem_of_getElem? (i := 1649) (by decide +kernel), List.mem_of_getElem? (i := 1650) (by decide +kernel)⟩
theorem lw_p65 : lw_okq (⟨"PusherRoomModel", "reasonForLetter", "(I)I"⟩, 36) := ⟨⟨by decide +kernel, by decide +kernel⟩, List.mem_of_getElem? (i := 1295) (by decide +kernel), List.mem_of_getElem? (i := 1656) (by decide +kernel), List.mem_of_getElem? (i := 1657) (by decide +kernel)⟩
theorem lw_p66 : lw_okq (⟨"PusherRoomModel", "searches", "(IZ)I"⟩, 36) := ⟨⟨by decide +kernel, by decide +kernel⟩, List.mem_of_getElem? (i := 1295) (by decide +kernel), List.mem_of_getElem? (i := 1672) (by decide +kernel), List.mem_of_getElem? (i := 1673) (by decide +kernel)⟩
theorem lw_p67 : lw_okq (⟨"PusherRoomModel", "finds", "(III)V"⟩, 36) := ⟨⟨by decide +kernel, by decide +kernel⟩, List.mem_of_getElem? (i := 1295) (by decide +kernel), List.mem_of_getElem? (i := 1676) (by decide +kernel), List.mem_of_getElem? (i := 1677) (by decide +kernel)⟩
theorem lw_p68 : lw_okq (⟨"PusherRoomModel", "boxSet", "()J"⟩, 36) := ⟨⟨by decide +kernel, by decide +kernel⟩, List.mem_of_getElem? (i := 1295) (by decide +kernel), List.mem_of_getElem? (i := 1680) (by decide +kernel), List.mem_of_getElem? (i := 1681) (by decide +kernel)⟩
theorem lw_p69 : lw_okq (⟨"PusherRoomModel", "lowestHere", "()I"⟩, 36) := ⟨⟨by decide +kernel, by decide +kernel⟩, List.mem_of_getElem? (i := 1295) (by decide +kernel), List.mem_of_getElem? (i := 1684) (by decide +kernel), List.mem_of_getElem? (i := 1685) (by decide +kernel)⟩
theorem lw_p70 : lw_okq (⟨"PusherRoomModel", "takes", "(I)V"⟩, 36) := ⟨⟨by decide +kernel, by decide +kernel⟩, List.mem_of_getElem? (i := 1295) (by decide +kernel), List.mem_of_getElem? (i := 1688) (by decide +kernel), List.mem_of_getElem? (i := 1689) (by decide +kernel)⟩
theorem lw_p71 : lw_okq (⟨"PusherRoomModel", "visits", "(IIZ)V"⟩, 36) := ⟨⟨by decide +kernel, by decide +kernel⟩, List.mem_of_getElem? (i := 1295) (by decide +kernel), List.mem_of_getElem? (i := 1692) (by decide +kernel), List.mem_of_getElem? (i := 1693) (by decide +kernel)⟩
def lw_privs_5 : List (MethodName × Nat) := [(⟨"PusherRoomModel", "stepsFault", "()I"⟩, 36), (⟨"PusherRoomModel", "reasonForLetter", "(I)I"⟩, 36), (⟨"PusherRoomModel", "searches", "(IZ)I"⟩, 36), (⟨"PusherRoomModel", "finds", "(III)V"⟩, 36), (⟨"PusherRoomModel", "boxSet", "()J"⟩, 36), (⟨"PusherRoomModel", "lowestHere", "()I"⟩, 36), (⟨"PusherRoomModel", "takes", "(I)V"⟩, 36), (⟨"PusherRoomModel", "visits", "(IIZ)V"⟩, 36)]
theorem lw_r5 : ∀ q ∈ lw_privs_5, lw_okq q := List.forall_mem_cons.mpr ⟨lw_p64, List.forall_mem_cons.mpr ⟨lw_p65, List.forall_mem_cons.mpr ⟨lw_p66, List.forall_mem_cons.mpr ⟨lw_p67, List.forall_mem_cons.mpr ⟨lw_p68, List.forall_mem_cons.mpr ⟨lw_p69, List.forall_mem_cons.mpr ⟨lw_p70, List.forall_mem_cons.mpr ⟨lw_p71, fun _ h => absurd h List.not_mem_nil⟩⟩⟩⟩⟩⟩⟩⟩
def lw_privs : List (MethodName × Nat) := lw_privs_1 ++ (lw_privs_2 ++ (lw_privs_3 ++ (lw_privs_4 ++ (lw_privs_5))))
def lw_tbl : List Cond := k2_sels lw_privs ++ tables_1
theorem lw_privs_ok : ∀ q ∈ lw_privs, lw_okq q := by
  show ∀ q ∈ lw_privs_1 ++ (lw_privs_2 ++ (lw_privs_3 ++ (lw_privs_4 ++ (lw_privs_5)))), lw_okq q
  exact List.forall_mem_append.mpr ⟨lw_r1, List.forall_mem_append.mpr ⟨lw_r2, List.forall_mem_append.mpr ⟨lw_r3, List.forall_mem_append.mpr ⟨lw_r4, lw_r5⟩⟩⟩⟩
end
section
def RX0 : String := "PusherRoom$Game"
def TX0 : u_T := fun k => match k with
  | 0 => ("PusherRoom$Game", "grid", "LPusherRoom$Grid;", true)
  | 1 => ("PusherRoom$Game", "now", "LPusherRoom$Position;", true)
  | 2 => ("PusherRoom$Game", "start", "LPusherRoom$Position;", true)
  | 3 => ("PusherRoom$Game", "again", "LPusherRoom$Position;", true)
  | 4 => ("PusherRoom$Game", "layers", "LPusherRoom$Layers;", true)
  | 5 => ("PusherRoom$Game", "record", "[I", true)
  | _ => ("PusherRoom$Game", "steps", "I", false)
def tyX0 : Nat → FieldType := fun k => match k with
  | 0 => .object "PusherRoom$Grid"
  | 1 => .object "PusherRoom$Position"
  | 2 => .object "PusherRoom$Position"
  | 3 => .object "PusherRoom$Position"
  | 4 => .object "PusherRoom$Layers"
  | 5 => .array .int
  | _ => .int
abbrev wsX00 : List Cond := u_ws RX0 TX0 7
theorem nmX0 : ∀ a, a < 7 → ∀ b, b < 7 → a ≠ b → (TX0 a).2.1 ≠ (TX0 b).2.1 := by decide +kernel
theorem tyX0_ok : ∀ k, k < 7 → parseFieldDescriptor (TX0 k).2.2.1 = some (tyX0 k) := by decide +kernel
abbrev cX0_init : ByteArray := prog_2_method_1_code
def yX0_init : MethodName := ⟨RX0, "<init>", "()V"⟩
abbrev cX0_begin : ByteArray := prog_2_method_2_code
def yX0_begin : MethodName := ⟨RX0, "begin", "(LPusherRoom$RoomText;)V"⟩
abbrev cX0_copy : ByteArray := prog_2_method_3_code
def yX0_copy : MethodName := ⟨RX0, "copy", "(LPusherRoom$Game;)V"⟩
abbrev cX0_returnTo : ByteArray := prog_2_method_4_code
def yX0_returnTo : MethodName := ⟨RX0, "returnTo", "(JII)V"⟩
abbrev cX0_signOf : ByteArray := prog_2_method_5_code
def yX0_signOf : MethodName := ⟨RX0, "signOf", "(I)C"⟩
abbrev cX0_makeStep : ByteArray := prog_2_method_6_code
def yX0_makeStep : MethodName := ⟨RX0, "makeStep", "(I)Z"⟩
abbrev cX0_pushBox : ByteArray := prog_2_method_7_code
def yX0_pushBox : MethodName := ⟨RX0, "pushBox", "(II)V"⟩
abbrev cX0_pushBoxOn : ByteArray := prog_2_method_8_code
def yX0_pushBoxOn : MethodName := ⟨RX0, "pushBoxOn", "(II)I"⟩
abbrev cX0_walkTo : ByteArray := prog_2_method_9_code
def yX0_walkTo : MethodName := ⟨RX0, "walkTo", "(J)V"⟩
abbrev cX0_directionInto : ByteArray := prog_2_method_10_code
def yX0_directionInto : MethodName := ⟨RX0, "directionInto", "(J)I"⟩
abbrev cX0_pushes : ByteArray := prog_2_method_11_code
def yX0_pushes : MethodName := ⟨RX0, "pushes", "()I"⟩
abbrev cX0_comesOutAgain : ByteArray := prog_2_method_12_code
def yX0_comesOutAgain : MethodName := ⟨RX0, "comesOutAgain", "()Z"⟩
def RX1 : String := "PusherRoom$GoalRooms"
def TX1 : u_T := fun k => match k with
  | 0 => ("PusherRoom$GoalRooms", "grid", "LPusherRoom$Grid;", true)
  | _ => ("PusherRoom$GoalRooms", "layers", "LPusherRoom$Layers;", true)
def tyX1 : Nat → FieldType := fun k => match k with
  | 0 => .object "PusherRoom$Grid"
  | _ => .object "PusherRoom$Layers"
abbrev wsX10 : List Cond := u_ws RX1 TX1 2
theorem nmX1 : ∀ a, a < 2 → ∀ b, b < 2 → a ≠ b → (TX1 a).2.1 ≠ (TX1 b).2.1 := by decide +kernel
theorem tyX1_ok : ∀ k, k < 2 → parseFieldDescriptor (TX1 k).2.2.1 = some (tyX1 k) := by decide +kernel
abbrev cX1_init : ByteArray := prog_3_method_1_code
def yX1_init : MethodName := ⟨RX1, "<init>", "(LPusherRoom$Grid;)V"⟩
abbrev cX1_howMany : ByteArray := prog_3_method_2_code
def yX1_howMany : MethodName := ⟨RX1, "howMany", "()I"⟩
abbrev cX1_goalsOf : ByteArray := prog_3_method_3_code
def yX1_goalsOf : MethodName := ⟨RX1, "goalsOf", "(I)J"⟩
abbrev cX1_entrances : ByteArray := prog_3_method_4_code
def yX1_entrances : MethodName := ⟨RX1, "entrances", "(J)J"⟩
abbrev cX1_goalAt : ByteArray := prog_3_method_5_code
def yX1_goalAt : MethodName := ⟨RX1, "goalAt", "(JI)I"⟩
def RX2 : String := "PusherRoom$Grid"
def TX2 : u_T := fun k => match k with
  | 0 => ("PusherRoom$Grid", "rows", "I", false)
  | 1 => ("PusherRoom$Grid", "columns", "I", false)
  | 2 => ("PusherRoom$Grid", "open", "J", false)
  | 3 => ("PusherRoom$Grid", "goals", "J", false)
  | 4 => ("PusherRoom$Grid", "dead", "J", false)
  | 5 => ("PusherRoom$Grid", "firstColumn", "J", false)
  | _ => ("PusherRoom$Grid", "lastColumn", "J", false)
def tyX2 : Nat → FieldType := fun k => match k with
  | 0 => .int
  | 1 => .int
  | 2 => .long
  | 3 => .long
  | 4 => .long
  | 5 => .long
  | _ => .long
abbrev wsX20 : List Cond := u_ws RX2 TX2 7
theorem nmX2 : ∀ a, a < 7 → ∀ b, b < 7 → a ≠ b → (TX2 a).2.1 ≠ (TX2 b).2.1 := by decide +kernel
theorem tyX2_ok : ∀ k, k < 7 → parseFieldDescriptor (TX2 k).2.2.1 = some (tyX2 k) := by decide +kernel
abbrev cX2_init : ByteArray := prog_4_method_1_code
def yX2_init : MethodName := ⟨RX2, "<init>", "()V"⟩
abbrev cX2_lay : ByteArray := prog_4_method_2_code
def yX2_lay : MethodName := ⟨RX2, "lay", "(LPusherRoom$RoomText;)V"⟩
abbrev cX2_copy : ByteArray := prog_4_method_3_code
def yX2_copy : MethodName := ⟨RX2, "copy", "(LPusherRoom$Grid;)V"⟩
abbrev cX2_isLaid : ByteArray := prog_4_method_4_code
def yX2_isLaid : MethodName := ⟨RX2, "isLaid", "()Z"⟩
abbrev cX2_hasPlace : ByteArray := prog_4_method_5_code
def yX2_hasPlace : MethodName := ⟨RX2, "hasPlace", "(II)Z"⟩
abbrev cX2_moved : ByteArray := prog_4_method_6_code
def yX2_moved : MethodName := ⟨RX2, "moved", "(JI)J"⟩
abbrev cX2_beside : ByteArray := prog_4_method_7_code
def yX2_beside : MethodName := ⟨RX2, "beside", "(J)J"⟩
abbrev cX2_spread : ByteArray := prog_4_method_8_code
def yX2_spread : MethodName := ⟨RX2, "spread", "(JJ)J"⟩
abbrev cX2_groups : ByteArray := prog_4_method_9_code
def yX2_groups : MethodName := ⟨RX2, "groups", "(J)I"⟩
abbrev cX2_lonePushed : ByteArray := prog_4_method_10_code
def yX2_lonePushed : MethodName := ⟨RX2, "lonePushed", "(J)J"⟩
abbrev cX2_pulled : ByteArray := prog_4_method_11_code
def yX2_pulled : MethodName := ⟨RX2, "pulled", "(J)J"⟩
abbrev cX2_leastPushes : ByteArray := prog_4_method_12_code
def yX2_leastPushes : MethodName := ⟨RX2, "leastPushes", "(JJ)I"⟩
abbrev cX2_frozen : ByteArray := prog_4_method_13_code
def yX2_frozen : MethodName := ⟨RX2, "frozen", "(J)J"⟩
abbrev cX2_stuckReason : ByteArray := prog_4_method_14_code
def yX2_stuckReason : MethodName := ⟨RX2, "stuckReason", "(J)I"⟩
abbrev cX2_stuckDetail : ByteArray := prog_4_method_15_code
def yX2_stuckDetail : MethodName := ⟨RX2, "stuckDetail", "(JI)I"⟩
abbrev cX2_tunnelsInRow : ByteArray := prog_4_method_16_code
def yX2_tunnelsInRow : MethodName := ⟨RX2, "tunnelsInRow", "()J"⟩
abbrev cX2_tunnelsInColumn : ByteArray := prog_4_method_17_code
def yX2_tunnelsInColumn : MethodName := ⟨RX2, "tunnelsInColumn", "()J"⟩
abbrev cX2_tunnelsAlong : ByteArray := prog_4_method_18_code
def yX2_tunnelsAlong : MethodName := ⟨RX2, "tunnelsAlong", "(I)J"⟩
def RX3 : String := "PusherRoom$History"
def TX3 : u_T := fun k => match k with
  | 0 => ("PusherRoom$History", "boxes", "[J", true)
  | 1 => ("PusherRoom$History", "players", "[I", true)
  | 2 => ("PusherRoom$History", "steps", "[I", true)
  | _ => ("PusherRoom$History", "size", "I", false)
def tyX3 : Nat → FieldType := fun k => match k with
  | 0 => .array .long
  | 1 => .array .int
  | 2 => .array .int
  | _ => .int
abbrev wsX30 : List Cond := u_ws RX3 TX3 4
theorem nmX3 : ∀ a, a < 4 → ∀ b, b < 4 → a ≠ b → (TX3 a).2.1 ≠ (TX3 b).2.1 := by decide +kernel
theorem tyX3_ok : ∀ k, k < 4 → parseFieldDescriptor (TX3 k).2.2.1 = some (tyX3 k) := by decide +kernel
abbrev cX3_init : ByteArray := prog_5_method_1_code
def yX3_init : MethodName := ⟨RX3, "<init>", "()V"⟩
abbrev cX3_clear : ByteArray := prog_5_method_2_code
def yX3_clear : MethodName := ⟨RX3, "clear", "()V"⟩
abbrev cX3_begin : ByteArray := prog_5_method_3_code
def yX3_begin : MethodName := ⟨RX3, "begin", "(LPusherRoom$Game;)V"⟩
abbrev cX3_rollBack : ByteArray := prog_5_method_4_code
def yX3_rollBack : MethodName := ⟨RX3, "rollBack", "(LPusherRoom$Game;)V"⟩
abbrev cX3_commit : ByteArray := prog_5_method_5_code
def yX3_commit : MethodName := ⟨RX3, "commit", "()V"⟩
abbrev cX3_forgetOldest : ByteArray := prog_5_method_6_code
def yX3_forgetOldest : MethodName := ⟨RX3, "forgetOldest", "()V"⟩
abbrev cX3_goBack : ByteArray := prog_5_method_7_code
def yX3_goBack : MethodName := ⟨RX3, "goBack", "(LPusherRoom$Game;)V"⟩
def RX4 : String := "PusherRoom$Layers"
def TX4 : u_T := fun k => match k with
  | 0 => ("PusherRoom$Layers", "sets", "[J", true)
  | _ => ("PusherRoom$Layers", "size", "I", false)
def tyX4 : Nat → FieldType := fun k => match k with
  | 0 => .array .long
  | _ => .int
abbrev wsX40 : List Cond := u_ws RX4 TX4 2
theorem nmX4 : ∀ a, a < 2 → ∀ b, b < 2 → a ≠ b → (TX4 a).2.1 ≠ (TX4 b).2.1 := by decide +kernel
theorem tyX4_ok : ∀ k, k < 2 → parseFieldDescriptor (TX4 k).2.2.1 = some (tyX4 k) := by decide +kernel
abbrev cX4_init : ByteArray := prog_6_method_1_code
def yX4_init : MethodName := ⟨RX4, "<init>", "()V"⟩
abbrev cX4_lay : ByteArray := prog_6_method_2_code
def yX4_lay : MethodName := ⟨RX4, "lay", "(LPusherRoom$Grid;JJ)V"⟩
abbrev cX4_at : ByteArray := prog_6_method_3_code
def yX4_at : MethodName := ⟨RX4, "at", "(I)J"⟩
abbrev cX4_find : ByteArray := prog_6_method_4_code
def yX4_find : MethodName := ⟨RX4, "find", "(I)I"⟩
def RX5 : String := "PusherRoom$Matching"
def TX5 : u_T := fun k => match k with
  | 0 => ("PusherRoom$Matching", "grid", "LPusherRoom$Grid;", true)
  | 1 => ("PusherRoom$Matching", "distances", "[I", true)
  | _ => ("PusherRoom$Matching", "sums", "[I", true)
def tyX5 : Nat → FieldType := fun k => match k with
  | 0 => .object "PusherRoom$Grid"
  | 1 => .array .int
  | _ => .array .int
abbrev wsX50 : List Cond := u_ws RX5 TX5 3
theorem nmX5 : ∀ a, a < 3 → ∀ b, b < 3 → a ≠ b → (TX5 a).2.1 ≠ (TX5 b).2.1 := by decide +kernel
theorem tyX5_ok : ∀ k, k < 3 → parseFieldDescriptor (TX5 k).2.2.1 = some (tyX5 k) := by decide +kernel
abbrev cX5_init : ByteArray := prog_7_method_1_code
def yX5_init : MethodName := ⟨RX5, "<init>", "(LPusherRoom$Grid;)V"⟩
abbrev cX5_leastSum : ByteArray := prog_7_method_2_code
def yX5_leastSum : MethodName := ⟨RX5, "leastSum", "(J)I"⟩
abbrev cX5_measure : ByteArray := prog_7_method_3_code
def yX5_measure : MethodName := ⟨RX5, "measure", "(J)I"⟩
abbrev cX5_measureFrom : ByteArray := prog_7_method_4_code
def yX5_measureFrom : MethodName := ⟨RX5, "measureFrom", "(II)V"⟩
abbrev cX5_offer : ByteArray := prog_7_method_5_code
def yX5_offer : MethodName := ⟨RX5, "offer", "(II)V"⟩
abbrev cX5_offerTo : ByteArray := prog_7_method_6_code
def yX5_offerTo : MethodName := ⟨RX5, "offerTo", "(III)V"⟩
def RX6 : String := "PusherRoom$Position"
def TX6 : u_T := fun k => match k with
  | 0 => ("PusherRoom$Position", "grid", "LPusherRoom$Grid;", true)
  | 1 => ("PusherRoom$Position", "boxes", "J", false)
  | _ => ("PusherRoom$Position", "player", "I", false)
def tyX6 : Nat → FieldType := fun k => match k with
  | 0 => .object "PusherRoom$Grid"
  | 1 => .long
  | _ => .int
abbrev wsX60 : List Cond := u_ws RX6 TX6 3
theorem nmX6 : ∀ a, a < 3 → ∀ b, b < 3 → a ≠ b → (TX6 a).2.1 ≠ (TX6 b).2.1 := by decide +kernel
theorem tyX6_ok : ∀ k, k < 3 → parseFieldDescriptor (TX6 k).2.2.1 = some (tyX6 k) := by decide +kernel
abbrev cX6_init : ByteArray := prog_8_method_1_code
def yX6_init : MethodName := ⟨RX6, "<init>", "(LPusherRoom$Grid;)V"⟩
abbrev cX6_put : ByteArray := prog_8_method_2_code
def yX6_put : MethodName := ⟨RX6, "put", "(JI)V"⟩
abbrev cX6_isLike : ByteArray := prog_8_method_3_code
def yX6_isLike : MethodName := ⟨RX6, "isLike", "(LPusherRoom$Position;)Z"⟩
abbrev cX6_isSolved : ByteArray := prog_8_method_4_code
def yX6_isSolved : MethodName := ⟨RX6, "isSolved", "()Z"⟩
abbrev cX6_free : ByteArray := prog_8_method_5_code
def yX6_free : MethodName := ⟨RX6, "free", "()J"⟩
abbrev cX6_area : ByteArray := prog_8_method_6_code
def yX6_area : MethodName := ⟨RX6, "area", "()J"⟩
abbrev cX6_ahead : ByteArray := prog_8_method_7_code
def yX6_ahead : MethodName := ⟨RX6, "ahead", "(I)J"⟩
abbrev cX6_stepReason : ByteArray := prog_8_method_8_code
def yX6_stepReason : MethodName := ⟨RX6, "stepReason", "(I)I"⟩
abbrev cX6_boxReason : ByteArray := prog_8_method_9_code
def yX6_boxReason : MethodName := ⟨RX6, "boxReason", "(JI)I"⟩
abbrev cX6_stepDetail : ByteArray := prog_8_method_10_code
def yX6_stepDetail : MethodName := ⟨RX6, "stepDetail", "(II)I"⟩
abbrev cX6_letterReason : ByteArray := prog_8_method_11_code
def yX6_letterReason : MethodName := ⟨RX6, "letterReason", "(IZ)I"⟩
abbrev cX6_pushReason : ByteArray := prog_8_method_12_code
def yX6_pushReason : MethodName := ⟨RX6, "pushReason", "(II)I"⟩
abbrev cX6_pushDetail : ByteArray := prog_8_method_13_code
def yX6_pushDetail : MethodName := ⟨RX6, "pushDetail", "(III)I"⟩
abbrev cX6_behind : ByteArray := prog_8_method_14_code
def yX6_behind : MethodName := ⟨RX6, "behind", "(II)J"⟩
abbrev cX6_move : ByteArray := prog_8_method_15_code
def yX6_move : MethodName := ⟨RX6, "move", "(I)Z"⟩
def RX7 : String := "PusherRoom$RoomText"
def TX7 : u_T := fun k => match k with
  | 0 => ("PusherRoom$RoomText", "rows", "I", false)
  | 1 => ("PusherRoom$RoomText", "columns", "I", false)
  | 2 => ("PusherRoom$RoomText", "open", "J", false)
  | 3 => ("PusherRoom$RoomText", "goals", "J", false)
  | 4 => ("PusherRoom$RoomText", "boxes", "J", false)
  | 5 => ("PusherRoom$RoomText", "player", "I", false)
  | 6 => ("PusherRoom$RoomText", "width", "I", false)
  | 7 => ("PusherRoom$RoomText", "cellsRead", "I", false)
  | 8 => ("PusherRoom$RoomText", "goalCount", "I", false)
  | _ => ("PusherRoom$RoomText", "boxCount", "I", false)
def tyX7 : Nat → FieldType := fun k => match k with
  | 0 => .int
  | 1 => .int
  | 2 => .long
  | 3 => .long
  | 4 => .long
  | 5 => .int
  | 6 => .int
  | 7 => .int
  | 8 => .int
  | _ => .int
abbrev wsX70 : List Cond := u_ws RX7 TX7 10
theorem nmX7 : ∀ a, a < 10 → ∀ b, b < 10 → a ≠ b → (TX7 a).2.1 ≠ (TX7 b).2.1 := by decide +kernel
theorem tyX7_ok : ∀ k, k < 10 → parseFieldDescriptor (TX7 k).2.2.1 = some (tyX7 k) := by decide +kernel
abbrev cX7_init : ByteArray := prog_9_method_1_code
def yX7_init : MethodName := ⟨RX7, "<init>", "()V"⟩
abbrev cX7_clear : ByteArray := prog_9_method_2_code
def yX7_clear : MethodName := ⟨RX7, "clear", "()V"⟩
abbrev cX7_read : ByteArray := prog_9_method_3_code
def yX7_read : MethodName := ⟨RX7, "read", "(LPusherRoom$TextInput;I)I"⟩
abbrev cX7_endRow : ByteArray := prog_9_method_4_code
def yX7_endRow : MethodName := ⟨RX7, "endRow", "()Z"⟩
abbrev cX7_addCell : ByteArray := prog_9_method_5_code
def yX7_addCell : MethodName := ⟨RX7, "addCell", "(C)Z"⟩
abbrev cX7_isRoom : ByteArray := prog_9_method_6_code
def yX7_isRoom : MethodName := ⟨RX7, "isRoom", "()Z"⟩
abbrev cX7_isSide : ByteArray := prog_9_method_7_code
def yX7_isSide : MethodName := ⟨RX7, "isSide", "(I)Z"⟩
def RX8 : String := "PusherRoom$Search"
def TX8 : u_T := fun k => match k with
  | 0 => ("PusherRoom$Search", "grid", "LPusherRoom$Grid;", true)
  | 1 => ("PusherRoom$Search", "boxes", "[J", true)
  | 2 => ("PusherRoom$Search", "players", "[I", true)
  | 3 => ("PusherRoom$Search", "parents", "[I", true)
  | 4 => ("PusherRoom$Search", "pushes", "[I", true)
  | 5 => ("PusherRoom$Search", "slots", "[I", true)
  | 6 => ("PusherRoom$Search", "limit", "I", false)
  | 7 => ("PusherRoom$Search", "withTables", "Z", false)
  | 8 => ("PusherRoom$Search", "found", "I", false)
  | 9 => ("PusherRoom$Search", "solved", "I", false)
  | _ => ("PusherRoom$Search", "hasGivenUp", "Z", false)
def tyX8 : Nat → FieldType := fun k => match k with
  | 0 => .object "PusherRoom$Grid"
  | 1 => .array .long
  | 2 => .array .int
  | 3 => .array .int
  | 4 => .array .int
  | 5 => .array .int
  | 6 => .int
  | 7 => .boolean
  | 8 => .int
  | 9 => .int
  | _ => .boolean
abbrev wsX80 : List Cond := u_ws RX8 TX8 11
theorem nmX8 : ∀ a, a < 11 → ∀ b, b < 11 → a ≠ b → (TX8 a).2.1 ≠ (TX8 b).2.1 := by decide +kernel
theorem tyX8_ok : ∀ k, k < 11 → parseFieldDescriptor (TX8 k).2.2.1 = some (tyX8 k) := by decide +kernel
abbrev cX8_init : ByteArray := prog_10_method_1_code
def yX8_init : MethodName := ⟨RX8, "<init>", "(LPusherRoom$Grid;)V"⟩
abbrev cX8_run : ByteArray := prog_10_method_2_code
def yX8_run : MethodName := ⟨RX8, "run", "(LPusherRoom$Position;IZ)V"⟩
abbrev cX8_visit : ByteArray := prog_10_method_3_code
def yX8_visit : MethodName := ⟨RX8, "visit", "(I)V"⟩
abbrev cX8_lookAt : ByteArray := prog_10_method_4_code
def yX8_lookAt : MethodName := ⟨RX8, "lookAt", "(IJII)V"⟩
abbrev cX8_add : ByteArray := prog_10_method_5_code
def yX8_add : MethodName := ⟨RX8, "add", "(JIII)V"⟩
abbrev cX8_slotFor : ByteArray := prog_10_method_6_code
def yX8_slotFor : MethodName := ⟨RX8, "slotFor", "(JI)I"⟩
abbrev cX8_parentOf : ByteArray := prog_10_method_7_code
def yX8_parentOf : MethodName := ⟨RX8, "parentOf", "(I)I"⟩
abbrev cX8_pushTo : ByteArray := prog_10_method_8_code
def yX8_pushTo : MethodName := ⟨RX8, "pushTo", "(I)I"⟩
def RX9 : String := "PusherRoom$Solution"
def TX9 : u_T := fun k => match k with
  | 0 => ("PusherRoom$Solution", "parts", "[I", true)
  | 1 => ("PusherRoom$Solution", "pushes", "I", false)
  | _ => ("PusherRoom$Solution", "positions", "I", false)
def tyX9 : Nat → FieldType := fun k => match k with
  | 0 => .array .int
  | 1 => .int
  | _ => .int
abbrev wsX90 : List Cond := u_ws RX9 TX9 3
theorem nmX9 : ∀ a, a < 3 → ∀ b, b < 3 → a ≠ b → (TX9 a).2.1 ≠ (TX9 b).2.1 := by decide +kernel
theorem tyX9_ok : ∀ k, k < 3 → parseFieldDescriptor (TX9 k).2.2.1 = some (tyX9 k) := by decide +kernel
abbrev cX9_init : ByteArray := prog_11_method_1_code
def yX9_init : MethodName := ⟨RX9, "<init>", "()V"⟩
abbrev cX9_keep : ByteArray := prog_11_method_2_code
def yX9_keep : MethodName := ⟨RX9, "keep", "(LPusherRoom$Search;)V"⟩
abbrev cX9_depthOf : ByteArray := prog_11_method_3_code
def yX9_depthOf : MethodName := ⟨RX9, "depthOf", "(LPusherRoom$Search;)I"⟩
abbrev cX9_cellAt : ByteArray := prog_11_method_4_code
def yX9_cellAt : MethodName := ⟨RX9, "cellAt", "(I)I"⟩
abbrev cX9_directionAt : ByteArray := prog_11_method_5_code
def yX9_directionAt : MethodName := ⟨RX9, "directionAt", "(I)I"⟩
def RX10 : String := "PusherRoom$TextInput"
def TX10 : u_T := fun k => match k with
  | 0 => ("PusherRoom$TextInput", "signs", "[C", true)
  | _ => ("PusherRoom$TextInput", "length", "I", false)
def tyX10 : Nat → FieldType := fun k => match k with
  | 0 => .array .char
  | _ => .int
abbrev wsX100 : List Cond := u_ws RX10 TX10 2
theorem nmX10 : ∀ a, a < 2 → ∀ b, b < 2 → a ≠ b → (TX10 a).2.1 ≠ (TX10 b).2.1 := by decide +kernel
theorem tyX10_ok : ∀ k, k < 2 → parseFieldDescriptor (TX10 k).2.2.1 = some (tyX10 k) := by decide +kernel
abbrev cX10_init : ByteArray := prog_12_method_1_code
def yX10_init : MethodName := ⟨RX10, "<init>", "()V"⟩
abbrev cX10_add : ByteArray := prog_12_method_2_code
def yX10_add : MethodName := ⟨RX10, "add", "(C)V"⟩
abbrev cX10_take : ByteArray := prog_12_method_3_code
def yX10_take : MethodName := ⟨RX10, "take", "()I"⟩
abbrev cX10_at : ByteArray := prog_12_method_4_code
def yX10_at : MethodName := ⟨RX10, "at", "(I)C"⟩
abbrev cX10_faultAsSteps : ByteArray := prog_12_method_5_code
def yX10_faultAsSteps : MethodName := ⟨RX10, "faultAsSteps", "(I)I"⟩
abbrev cX10_isDigit : ByteArray := prog_12_method_6_code
def yX10_isDigit : MethodName := ⟨RX10, "isDigit", "(CI)Z"⟩
def RX11 : String := "PusherRoom"
def TX11 : u_T := fun k => match k with
  | 0 => ("PusherRoom", "input", "LPusherRoom$TextInput;", true)
  | 1 => ("PusherRoom", "roomText", "LPusherRoom$RoomText;", true)
  | 2 => ("PusherRoom", "game", "LPusherRoom$Game;", true)
  | 3 => ("PusherRoom", "saved", "LPusherRoom$Game;", true)
  | 4 => ("PusherRoom", "history", "LPusherRoom$History;", true)
  | 5 => ("PusherRoom", "goalRooms", "LPusherRoom$GoalRooms;", true)
  | 6 => ("PusherRoom", "matching", "LPusherRoom$Matching;", true)
  | 7 => ("PusherRoom", "search", "LPusherRoom$Search;", true)
  | 8 => ("PusherRoom", "solution", "LPusherRoom$Solution;", true)
  | 9 => ("PusherRoom", "keptReason", "I", false)
  | 10 => ("PusherRoom", "keptDetail", "I", false)
  | _ => ("PusherRoom", "refusedStep", "I", false)
def tyX11 : Nat → FieldType := fun k => match k with
  | 0 => .object "PusherRoom$TextInput"
  | 1 => .object "PusherRoom$RoomText"
  | 2 => .object "PusherRoom$Game"
  | 3 => .object "PusherRoom$Game"
  | 4 => .object "PusherRoom$History"
  | 5 => .object "PusherRoom$GoalRooms"
  | 6 => .object "PusherRoom$Matching"
  | 7 => .object "PusherRoom$Search"
  | 8 => .object "PusherRoom$Solution"
  | 9 => .int
  | 10 => .int
  | _ => .int
abbrev wsX110 : List Cond := u_ws RX11 TX11 12
theorem nmX11 : ∀ a, a < 12 → ∀ b, b < 12 → a ≠ b → (TX11 a).2.1 ≠ (TX11 b).2.1 := by decide +kernel
theorem tyX11_ok : ∀ k, k < 12 → parseFieldDescriptor (TX11 k).2.2.1 = some (tyX11 k) := by decide +kernel
abbrev cX11_init : ByteArray := prog_1_method_1_code
def yX11_init : MethodName := ⟨RX11, "<init>", "()V"⟩
abbrev cX11_feed : ByteArray := prog_1_method_2_code
def yX11_feed : MethodName := ⟨RX11, "feed", "(C)I"⟩
abbrev cX11_readRoom : ByteArray := prog_1_method_3_code
def yX11_readRoom : MethodName := ⟨RX11, "readRoom", "()I"⟩
abbrev cX11_cell : ByteArray := prog_1_method_4_code
def yX11_cell : MethodName := ⟨RX11, "cell", "(II)C"⟩
abbrev cX11_cells : ByteArray := prog_1_method_5_code
def yX11_cells : MethodName := ⟨RX11, "cells", "(I)J"⟩
abbrev cX11_count : ByteArray := prog_1_method_6_code
def yX11_count : MethodName := ⟨RX11, "count", "(I)I"⟩
abbrev cX11_distance : ByteArray := prog_1_method_7_code
def yX11_distance : MethodName := ⟨RX11, "distance", "(II)I"⟩
abbrev cX11_bound : ByteArray := prog_1_method_8_code
def yX11_bound : MethodName := ⟨RX11, "bound", "()I"⟩
abbrev cX11_stuck : ByteArray := prog_1_method_9_code
def yX11_stuck : MethodName := ⟨RX11, "stuck", "(Z)I"⟩
abbrev cX11_goalRoom : ByteArray := prog_1_method_10_code
def yX11_goalRoom : MethodName := ⟨RX11, "goalRoom", "(II)I"⟩
abbrev cX11_step : ByteArray := prog_1_method_11_code
def yX11_step : MethodName := ⟨RX11, "step", "(I)I"⟩
abbrev cX11_push : ByteArray := prog_1_method_12_code
def yX11_push : MethodName := ⟨RX11, "push", "(II)I"⟩
abbrev cX11_longPush : ByteArray := prog_1_method_13_code
def yX11_longPush : MethodName := ⟨RX11, "longPush", "(II)I"⟩
abbrev cX11_play : ByteArray := prog_1_method_14_code
def yX11_play : MethodName := ⟨RX11, "play", "()I"⟩
abbrev cX11_refused : ByteArray := prog_1_method_15_code
def yX11_refused : MethodName := ⟨RX11, "refused", "()I"⟩
abbrev cX11_refusal : ByteArray := prog_1_method_16_code
def yX11_refusal : MethodName := ⟨RX11, "refusal", "(Z)I"⟩
abbrev cX11_refuses : ByteArray := prog_1_method_17_code
def yX11_refuses : MethodName := ⟨RX11, "refuses", "(II)I"⟩
abbrev cX11_solve : ByteArray := prog_1_method_18_code
def yX11_solve : MethodName := ⟨RX11, "solve", "(IZ)I"⟩
abbrev cX11_solution : ByteArray := prog_1_method_19_code
def yX11_solution : MethodName := ⟨RX11, "solution", "(IZ)I"⟩
abbrev cX11_finish : ByteArray := prog_1_method_20_code
def yX11_finish : MethodName := ⟨RX11, "finish", "(I)I"⟩
abbrev cX11_recorded : ByteArray := prog_1_method_21_code
def yX11_recorded : MethodName := ⟨RX11, "recorded", "(I)C"⟩
abbrev cX11_isReplayed : ByteArray := prog_1_method_22_code
def yX11_isReplayed : MethodName := ⟨RX11, "isReplayed", "()Z"⟩
abbrev cX11_undo : ByteArray := prog_1_method_23_code
def yX11_undo : MethodName := ⟨RX11, "undo", "()I"⟩
abbrev cX11_saveSnapshot : ByteArray := prog_1_method_24_code
def yX11_saveSnapshot : MethodName := ⟨RX11, "saveSnapshot", "()I"⟩
abbrev cX11_restoreSnapshot : ByteArray := prog_1_method_25_code
def yX11_restoreSnapshot : MethodName := ⟨RX11, "restoreSnapshot", "()I"⟩
abbrev cX11_requireRoom : ByteArray := prog_1_method_26_code
def yX11_requireRoom : MethodName := ⟨RX11, "requireRoom", "()V"⟩
abbrev cX11_requireDirection : ByteArray := prog_1_method_27_code
def yX11_requireDirection : MethodName := ⟨RX11, "requireDirection", "(I)V"⟩
abbrev cX11_requireBox : ByteArray := prog_1_method_28_code
def yX11_requireBox : MethodName := ⟨RX11, "requireBox", "(II)V"⟩
abbrev cX11_requirePush : ByteArray := prog_1_method_29_code
def yX11_requirePush : MethodName := ⟨RX11, "requirePush", "(II)V"⟩
abbrev cX11_keepRefusal : ByteArray := prog_1_method_30_code
def yX11_keepRefusal : MethodName := ⟨RX11, "keepRefusal", "(II)V"⟩
abbrev cX11_commitOrThrow : ByteArray := prog_1_method_31_code
def yX11_commitOrThrow : MethodName := ⟨RX11, "commitOrThrow", "()V"⟩
abbrev cX11_searchAndKeep : ByteArray := prog_1_method_32_code
def yX11_searchAndKeep : MethodName := ⟨RX11, "searchAndKeep", "(IZ)V"⟩
abbrev cX11_playElements : ByteArray := prog_1_method_33_code
def yX11_playElements : MethodName := ⟨RX11, "playElements", "(I)Z"⟩
abbrev cX11_playElement : ByteArray := prog_1_method_34_code
def yX11_playElement : MethodName := ⟨RX11, "playElement", "(II)Z"⟩
abbrev cX11_bit : ByteArray := prog_1_method_35_code
def yX11_bit : MethodName := ⟨RX11, "bit", "(I)J"⟩
abbrev cX11_has : ByteArray := prog_1_method_36_code
def yX11_has : MethodName := ⟨RX11, "has", "(JI)Z"⟩
abbrev cX11_lowest : ByteArray := prog_1_method_37_code
def yX11_lowest : MethodName := ⟨RX11, "lowest", "(J)I"⟩
abbrev cX11_opposite : ByteArray := prog_1_method_38_code
def yX11_opposite : MethodName := ⟨RX11, "opposite", "(I)I"⟩
abbrev cX11_codeOf : ByteArray := prog_1_method_39_code
def yX11_codeOf : MethodName := ⟨RX11, "codeOf", "(IZ)I"⟩
abbrev cX11_directionOf : ByteArray := prog_1_method_40_code
def yX11_directionOf : MethodName := ⟨RX11, "directionOf", "(I)I"⟩
abbrev cX11_isPushCode : ByteArray := prog_1_method_41_code
def yX11_isPushCode : MethodName := ⟨RX11, "isPushCode", "(I)Z"⟩
abbrev cX11_letterOf : ByteArray := prog_1_method_42_code
def yX11_letterOf : MethodName := ⟨RX11, "letterOf", "(I)C"⟩
abbrev cX11_intAt : ByteArray := prog_1_method_43_code
def yX11_intAt : MethodName := ⟨RX11, "intAt", "([II)I"⟩
abbrev cX11_setInt : ByteArray := prog_1_method_44_code
def yX11_setInt : MethodName := ⟨RX11, "setInt", "([III)V"⟩
abbrev cX11_longAt : ByteArray := prog_1_method_45_code
def yX11_longAt : MethodName := ⟨RX11, "longAt", "([JI)J"⟩
abbrev cX11_setLong : ByteArray := prog_1_method_46_code
def yX11_setLong : MethodName := ⟨RX11, "setLong", "([JIJ)V"⟩
def RX12 : String := "PusherRoomModel"
def TX12 : u_T := fun k => match k with
  | 0 => ("PusherRoomModel", "g", "[I", true)
  | 1 => ("PusherRoomModel", "kept", "[I", true)
  | 2 => ("PusherRoomModel", "spare", "[I", true)
  | 3 => ("PusherRoomModel", "hasKept", "Z", false)
  | 4 => ("PusherRoomModel", "past", "[I", true)
  | 5 => ("PusherRoomModel", "pasts", "I", false)
  | 6 => ("PusherRoomModel", "reason", "I", false)
  | 7 => ("PusherRoomModel", "detail", "I", false)
  | 8 => ("PusherRoomModel", "refusedStep", "I", false)
  | 9 => ("PusherRoomModel", "thrown", "I", false)
  | 10 => ("PusherRoomModel", "text", "[I", true)
  | 11 => ("PusherRoomModel", "length", "I", false)
  | 12 => ("PusherRoomModel", "spot", "I", false)
  | 13 => ("PusherRoomModel", "wide", "I", false)
  | 14 => ("PusherRoomModel", "many", "I", false)
  | 15 => ("PusherRoomModel", "queue", "[I", true)
  | 16 => ("PusherRoomModel", "queued", "I", false)
  | 17 => ("PusherRoomModel", "steps", "[I", true)
  | 18 => ("PusherRoomModel", "pushes", "[I", true)
  | 19 => ("PusherRoomModel", "isDead", "[Z", true)
  | 20 => ("PusherRoomModel", "isFrozen", "[Z", true)
  | 21 => ("PusherRoomModel", "stuckAt", "I", false)
  | 22 => ("PusherRoomModel", "met", "[Z", true)
  | 23 => ("PusherRoomModel", "sums", "[I", true)
  | 24 => ("PusherRoomModel", "entrance", "I", false)
  | 25 => ("PusherRoomModel", "members", "[I", true)
  | 26 => ("PusherRoomModel", "detailHere", "I", false)
  | 27 => ("PusherRoomModel", "boxes", "[J", true)
  | 28 => ("PusherRoomModel", "lowest", "[I", true)
  | 29 => ("PusherRoomModel", "cameFrom", "[I", true)
  | 30 => ("PusherRoomModel", "byPush", "[I", true)
  | 31 => ("PusherRoomModel", "found", "I", false)
  | 32 => ("PusherRoomModel", "solution", "[I", true)
  | 33 => ("PusherRoomModel", "solutionPushes", "I", false)
  | 34 => ("PusherRoomModel", "solutionFound", "I", false)
  | _ => ("PusherRoomModel", "gaveUp", "I", false)
def tyX12 : Nat → FieldType := fun k => match k with
  | 0 => .array .int
  | 1 => .array .int
  | 2 => .array .int
  | 3 => .boolean
  | 4 => .array .int
  | 5 => .int
  | 6 => .int
  | 7 => .int
  | 8 => .int
  | 9 => .int
  | 10 => .array .int
  | 11 => .int
  | 12 => .int
  | 13 => .int
  | 14 => .int
  | 15 => .array .int
  | 16 => .int
  | 17 => .array .int
  | 18 => .array .int
  | 19 => .array .boolean
  | 20 => .array .boolean
  | 21 => .int
  | 22 => .array .boolean
  | 23 => .array .int
  | 24 => .int
  | 25 => .array .int
  | 26 => .int
  | 27 => .array .long
  | 28 => .array .int
  | 29 => .array .int
  | 30 => .array .int
  | 31 => .int
  | 32 => .array .int
  | 33 => .int
  | 34 => .int
  | _ => .int
abbrev wsX120 : List Cond := u_ws RX12 TX12 36
theorem nmX12 : ∀ a, a < 36 → ∀ b, b < 36 → a ≠ b → (TX12 a).2.1 ≠ (TX12 b).2.1 := by decide +kernel
theorem tyX12_ok : ∀ k, k < 36 → parseFieldDescriptor (TX12 k).2.2.1 = some (tyX12 k) := by decide +kernel
abbrev cX12_init : ByteArray := prog_14_method_1_code
def yX12_init : MethodName := ⟨RX12, "<init>", "()V"⟩
abbrev cX12_thrown : ByteArray := prog_14_method_2_code
def yX12_thrown : MethodName := ⟨RX12, "thrown", "()I"⟩
abbrev cX12_fails : ByteArray := prog_14_method_3_code
def yX12_fails : MethodName := ⟨RX12, "fails", "(I)I"⟩
abbrev cX12_in : ByteArray := prog_14_method_4_code
def yX12_in : MethodName := ⟨RX12, "in", "(III)Z"⟩
abbrev cX12_hasRoom : ByteArray := prog_14_method_5_code
def yX12_hasRoom : MethodName := ⟨RX12, "hasRoom", "()Z"⟩
abbrev cX12_size : ByteArray := prog_14_method_6_code
def yX12_size : MethodName := ⟨RX12, "size", "()I"⟩
abbrev cX12_isOpen : ByteArray := prog_14_method_7_code
def yX12_isOpen : MethodName := ⟨RX12, "isOpen", "(I)Z"⟩
abbrev cX12_isGoal : ByteArray := prog_14_method_8_code
def yX12_isGoal : MethodName := ⟨RX12, "isGoal", "(I)Z"⟩
abbrev cX12_isBox : ByteArray := prog_14_method_9_code
def yX12_isBox : MethodName := ⟨RX12, "isBox", "(I)Z"⟩
abbrev cX12_beside : ByteArray := prog_14_method_10_code
def yX12_beside : MethodName := ⟨RX12, "beside", "(II)I"⟩
abbrev cX12_opposite : ByteArray := prog_14_method_11_code
def yX12_opposite : MethodName := ⟨RX12, "opposite", "(I)I"⟩
abbrev cX12_remembers : ByteArray := prog_14_method_12_code
def yX12_remembers : MethodName := ⟨RX12, "remembers", "()V"⟩
abbrev cX12_goesBack : ByteArray := prog_14_method_13_code
def yX12_goesBack : MethodName := ⟨RX12, "goesBack", "()V"⟩
abbrev cX12_commands : ByteArray := prog_14_method_14_code
def yX12_commands : MethodName := ⟨RX12, "commands", "()V"⟩
abbrev cX12_undo : ByteArray := prog_14_method_15_code
def yX12_undo : MethodName := ⟨RX12, "undo", "()I"⟩
abbrev cX12_saveSnapshot : ByteArray := prog_14_method_16_code
def yX12_saveSnapshot : MethodName := ⟨RX12, "saveSnapshot", "()I"⟩
abbrev cX12_restoreSnapshot : ByteArray := prog_14_method_17_code
def yX12_restoreSnapshot : MethodName := ⟨RX12, "restoreSnapshot", "()I"⟩
abbrev cX12_feed : ByteArray := prog_14_method_18_code
def yX12_feed : MethodName := ⟨RX12, "feed", "(C)I"⟩
abbrev cX12_isCell : ByteArray := prog_14_method_19_code
def yX12_isCell : MethodName := ⟨RX12, "isCell", "(I)Z"⟩
abbrev cX12_isBoxText : ByteArray := prog_14_method_20_code
def yX12_isBoxText : MethodName := ⟨RX12, "isBoxText", "(I)Z"⟩
abbrev cX12_isPlayerText : ByteArray := prog_14_method_21_code
def yX12_isPlayerText : MethodName := ⟨RX12, "isPlayerText", "(I)Z"⟩
abbrev cX12_roomFault : ByteArray := prog_14_method_22_code
def yX12_roomFault : MethodName := ⟨RX12, "roomFault", "()I"⟩
abbrev cX12_readRoom : ByteArray := prog_14_method_23_code
def yX12_readRoom : MethodName := ⟨RX12, "readRoom", "()I"⟩
abbrev cX12_lays : ByteArray := prog_14_method_24_code
def yX12_lays : MethodName := ⟨RX12, "lays", "(I)I"⟩
abbrev cX12_cell : ByteArray := prog_14_method_25_code
def yX12_cell : MethodName := ⟨RX12, "cell", "(II)C"⟩
abbrev cX12_walksFrom : ByteArray := prog_14_method_26_code
def yX12_walksFrom : MethodName := ⟨RX12, "walksFrom", "(I)V"⟩
abbrev cX12_pushesTo : ByteArray := prog_14_method_27_code
def yX12_pushesTo : MethodName := ⟨RX12, "pushesTo", "(I)V"⟩
abbrev cX12_dies : ByteArray := prog_14_method_28_code
def yX12_dies : MethodName := ⟨RX12, "dies", "()V"⟩
abbrev cX12_isBlocked : ByteArray := prog_14_method_29_code
def yX12_isBlocked : MethodName := ⟨RX12, "isBlocked", "(II)Z"⟩
abbrev cX12_freezes : ByteArray := prog_14_method_30_code
def yX12_freezes : MethodName := ⟨RX12, "freezes", "()V"⟩
abbrev cX12_stuckFor : ByteArray := prog_14_method_31_code
def yX12_stuckFor : MethodName := ⟨RX12, "stuckFor", "()I"⟩
abbrev cX12_isTunnel : ByteArray := prog_14_method_32_code
def yX12_isTunnel : MethodName := ⟨RX12, "isTunnel", "(II)Z"⟩
abbrev cX12_isIn : ByteArray := prog_14_method_33_code
def yX12_isIn : MethodName := ⟨RX12, "isIn", "(II)Z"⟩
abbrev cX12_cells : ByteArray := prog_14_method_34_code
def yX12_cells : MethodName := ⟨RX12, "cells", "(I)J"⟩
abbrev cX12_isSolved : ByteArray := prog_14_method_35_code
def yX12_isSolved : MethodName := ⟨RX12, "isSolved", "()Z"⟩
abbrev cX12_counted : ByteArray := prog_14_method_36_code
def yX12_counted : MethodName := ⟨RX12, "counted", "(Z)I"⟩
abbrev cX12_recordedPushes : ByteArray := prog_14_method_37_code
def yX12_recordedPushes : MethodName := ⟨RX12, "recordedPushes", "()I"⟩
abbrev cX12_groups : ByteArray := prog_14_method_38_code
def yX12_groups : MethodName := ⟨RX12, "groups", "()I"⟩
abbrev cX12_count : ByteArray := prog_14_method_39_code
def yX12_count : MethodName := ⟨RX12, "count", "(I)I"⟩
abbrev cX12_distance : ByteArray := prog_14_method_40_code
def yX12_distance : MethodName := ⟨RX12, "distance", "(II)I"⟩
abbrev cX12_bound : ByteArray := prog_14_method_41_code
def yX12_bound : MethodName := ⟨RX12, "bound", "()I"⟩
abbrev cX12_oneMore : ByteArray := prog_14_method_42_code
def yX12_oneMore : MethodName := ⟨RX12, "oneMore", "(I)V"⟩
abbrev cX12_stuck : ByteArray := prog_14_method_43_code
def yX12_stuck : MethodName := ⟨RX12, "stuck", "(Z)I"⟩
abbrev cX12_gathers : ByteArray := prog_14_method_44_code
def yX12_gathers : MethodName := ⟨RX12, "gathers", "(I)Z"⟩
abbrev cX12_goalRooms : ByteArray := prog_14_method_45_code
def yX12_goalRooms : MethodName := ⟨RX12, "goalRooms", "(I)I"⟩
abbrev cX12_ordered : ByteArray := prog_14_method_46_code
def yX12_ordered : MethodName := ⟨RX12, "ordered", "(I)I"⟩
abbrev cX12_plainSteps : ByteArray := prog_14_method_47_code
def yX12_plainSteps : MethodName := ⟨RX12, "plainSteps", "(I)V"⟩
abbrev cX12_goalRoom : ByteArray := prog_14_method_48_code
def yX12_goalRoom : MethodName := ⟨RX12, "goalRoom", "(II)I"⟩
abbrev cX12_reasonForStep : ByteArray := prog_14_method_49_code
def yX12_reasonForStep : MethodName := ⟨RX12, "reasonForStep", "(I)I"⟩
abbrev cX12_reasonForBox : ByteArray := prog_14_method_50_code
def yX12_reasonForBox : MethodName := ⟨RX12, "reasonForBox", "(II)I"⟩
abbrev cX12_goes : ByteArray := prog_14_method_51_code
def yX12_goes : MethodName := ⟨RX12, "goes", "(I)I"⟩
abbrev cX12_keeps : ByteArray := prog_14_method_52_code
def yX12_keeps : MethodName := ⟨RX12, "keeps", "(II)I"⟩
abbrev cX12_step : ByteArray := prog_14_method_53_code
def yX12_step : MethodName := ⟨RX12, "step", "(I)I"⟩
abbrev cX12_reasonForPush : ByteArray := prog_14_method_54_code
def yX12_reasonForPush : MethodName := ⟨RX12, "reasonForPush", "(II)I"⟩
abbrev cX12_pushStops : ByteArray := prog_14_method_55_code
def yX12_pushStops : MethodName := ⟨RX12, "pushStops", "(II)I"⟩
abbrev cX12_walksAndPushes : ByteArray := prog_14_method_56_code
def yX12_walksAndPushes : MethodName := ⟨RX12, "walksAndPushes", "(II)V"⟩
abbrev cX12_isNearer : ByteArray := prog_14_method_57_code
def yX12_isNearer : MethodName := ⟨RX12, "isNearer", "(I)Z"⟩
abbrev cX12_pushing : ByteArray := prog_14_method_58_code
def yX12_pushing : MethodName := ⟨RX12, "pushing", "(IIZ)I"⟩
abbrev cX12_push : ByteArray := prog_14_method_59_code
def yX12_push : MethodName := ⟨RX12, "push", "(II)I"⟩
abbrev cX12_longPush : ByteArray := prog_14_method_60_code
def yX12_longPush : MethodName := ⟨RX12, "longPush", "(II)I"⟩
abbrev cX12_refuses : ByteArray := prog_14_method_61_code
def yX12_refuses : MethodName := ⟨RX12, "refuses", "(II)I"⟩
abbrev cX12_directionOf : ByteArray := prog_14_method_62_code
def yX12_directionOf : MethodName := ⟨RX12, "directionOf", "(I)I"⟩
abbrev cX12_stepsFault : ByteArray := prog_14_method_63_code
def yX12_stepsFault : MethodName := ⟨RX12, "stepsFault", "()I"⟩
abbrev cX12_reasonForLetter : ByteArray := prog_14_method_64_code
def yX12_reasonForLetter : MethodName := ⟨RX12, "reasonForLetter", "(I)I"⟩
abbrev cX12_play : ByteArray := prog_14_method_65_code
def yX12_play : MethodName := ⟨RX12, "play", "()I"⟩
abbrev cX12_refused : ByteArray := prog_14_method_66_code
def yX12_refused : MethodName := ⟨RX12, "refused", "()I"⟩
abbrev cX12_refusal : ByteArray := prog_14_method_67_code
def yX12_refusal : MethodName := ⟨RX12, "refusal", "(Z)I"⟩
abbrev cX12_boxSet : ByteArray := prog_14_method_68_code
def yX12_boxSet : MethodName := ⟨RX12, "boxSet", "()J"⟩
abbrev cX12_lowestHere : ByteArray := prog_14_method_69_code
def yX12_lowestHere : MethodName := ⟨RX12, "lowestHere", "()I"⟩
abbrev cX12_takes : ByteArray := prog_14_method_70_code
def yX12_takes : MethodName := ⟨RX12, "takes", "(I)V"⟩
abbrev cX12_finds : ByteArray := prog_14_method_71_code
def yX12_finds : MethodName := ⟨RX12, "finds", "(III)V"⟩
abbrev cX12_visits : ByteArray := prog_14_method_72_code
def yX12_visits : MethodName := ⟨RX12, "visits", "(IIZ)V"⟩
abbrev cX12_searches : ByteArray := prog_14_method_73_code
def yX12_searches : MethodName := ⟨RX12, "searches", "(IZ)I"⟩
abbrev cX12_solve : ByteArray := prog_14_method_74_code
def yX12_solve : MethodName := ⟨RX12, "solve", "(IZ)I"⟩
abbrev cX12_solution : ByteArray := prog_14_method_75_code
def yX12_solution : MethodName := ⟨RX12, "solution", "(IZ)I"⟩
abbrev cX12_finish : ByteArray := prog_14_method_76_code
def yX12_finish : MethodName := ⟨RX12, "finish", "(I)I"⟩
abbrev cX12_recorded : ByteArray := prog_14_method_77_code
def yX12_recorded : MethodName := ⟨RX12, "recorded", "(I)C"⟩
abbrev cX12_isReplayed : ByteArray := prog_14_method_78_code
def yX12_isReplayed : MethodName := ⟨RX12, "isReplayed", "()Z"⟩
def RJx145de : String := "java/io/Serializable"
def TJx145de : u_T := fun k => match k with
  | _ => ("", "", "", false)
def tyJx145de : Nat → FieldType := fun k => match k with
  | _ => .int
abbrev wsJx145de0 : List Cond := u_ws RJx145de TJx145de 0
theorem nmJx145de : ∀ a, a < 0 → ∀ b, b < 0 → a ≠ b → (TJx145de a).2.1 ≠ (TJx145de b).2.1 := by decide +kernel
theorem tyJx145de_ok : ∀ k, k < 0 → parseFieldDescriptor (TJx145de k).2.2.1 = some (tyJx145de k) := by decide +kernel
def RJx9f9b0 : String := "java/lang/CharSequence"
def TJx9f9b0 : u_T := fun k => match k with
  | _ => ("", "", "", false)
def tyJx9f9b0 : Nat → FieldType := fun k => match k with
  | _ => .int
abbrev wsJx9f9b00 : List Cond := u_ws RJx9f9b0 TJx9f9b0 0
theorem nmJx9f9b0 : ∀ a, a < 0 → ∀ b, b < 0 → a ≠ b → (TJx9f9b0 a).2.1 ≠ (TJx9f9b0 b).2.1 := by decide +kernel
theorem tyJx9f9b0_ok : ∀ k, k < 0 → parseFieldDescriptor (TJx9f9b0 k).2.2.1 = some (tyJx9f9b0 k) := by decide +kernel
def RJ11 : String := "java/lang/Character"
def TJ11 : u_T := fun k => match k with
  | _ => ("", "", "", false)
def tyJ11 : Nat → FieldType := fun k => match k with
  | _ => .int
abbrev wsJ110 : List Cond := u_ws RJ11 TJ11 0
theorem nmJ11 : ∀ a, a < 0 → ∀ b, b < 0 → a ≠ b → (TJ11 a).2.1 ≠ (TJ11 b).2.1 := by decide +kernel
theorem tyJ11_ok : ∀ k, k < 0 → parseFieldDescriptor (TJ11 k).2.2.1 = some (tyJ11 k) := by decide +kernel
abbrev cJ11_isValidCodePoint_9a6ad : ByteArray := prog_18_method_11_code
def yJ11_isValidCodePoint_9a6ad : MethodName := ⟨RJ11, "isValidCodePoint", "(I)Z"⟩
abbrev cJ11_highSurrogate_5068e : ByteArray := prog_18_method_28_code
def yJ11_highSurrogate_5068e : MethodName := ⟨RJ11, "highSurrogate", "(I)C"⟩
abbrev cJ11_lowSurrogate_5068e : ByteArray := prog_18_method_29_code
def yJ11_lowSurrogate_5068e : MethodName := ⟨RJ11, "lowSurrogate", "(I)C"⟩
def RJxb160c : String := "java/lang/Comparable"
def TJxb160c : u_T := fun k => match k with
  | _ => ("", "", "", false)
def tyJxb160c : Nat → FieldType := fun k => match k with
  | _ => .int
abbrev wsJxb160c0 : List Cond := u_ws RJxb160c TJxb160c 0
theorem nmJxb160c : ∀ a, a < 0 → ∀ b, b < 0 → a ≠ b → (TJxb160c a).2.1 ≠ (TJxb160c b).2.1 := by decide +kernel
theorem tyJxb160c_ok : ∀ k, k < 0 → parseFieldDescriptor (TJxb160c k).2.2.1 = some (tyJxb160c k) := by decide +kernel
def RJ13 : String := "java/lang/Long"
def TJ13 : u_T := fun k => match k with
  | _ => ("", "", "", false)
def tyJ13 : Nat → FieldType := fun k => match k with
  | _ => .int
abbrev wsJ130 : List Cond := u_ws RJ13 TJ13 0
theorem nmJ13 : ∀ a, a < 0 → ∀ b, b < 0 → a ≠ b → (TJ13 a).2.1 ≠ (TJ13 b).2.1 := by decide +kernel
theorem tyJ13_ok : ∀ k, k < 0 → parseFieldDescriptor (TJ13 k).2.2.1 = some (tyJ13 k) := by decide +kernel
abbrev cJ13_bitCount_95d88 : ByteArray := prog_24_method_50_code
def yJ13_bitCount_95d88 : MethodName := ⟨RJ13, "bitCount", "(J)I"⟩
def RJ9 : String := "java/lang/Math"
def TJ9 : u_T := fun k => match k with
  | _ => ("", "", "", false)
def tyJ9 : Nat → FieldType := fun k => match k with
  | _ => .int
abbrev wsJ90 : List Cond := u_ws RJ9 TJ9 0
theorem nmJ9 : ∀ a, a < 0 → ∀ b, b < 0 → a ≠ b → (TJ9 a).2.1 ≠ (TJ9 b).2.1 := by decide +kernel
theorem tyJ9_ok : ∀ k, k < 0 → parseFieldDescriptor (TJ9 k).2.2.1 = some (tyJ9 k) := by decide +kernel
abbrev cJ9_max_7cf53 : ByteArray := prog_25_method_65_code
def yJ9_max_7cf53 : MethodName := ⟨RJ9, "max", "(II)I"⟩
abbrev cJ9_min_7cf53 : ByteArray := prog_25_method_69_code
def yJ9_min_7cf53 : MethodName := ⟨RJ9, "min", "(II)I"⟩
def RJ0 : String := "java/lang/String"
def TJ0 : u_T := fun k => match k with
  | _ => ("", "", "", false)
def tyJ0 : Nat → FieldType := fun k => match k with
  | _ => .int
abbrev wsJ00 : List Cond := u_ws RJ0 TJ0 0
theorem nmJ0 : ∀ a, a < 0 → ∀ b, b < 0 → a ≠ b → (TJ0 a).2.1 ≠ (TJ0 b).2.1 := by decide +kernel
theorem tyJ0_ok : ∀ k, k < 0 → parseFieldDescriptor (TJ0 k).2.2.1 = some (tyJ0 k) := by decide +kernel
abbrev cJ0_length_8abf5 : ByteArray := prog_27_method_54_code
def yJ0_length_8abf5 : MethodName := ⟨RJ0, "length", "()I"⟩
abbrev cJ0_charAt_5068e : ByteArray := prog_27_method_56_code
def yJ0_charAt_5068e : MethodName := ⟨RJ0, "charAt", "(I)C"⟩
abbrev cJ0_indexOf_0f7a4 : ByteArray := prog_27_method_79_code
def yJ0_indexOf_0f7a4 : MethodName := ⟨RJ0, "indexOf", "(I)I"⟩
abbrev cJ0_indexOf_7cf53 : ByteArray := prog_27_method_80_code
def yJ0_indexOf_7cf53 : MethodName := ⟨RJ0, "indexOf", "(II)I"⟩
abbrev cJ0_coder_7d493 : ByteArray := prog_27_method_152_code
def yJ0_coder_7d493 : MethodName := ⟨RJ0, "coder", "()B"⟩
abbrev cJ0_isLatin1_aae02 : ByteArray := prog_27_method_154_code
def yJ0_isLatin1_aae02 : MethodName := ⟨RJ0, "isLatin1", "()Z"⟩
abbrev cJ0_checkIndex_df160 : ByteArray := prog_27_method_155_code
def yJ0_checkIndex_df160 : MethodName := ⟨RJ0, "checkIndex", "(II)V"⟩
abbrev cJ0_checkBoundsBeginEnd_23922 : ByteArray := prog_27_method_158_code
def yJ0_checkBoundsBeginEnd_23922 : MethodName := ⟨RJ0, "checkBoundsBeginEnd", "(III)V"⟩
def RJ1 : String := "java/lang/StringLatin1"
def TJ1 : u_T := fun k => match k with
  | _ => ("", "", "", false)
def tyJ1 : Nat → FieldType := fun k => match k with
  | _ => .int
abbrev wsJ10 : List Cond := u_ws RJ1 TJ1 0
theorem nmJ1 : ∀ a, a < 0 → ∀ b, b < 0 → a ≠ b → (TJ1 a).2.1 ≠ (TJ1 b).2.1 := by decide +kernel
theorem tyJ1_ok : ∀ k, k < 0 → parseFieldDescriptor (TJ1 k).2.2.1 = some (tyJ1 k) := by decide +kernel
abbrev cJ1_charAt_3b067 : ByteArray := prog_28_method_2_code
def yJ1_charAt_3b067 : MethodName := ⟨RJ1, "charAt", "([BI)C"⟩
abbrev cJ1_canEncode_9a6ad : ByteArray := prog_28_method_4_code
def yJ1_canEncode_9a6ad : MethodName := ⟨RJ1, "canEncode", "(I)Z"⟩
abbrev cJ1_indexOf_4cfef : ByteArray := prog_28_method_22_code
def yJ1_indexOf_4cfef : MethodName := ⟨RJ1, "indexOf", "([BIII)I"⟩
abbrev cJ1_indexOfChar_4cfef : ByteArray := prog_28_method_23_code
def yJ1_indexOfChar_4cfef : MethodName := ⟨RJ1, "indexOfChar", "([BIII)I"⟩
def RJ2 : String := "java/lang/StringUTF16"
def TJ2 : u_T := fun k => match k with
  | _ => ("", "", "", false)
def tyJ2 : Nat → FieldType := fun k => match k with
  | _ => .int
abbrev wsJ20 : List Cond := u_ws RJ2 TJ2 0
theorem nmJ2 : ∀ a, a < 0 → ∀ b, b < 0 → a ≠ b → (TJ2 a).2.1 ≠ (TJ2 b).2.1 := by decide +kernel
theorem tyJ2_ok : ∀ k, k < 0 → parseFieldDescriptor (TJ2 k).2.2.1 = some (tyJ2 k) := by decide +kernel
abbrev cJ2_getChar_3b067 : ByteArray := prog_29_method_5_code
def yJ2_getChar_3b067 : MethodName := ⟨RJ2, "getChar", "([BI)C"⟩
abbrev cJ2_length_9d52b : ByteArray := prog_29_method_6_code
def yJ2_length_9d52b : MethodName := ⟨RJ2, "length", "([B)I"⟩
abbrev cJ2_indexOf_4cfef : ByteArray := prog_29_method_40_code
def yJ2_indexOf_4cfef : MethodName := ⟨RJ2, "indexOf", "([BIII)I"⟩
abbrev cJ2_indexOfChar_4cfef : ByteArray := prog_29_method_47_code
def yJ2_indexOfChar_4cfef : MethodName := ⟨RJ2, "indexOfChar", "([BIII)I"⟩
abbrev cJ2_indexOfCharUnsafe_4cfef : ByteArray := prog_29_method_48_code
def yJ2_indexOfCharUnsafe_4cfef : MethodName := ⟨RJ2, "indexOfCharUnsafe", "([BIII)I"⟩
abbrev cJ2_indexOfSupplementary_4cfef : ByteArray := prog_29_method_49_code
def yJ2_indexOfSupplementary_4cfef : MethodName := ⟨RJ2, "indexOfSupplementary", "([BIII)I"⟩
abbrev cJ2_charAt_3b067 : ByteArray := prog_29_method_83_code
def yJ2_charAt_3b067 : MethodName := ⟨RJ2, "charAt", "([BI)C"⟩
abbrev cJ2_checkIndex_2214a : ByteArray := prog_29_method_91_code
def yJ2_checkIndex_2214a : MethodName := ⟨RJ2, "checkIndex", "(I[B)V"⟩
abbrev cJ2_checkBoundsBeginEnd_d044e : ByteArray := prog_29_method_93_code
def yJ2_checkBoundsBeginEnd_d044e : MethodName := ⟨RJ2, "checkBoundsBeginEnd", "(II[B)V"⟩
def RJxfd54e : String := "java/lang/constant/Constable"
def TJxfd54e : u_T := fun k => match k with
  | _ => ("", "", "", false)
def tyJxfd54e : Nat → FieldType := fun k => match k with
  | _ => .int
abbrev wsJxfd54e0 : List Cond := u_ws RJxfd54e TJxfd54e 0
theorem nmJxfd54e : ∀ a, a < 0 → ∀ b, b < 0 → a ≠ b → (TJxfd54e a).2.1 ≠ (TJxfd54e b).2.1 := by decide +kernel
theorem tyJxfd54e_ok : ∀ k, k < 0 → parseFieldDescriptor (TJxfd54e k).2.2.1 = some (tyJxfd54e k) := by decide +kernel
def RJx3cf43 : String := "java/lang/constant/ConstantDesc"
def TJx3cf43 : u_T := fun k => match k with
  | _ => ("", "", "", false)
def tyJx3cf43 : Nat → FieldType := fun k => match k with
  | _ => .int
abbrev wsJx3cf430 : List Cond := u_ws RJx3cf43 TJx3cf43 0
theorem nmJx3cf43 : ∀ a, a < 0 → ∀ b, b < 0 → a ≠ b → (TJx3cf43 a).2.1 ≠ (TJx3cf43 b).2.1 := by decide +kernel
theorem tyJx3cf43_ok : ∀ k, k < 0 → parseFieldDescriptor (TJx3cf43 k).2.2.1 = some (tyJx3cf43 k) := by decide +kernel
def RJ3 : String := "jdk/internal/util/Preconditions"
def TJ3 : u_T := fun k => match k with
  | _ => ("", "", "", false)
def tyJ3 : Nat → FieldType := fun k => match k with
  | _ => .int
abbrev wsJ30 : List Cond := u_ws RJ3 TJ3 0
theorem nmJ3 : ∀ a, a < 0 → ∀ b, b < 0 → a ≠ b → (TJ3 a).2.1 ≠ (TJ3 b).2.1 := by decide +kernel
theorem tyJ3_ok : ∀ k, k < 0 → parseFieldDescriptor (TJ3 k).2.2.1 = some (tyJ3 k) := by decide +kernel
abbrev cJ3_checkIndex_8e157 : ByteArray := prog_35_method_11_code
def yJ3_checkIndex_8e157 : MethodName := ⟨RJ3, "checkIndex", "(IILjava/util/function/BiFunction;)I"⟩
abbrev cJ3_checkFromToIndex_8c36e : ByteArray := prog_35_method_12_code
def yJ3_checkFromToIndex_8c36e : MethodName := ⟨RJ3, "checkFromToIndex", "(IIILjava/util/function/BiFunction;)I"⟩
def RL : String := "PusherRoomLaw"
abbrev cL_feed : ByteArray := method_3_code
def yL_feed : MethodName := ⟨RL, "feed", "(LPusherRoom;C[J)I"⟩
abbrev cL_readRoom : ByteArray := method_4_code
def yL_readRoom : MethodName := ⟨RL, "readRoom", "(LPusherRoom;[J)I"⟩
abbrev cL_cell : ByteArray := method_5_code
def yL_cell : MethodName := ⟨RL, "cell", "(LPusherRoom;II[J)I"⟩
abbrev cL_cells : ByteArray := method_6_code
def yL_cells : MethodName := ⟨RL, "cells", "(LPusherRoom;I[J)I"⟩
abbrev cL_count : ByteArray := method_7_code
def yL_count : MethodName := ⟨RL, "count", "(LPusherRoom;I[J)I"⟩
abbrev cL_distance : ByteArray := method_8_code
def yL_distance : MethodName := ⟨RL, "distance", "(LPusherRoom;II[J)I"⟩
abbrev cL_bound : ByteArray := method_9_code
def yL_bound : MethodName := ⟨RL, "bound", "(LPusherRoom;[J)I"⟩
abbrev cL_stuck : ByteArray := method_10_code
def yL_stuck : MethodName := ⟨RL, "stuck", "(LPusherRoom;Z[J)I"⟩
abbrev cL_goalRoom : ByteArray := method_11_code
def yL_goalRoom : MethodName := ⟨RL, "goalRoom", "(LPusherRoom;II[J)I"⟩
abbrev cL_step : ByteArray := method_12_code
def yL_step : MethodName := ⟨RL, "step", "(LPusherRoom;I[J)I"⟩
abbrev cL_push : ByteArray := method_13_code
def yL_push : MethodName := ⟨RL, "push", "(LPusherRoom;II[J)I"⟩
abbrev cL_longPush : ByteArray := method_14_code
def yL_longPush : MethodName := ⟨RL, "longPush", "(LPusherRoom;II[J)I"⟩
abbrev cL_play : ByteArray := method_15_code
def yL_play : MethodName := ⟨RL, "play", "(LPusherRoom;[J)I"⟩
abbrev cL_refused : ByteArray := method_16_code
def yL_refused : MethodName := ⟨RL, "refused", "(LPusherRoom;[J)I"⟩
abbrev cL_refusal : ByteArray := method_17_code
def yL_refusal : MethodName := ⟨RL, "refusal", "(LPusherRoom;Z[J)I"⟩
abbrev cL_refuses : ByteArray := method_18_code
def yL_refuses : MethodName := ⟨RL, "refuses", "(LPusherRoom;II[J)I"⟩
abbrev cL_solve : ByteArray := method_19_code
def yL_solve : MethodName := ⟨RL, "solve", "(LPusherRoom;IZ[J)I"⟩
abbrev cL_solution : ByteArray := method_20_code
def yL_solution : MethodName := ⟨RL, "solution", "(LPusherRoom;IZ[J)I"⟩
abbrev cL_finish : ByteArray := method_21_code
def yL_finish : MethodName := ⟨RL, "finish", "(LPusherRoom;I[J)I"⟩
abbrev cL_recorded : ByteArray := method_22_code
def yL_recorded : MethodName := ⟨RL, "recorded", "(LPusherRoom;I[J)I"⟩
abbrev cL_isReplayed : ByteArray := method_23_code
def yL_isReplayed : MethodName := ⟨RL, "isReplayed", "(LPusherRoom;[J)I"⟩
abbrev cL_undo : ByteArray := method_24_code
def yL_undo : MethodName := ⟨RL, "undo", "(LPusherRoom;[J)I"⟩
abbrev cL_saveSnapshot : ByteArray := method_25_code
def yL_saveSnapshot : MethodName := ⟨RL, "saveSnapshot", "(LPusherRoom;[J)I"⟩
abbrev cL_restoreSnapshot : ByteArray := method_26_code
def yL_restoreSnapshot : MethodName := ⟨RL, "restoreSnapshot", "(LPusherRoom;[J)I"⟩
abbrev cL_law : ByteArray := code
def yL_law : MethodName := ⟨RL, "law", "([I)Z"⟩
abbrev vwCl : List vw_C := [(RX0, TX0, 7), (RX1, TX1, 2), (RX2, TX2, 7), (RX3, TX3, 4), (RX4, TX4, 2), (RX5, TX5, 3), (RX6, TX6, 3), (RX7, TX7, 10), (RX8, TX8, 11), (RX9, TX9, 3), (RX10, TX10, 2), (RX11, TX11, 12), (RX12, TX12, 36)]
end
section
/-! THE PLAIN MACHINE, its worlds: cells in two banks (numbers below 100, and from 100 on); a reference in them is a cell's number. 'ad' says at which address a number lies. -/
abbrev mE : Type := (Nat × vp_A) ⊕ (Nat × List Value)
abbrev mW : Type := List mE × List mE
def mget (w : mW) (i : Nat) : Option mE := if i < 100 then w.1[i]? else w.2[i - 100]?
def mset (w : mW) (i : Nat) (c : mE) : mW := if i < 100 then (w.1.set i c, w.2) else (w.1, w.2.set (i - 100) c)
def mcV (ad : Nat → Nat) (v : Value) : Value := match v with
  | .ref i => .ref (ad i)
  | .int x => .int x
  | .long x => .long x
  | .float x => .float x
  | .double x => .double x
  | .null => .null
  | .retAddr x => .retAddr x
theorem mcV_cat (ad : Nat → Nat) (v : Value) : (mcV ad v).category = v.category := by cases v <;> rfl
theorem mcV_cats (ad : Nat → Nat) (st : List Value) : ((st.map (mcV ad)).map fun v => v.category) = st.map fun v => v.category := by
  rw [List.map_map]
  exact List.map_congr_left fun v _ => mcV_cat ad v
def mcE (tA : Nat → ClassId) (ad : Nat → Nat) (c : mE) : va_E := match c with
  | .inl (t, a) => .inl (tA t, a)
  | .inr (ci, fs) => .inr (ci, fs.map (mcV ad))
def mcL (tA : Nat → ClassId) (ad : Nat → Nat) : Nat → List mE → va_W
  | _, [] => []
  | k, c :: t => (ad k, mcE tA ad c) :: mcL tA ad (k + 1) t
def mcW (tA : Nat → ClassId) (ad : Nat → Nat) (w : mW) : va_W := mcL tA ad 0 w.1 ++ mcL tA ad 100 w.2
theorem mcL_len (tA : Nat → ClassId) (ad : Nat → Nat) : ∀ (l : List mE) (k : Nat), (mcL tA ad k l).length = l.length := by
  intro l
  induction l with
  | nil => intro k; rfl
  | cons c t ih => intro k; simp [mcL, ih]
theorem mcL_get (tA : Nat → ClassId) (ad : Nat → Nat) : ∀ (l : List mE) (k i : Nat), (mcL tA ad k l)[i]? = (l[i]?).map (fun c => (ad (k + i), mcE tA ad c)) := by
  intro l
  induction l with
  | nil => intro k i; simp [mcL]
  | cons c t ih =>
    intro k i
    cases i with
    | zero => simp [mcL]
    | succ j =>
      simp only [mcL, List.getElem?_cons_succ, ih]
      rw [show k + 1 + j = k + (j + 1) by omega]
theorem mcL_set (tA : Nat → ClassId) (ad : Nat → Nat) (c : mE) : ∀ (l : List mE) (k i : Nat), mcL tA ad k (l.set i c) = (mcL tA ad k l).set i (ad (k + i), mcE tA ad c) := by
  intro l
  induction l with
  | nil => intro k i; simp [mcL]
  | cons c0 t ih =>
    intro k i
    cases i with
    | zero => simp [mcL]
    | succ j =>
      simp only [mcL, List.set_cons_succ, ih]
      rw [show k + 1 + j = k + (j + 1) by omega]
/-- a cell of the plain world, where it stands among the machine's cells -/
theorem mcW_at (tA : Nat → ClassId) (ad : Nat → Nat) {w : mW} {i : Nat} {c : mE} (h : mget w i = some c) : ∃ q0 : Nat, (mcW tA ad w)[q0]? = some (ad i, mcE tA ad c) ∧ ∀ c' : mE, (mcW tA ad w).set q0 (ad i, mcE tA ad c') = mcW tA ad (mset w i c') := by
  unfold mget at h
  by_cases hi : i < 100
  · rw [if_pos hi] at h
    have hl : i < w.1.length := (List.getElem?_eq_some_iff.mp h).1
    refine ⟨i, ?_, fun c' => ?_⟩
    · unfold mcW
      rw [List.getElem?_append_left (by rw [mcL_len]; exact hl), mcL_get, h]
      simp
    · unfold mcW mset
      rw [if_pos hi, List.set_append, if_pos (by rw [mcL_len]; exact hl)]
      simp [mcL_set]
  · rw [if_neg hi] at h
    refine ⟨w.1.length + (i - 100), ?_, fun c' => ?_⟩
    · unfold mcW
      rw [List.getElem?_append_right (by rw [mcL_len]; omega), mcL_len, show w.1.length + (i - 100) - w.1.length = i - 100 by omega, mcL_get, h]
      simp only [Option.map_some]
      rw [show 100 + (i - 100) = i by omega]
    · unfold mcW mset
      rw [if_neg hi, List.set_append, if_neg (by rw [mcL_len]; omega), mcL_len, show w.1.length + (i - 100) - w.1.length = i - 100 by omega]
      simp only [mcL_set]
      rw [show 100 + (i - 100) = i by omega]
/-! locals -/
def mstF (i : Nat) (v : Value) (j : Nat) (o : Option Value) : Option Value :=
  if j = i then some v else if v.category = 2 ∧ j = i + 1 then none else match o with
    | some u => if j + 1 = i ∧ u.category = 2 then none else some u
    | none => none
def mstR (i : Nat) (v : Value) : Nat → List (Option Value) → List (Option Value)
  | _, [] => []
  | j, o :: t => mstF i v j o :: mstR i v (j + 1) t
def mst (L : List (Option Value)) (i : Nat) (v : Value) : List (Option Value) := mstR i v 0 L
theorem mstR_len (i : Nat) (v : Value) : ∀ (L : List (Option Value)) (j : Nat), (mstR i v j L).length = L.length := by
  intro L
  induction L with
  | nil => intro j; rfl
  | cons o t ih => intro j; simp [mstR, ih]
theorem mstR_get (i : Nat) (v : Value) : ∀ (L : List (Option Value)) (j k : Nat), (mstR i v j L)[k]? = (L[k]?).map (mstF i v (j + k)) := by
  intro L
  induction L with
  | nil => intro j k; simp [mstR]
  | cons o t ih =>
    intro j k
    cases k with
    | zero => simp [mstR]
    | succ n =>
      simp only [mstR, List.getElem?_cons_succ, ih]
      rw [show j + 1 + n = j + (n + 1) by omega]
theorem mst_len (L : List (Option Value)) (i : Nat) (v : Value) : (mst L i v).length = L.length := mstR_len i v L 0
theorem mst_get {L : List (Option Value)} {i j : Nat} {v u : Value} (h : (mst L i v)[j]? = some (some u)) : (j = i ∧ u = v) ∨ (j ≠ i ∧ ¬ (v.category = 2 ∧ j = i + 1) ∧ ¬ (j + 1 = i ∧ u.category = 2) ∧ L[j]? = some (some u)) := by
  unfold mst at h
  rw [mstR_get, Nat.zero_add] at h
  cases hL : L[j]? with
  | none => rw [hL] at h; cases h
  | some o =>
    rw [hL] at h
    have h : mstF i v j o = some u := Option.some.inj h
    unfold mstF at h
    by_cases h1 : j = i
    · rw [if_pos h1] at h
      exact Or.inl ⟨h1, (Option.some.inj h).symm⟩
    · rw [if_neg h1] at h
      by_cases h2 : v.category = 2 ∧ j = i + 1
      · rw [if_pos h2] at h; cases h
      · rw [if_neg h2] at h
        cases o with
        | none => cases h
        | some u' =>
          dsimp only at h
          by_cases h3 : j + 1 = i ∧ u'.category = 2
          · rw [if_pos h3] at h; cases h
          · rw [if_neg h3] at h
            cases h
            exact Or.inr ⟨h1, h2, h3, rfl⟩
def mLs (ad : Nat → Nat) (nL : Nat) (ls : Array Slot) (L : List (Option Value)) : Prop := ls.size = nL ∧ lv_wf ls ∧ L.length = nL ∧ ∀ (i : Nat) (v : Value), L[i]? = some (some v) → ls[i]? = some (.val (mcV ad v))
def mLv (ad : Nat → Nat) (L : List (Option Value)) : List (Nat × Value) := (List.range L.length).filterMap fun i => match L[i]? with
  | some (some v) => some (i, mcV ad v)
  | _ => none
theorem mLv_mem {ad : Nat → Nat} {L : List (Option Value)} {i : Nat} {v : Value} (h : L[i]? = some (some v)) : (i, mcV ad v) ∈ mLv ad L := by
  refine List.mem_filterMap.mpr ⟨i, List.mem_range.mpr (List.getElem?_eq_some_iff.mp h).1, ?_⟩
  rw [h]
theorem mLv_of {ad : Nat → Nat} {L : List (Option Value)} {q : Nat × Value} (h : q ∈ mLv ad L) : ∃ v, L[q.1]? = some (some v) ∧ q.2 = mcV ad v := by
  obtain ⟨i, -, hi⟩ := List.mem_filterMap.mp h
  split at hi
  · rename_i v hv
    cases hi
    exact ⟨v, hv, rfl⟩
  · cases hi
theorem mLs.has {ad : Nat → Nat} {nL : Nat} {ls : Array Slot} {L : List (Option Value)} (h : mLs ad nL ls L) : lv_has ls nL (mLv ad L) := by
  refine ⟨h.1, h.2.1, fun q hq => ?_⟩
  obtain ⟨v, h1, h2⟩ := mLv_of hq
  rw [h2]
  exact h.2.2.2 _ _ h1
theorem mLs.store1 {ad : Nat → Nat} {nL i : Nat} {ls ls' : Array Slot} {L : List (Option Value)} {v : Value} (h : mLs ad nL ls L) (hv : v.category = 1) (hs : lv_has ls' nL ((i, mcV ad v) :: (mLv ad L).filter (fun q => !(q.1 == i) && !(q.1 + 1 == i && q.2.category == 2)))) : mLs ad nL ls' (mst L i v) := by
  refine ⟨hs.1, hs.2.1, by rw [mst_len]; exact h.2.2.1, fun j u hj => ?_⟩
  rcases mst_get hj with ⟨h1, h2⟩ | ⟨h1, h2, h3, h4⟩
  · rw [h1, h2]
    exact hs.2.2 _ List.mem_cons_self
  · refine hs.2.2 (j, mcV ad u) (List.mem_cons_of_mem _ (List.mem_filter.mpr ⟨mLv_mem h4, ?_⟩))
    have e1 : (j == i) = false := by simp [h1]
    have e2 : (j + 1 == i && (mcV ad u).category == 2) = false := by
      rw [mcV_cat]
      simp only [Bool.and_eq_false_iff, beq_eq_false_iff_ne]
      by_cases q : j + 1 = i
      · exact Or.inr fun z => h3 ⟨q, z⟩
      · exact Or.inl q
    show (!(j == i) && !(j + 1 == i && (mcV ad u).category == 2)) = true
    rw [e1, e2]; rfl
theorem mLs.store2 {ad : Nat → Nat} {nL i : Nat} {ls ls' : Array Slot} {L : List (Option Value)} {v : Value} (h : mLs ad nL ls L) (hv : v.category = 2) (hs : lv_has ls' nL ((i, mcV ad v) :: (mLv ad L).filter (fun q => !(q.1 == i) && (!(q.1 == i + 1) && !(q.1 + 1 == i && q.2.category == 2))))) : mLs ad nL ls' (mst L i v) := by
  refine ⟨hs.1, hs.2.1, by rw [mst_len]; exact h.2.2.1, fun j u hj => ?_⟩
  rcases mst_get hj with ⟨h1, h2⟩ | ⟨h1, h2, h3, h4⟩
  · rw [h1, h2]
    exact hs.2.2 _ List.mem_cons_self
  · refine hs.2.2 (j, mcV ad u) (List.mem_cons_of_mem _ (List.mem_filter.mpr ⟨mLv_mem h4, ?_⟩))
    have e1 : (j == i) = false := by simp [h1]
    have e3 : (j == i + 1) = false := by
      simp only [beq_eq_false_iff_ne]
      exact fun z => h2 ⟨hv, z⟩
    have e2 : (j + 1 == i && (mcV ad u).category == 2) = false := by
      rw [mcV_cat]
      simp only [Bool.and_eq_false_iff, beq_eq_false_iff_ne]
      by_cases q : j + 1 = i
      · exact Or.inr fun z => h3 ⟨q, z⟩
      · exact Or.inl q
    show (!(j == i) && (!(j == i + 1) && !(j + 1 == i && (mcV ad u).category == 2))) = true
    rw [e1, e2, e3]; rfl
/-- the locals with which a method begins -/
def mEnt : List Value → List (Option Value)
  | [] => []
  | v :: t => if v.category = 2 then some v :: none :: mEnt t else some v :: mEnt t
theorem mEnt_at (ad : Nat → Nat) : ∀ (vs : List Value) (k i : Nat) (v : Value), (mEnt vs)[i]? = some (some v) → (k + i, mcV ad v) ∈ lv_args k (vs.map (mcV ad)) := by
  intro vs
  induction vs with
  | nil => intro k i v h; simp [mEnt] at h
  | cons u t ih =>
    intro k i v h
    unfold mEnt at h
    simp only [List.map_cons, lv_args, mcV_cat]
    by_cases hc : u.category = 2
    · rw [if_pos hc] at h ⊢
      match i, h with
      | 0, h => cases h; exact List.mem_cons_self
      | 1, h => cases h
      | j + 2, h =>
        have := ih (k + 2) j v h
        rw [show k + 2 + j = k + (j + 2) by omega] at this
        exact List.mem_cons_of_mem _ this
    · rw [if_neg hc] at h ⊢
      match i, h with
      | 0, h => cases h; exact List.mem_cons_self
      | j + 1, h =>
        have := ih (k + 1) j v h
        rw [show k + 1 + j = k + (j + 1) by omega] at this
        exact List.mem_cons_of_mem _ this
theorem lg_sl_len (ad : Nat → Nat) : ∀ vs : List Value, (lg_sl (vs.map (mcV ad))).length = (mEnt vs).length := by
  intro vs
  induction vs with
  | nil => rfl
  | cons v t ih =>
    unfold lg_sl at ih ⊢
    simp only [List.map_cons, List.flatMap_cons, List.length_append, ih, mEnt, mcV_cat]
    by_cases hc : v.category = 2
    · simp [hc]; omega
    · simp [hc]; omega
/-- .. padded to n places -/
def mEnd (vs : List Value) (n : Nat) : List (Option Value) := mEnt vs ++ List.replicate (n - (mEnt vs).length) none
theorem mEnd_ls (ad : Nat → Nat) (vs : List Value) {n : Nat} (h : (mEnt vs).length ≤ n) : mLs ad n ((lg_sl (vs.map (mcV ad)) ++ List.replicate (n - (lg_sl (vs.map (mcV ad))).length) Slot.unset).toArray) (mEnd vs n) := by
  have h0 := lv_entry (vs.map (mcV ad)) (n := n) (by rw [lg_sl_len]; exact h)
  refine ⟨h0.1, h0.2.1, by unfold mEnd; simp; omega, fun i v hi => ?_⟩
  unfold mEnd at hi
  by_cases hl : i < (mEnt vs).length
  · rw [List.getElem?_append_left hl] at hi
    have := mEnt_at ad vs 0 i v hi
    rw [Nat.zero_add] at this
    exact h0.2.2 _ this
  · rw [List.getElem?_append_right (by omega), List.getElem?_replicate] at hi
    split at hi <;> simp at hi
end
section
/-! THE PLAIN MACHINE: methods, what the start says beside the good words, the judgements Go and Rt, Rx -/
def mNest : List (String × Nat × MethodName × String) := [("PusherRoom$RoomText", 68, ⟨"PusherRoom", "bit", "(I)J"⟩, "PusherRoom"), ("PusherRoom$Grid", 40, ⟨"PusherRoom", "bit", "(I)J"⟩, "PusherRoom"), ("PusherRoom$Grid", 61, ⟨"PusherRoom", "opposite", "(I)I"⟩, "PusherRoom"), ("PusherRoom$Game", 85, ⟨"PusherRoom", "has", "(JI)Z"⟩, "PusherRoom"), ("PusherRoom$Position", 33, ⟨"PusherRoom", "bit", "(I)J"⟩, "PusherRoom"), ("PusherRoom$Game", 74, ⟨"PusherRoom", "intAt", "([II)I"⟩, "PusherRoom"), ("PusherRoom$Game", 147, ⟨"PusherRoom", "isPushCode", "(I)Z"⟩, "PusherRoom"), ("PusherRoom$Matching", 36, ⟨"PusherRoom", "has", "(JI)Z"⟩, "PusherRoom"), ("PusherRoom$Matching", 26, ⟨"PusherRoom", "setInt", "([III)V"⟩, "PusherRoom"), ("PusherRoom$Matching", 51, ⟨"PusherRoom", "bit", "(I)J"⟩, "PusherRoom"), ("PusherRoom$Matching", 44, ⟨"PusherRoom", "intAt", "([II)I"⟩, "PusherRoom"), ("PusherRoom$Grid", 71, ⟨"PusherRoom", "lowest", "(J)I"⟩, "PusherRoom"), ("PusherRoom$Layers", 19, ⟨"PusherRoom", "setLong", "([JIJ)V"⟩, "PusherRoom"), ("PusherRoom$Layers", 31, ⟨"PusherRoom", "longAt", "([JI)J"⟩, "PusherRoom"), ("PusherRoom$GoalRooms", 62, ⟨"PusherRoom", "has", "(JI)Z"⟩, "PusherRoom"), ("PusherRoom$Position", 56, ⟨"PusherRoom", "lowest", "(J)I"⟩, "PusherRoom"), ("PusherRoom$History", 37, ⟨"PusherRoom", "setLong", "([JIJ)V"⟩, "PusherRoom"), ("PusherRoom$History", 44, ⟨"PusherRoom", "setInt", "([III)V"⟩, "PusherRoom"), ("PusherRoom$Game", 96, ⟨"PusherRoom", "codeOf", "(IZ)I"⟩, "PusherRoom"), ("PusherRoom$Game", 78, ⟨"PusherRoom", "setInt", "([III)V"⟩, "PusherRoom"), ("PusherRoom$History", 50, ⟨"PusherRoom", "longAt", "([JI)J"⟩, "PusherRoom"), ("PusherRoom$History", 54, ⟨"PusherRoom", "intAt", "([II)I"⟩, "PusherRoom"), ("PusherRoom$Position", 71, ⟨"PusherRoom", "opposite", "(I)I"⟩, "PusherRoom"), ("PusherRoom$Layers", 39, ⟨"PusherRoom", "has", "(JI)Z"⟩, "PusherRoom"), ("PusherRoom$Game", 119, ⟨"PusherRoom", "bit", "(I)J"⟩, "PusherRoom"), ("PusherRoom$Search", 49, ⟨"PusherRoom", "setInt", "([III)V"⟩, "PusherRoom"), ("PusherRoom$Search", 62, ⟨"PusherRoom", "lowest", "(J)I"⟩, "PusherRoom"), ("PusherRoom$Search", 85, ⟨"PusherRoom", "intAt", "([II)I"⟩, "PusherRoom"), ("PusherRoom$Search", 74, ⟨"PusherRoom", "longAt", "([JI)J"⟩, "PusherRoom"), ("PusherRoom$Search", 123, ⟨"PusherRoom", "setLong", "([JIJ)V"⟩, "PusherRoom"), ("PusherRoom$Search", 89, ⟨"PusherRoom", "bit", "(I)J"⟩, "PusherRoom"), ("PusherRoom$Search", 100, ⟨"PusherRoom", "has", "(JI)Z"⟩, "PusherRoom"), ("PusherRoom$Search", 112, ⟨"PusherRoom", "opposite", "(I)I"⟩, "PusherRoom"), ("PusherRoom$Solution", 38, ⟨"PusherRoom", "setInt", "([III)V"⟩, "PusherRoom"), ("PusherRoom$Solution", 45, ⟨"PusherRoom", "intAt", "([II)I"⟩, "PusherRoom"), ("PusherRoom$Game", 150, ⟨"PusherRoom", "directionOf", "(I)I"⟩, "PusherRoom")]
def mStrs : List (String × Nat × String) := [("PusherRoom", 86, "the character's code is not from 32 to 126"), ("PusherRoom", 96, "the input is full"), ("PusherRoom$RoomText", 60, "#-.$*@+"), ("PusherRoom", 117, "the size, the player, the boxes or the goals are not those of a room"), ("PusherRoom", 379, "there is no room"), ("PusherRoom", 148, "there is no such cell"), ("PusherRoom", 187, "there is no such set"), ("PusherRoom", 219, "there is no such count"), ("PusherRoom", 225, "there is no such open cell"), ("PusherRoom", 227, "there is no such goal"), ("PusherRoom", 239, "there is no distance"), ("PusherRoom", 245, "there is no bound"), ("PusherRoom", 250, "the room is not stuck"), ("PusherRoom", 259, "there is no such goal room or place"), ("PusherRoom", 381, "there is no such direction"), ("PusherRoom", 274, "400 steps were recorded"), ("PusherRoom", 290, "the step is refused"), ("PusherRoom", 383, "there is no box on such a cell"), ("PusherRoom", 389, "the push is refused"), ("PusherRoom", 391, "more than 400 steps would be recorded"), ("PusherRoom$TextInput", 23, "urdlURDL"), ("PusherRoom", 417, "urdlURDL"), ("PusherRoom", 324, "a step is refused"), ("PusherRoom", 326, "no step of a text was refused"), ("PusherRoom", 328, "nothing was refused"), ("PusherRoom", 393, "the limit is not from 1 to 1000"), ("PusherRoom", 403, "the search gives up"), ("PusherRoom", 408, "there is no solution"), ("PusherRoom", 342, "there is no such part of a solution"), ("PusherRoom", 353, "there is no such step"), ("PusherRoom", 369, "no command can be undone"), ("PusherRoom", 377, "no snapshot was saved")]
def mNcs : List (String × String) := [("java/lang/ArithmeticException", "java/lang/IllegalArgumentException"), ("java/lang/ArithmeticException", "java/lang/IllegalStateException"), ("java/lang/ArithmeticException", "java/lang/IndexOutOfBoundsException"), ("java/lang/ArithmeticException", "java/lang/UnsupportedOperationException"), ("java/lang/ArithmeticException", "java/util/NoSuchElementException"), ("java/lang/IllegalArgumentException", "java/lang/ArithmeticException"), ("java/lang/IllegalArgumentException", "java/lang/IllegalStateException"), ("java/lang/IllegalArgumentException", "java/lang/IndexOutOfBoundsException"), ("java/lang/IllegalArgumentException", "java/lang/UnsupportedOperationException"), ("java/lang/IllegalArgumentException", "java/util/NoSuchElementException"), ("java/lang/IllegalStateException", "java/lang/ArithmeticException"), ("java/lang/IllegalStateException", "java/lang/IllegalArgumentException"), ("java/lang/IllegalStateException", "java/lang/IndexOutOfBoundsException"), ("java/lang/IllegalStateException", "java/lang/UnsupportedOperationException"), ("java/lang/IllegalStateException", "java/util/NoSuchElementException"), ("java/lang/IndexOutOfBoundsException", "java/lang/ArithmeticException"), ("java/lang/IndexOutOfBoundsException", "java/lang/IllegalArgumentException"), ("java/lang/IndexOutOfBoundsException", "java/lang/IllegalStateException"), ("java/lang/IndexOutOfBoundsException", "java/lang/UnsupportedOperationException"), ("java/lang/IndexOutOfBoundsException", "java/util/NoSuchElementException"), ("java/lang/UnsupportedOperationException", "java/lang/ArithmeticException"), ("java/lang/UnsupportedOperationException", "java/lang/IllegalArgumentException"), ("java/lang/UnsupportedOperationException", "java/lang/IllegalStateException"), ("java/lang/UnsupportedOperationException", "java/lang/IndexOutOfBoundsException"), ("java/lang/UnsupportedOperationException", "java/util/NoSuchElementException"), ("java/util/NoSuchElementException", "java/lang/ArithmeticException"), ("java/util/NoSuchElementException", "java/lang/IllegalArgumentException"), ("java/util/NoSuchElementException", "java/lang/IllegalStateException"), ("java/util/NoSuchElementException", "java/lang/IndexOutOfBoundsException"), ("java/util/NoSuchElementException", "java/lang/UnsupportedOperationException")]
def mDecs : List MethodName := [⟨"java/lang/RuntimeException", "<init>", "()V"⟩, ⟨"java/lang/RuntimeException", "<init>", "(Ljava/lang/String;)V"⟩, ⟨"java/lang/Exception", "<init>", "()V"⟩, ⟨"java/lang/Exception", "<init>", "(Ljava/lang/String;)V"⟩, ⟨"java/lang/Throwable", "<init>", "()V"⟩, ⟨"java/lang/Throwable", "<init>", "(Ljava/lang/String;)V"⟩]
def mCas : List (String × String) := [("java/lang/ArithmeticException", "java/lang/ArithmeticException"), ("java/lang/IllegalArgumentException", "java/lang/IllegalArgumentException"), ("java/lang/IllegalStateException", "java/lang/IllegalStateException"), ("java/lang/IndexOutOfBoundsException", "java/lang/IndexOutOfBoundsException"), ("java/lang/UnsupportedOperationException", "java/lang/UnsupportedOperationException"), ("java/util/NoSuchElementException", "java/util/NoSuchElementException")]
/-- String constants that are more than a text of a throw: class, place, number, bytes; the cell of number j is 1000 + j, its bytes are 1100 + j -/
def mSC : List (String × Nat × Nat × List Int32) := [("PusherRoom$RoomText", 60, 0, [35, 45, 46, 36, 42, 64, 43]), ("PusherRoom$TextInput", 23, 1, [117, 114, 100, 108, 85, 82, 68, 76]), ("PusherRoom", 417, 2, [117, 114, 100, 108, 85, 82, 68, 76])]
abbrev mEnv : Type := Launch × va_G × (Nat → ClassId) × (String → Nat → Addr) × (String → Nat → Addr)
def mAd (E : mEnv) (ad : Nat → Nat) : Prop := ∀ q ∈ mSC, ad (1000 + q.2.2.1) = E.2.2.2.1 q.1 q.2.1 ∧ ad (1100 + q.2.2.1) = E.2.2.2.2 q.1 q.2.1
/-- a method: its name, its bytes, its locals, what it returns, its table, and the room below it: frames, locals -/
abbrev mM : Type := MethodName × ByteArray × Nat × Option FieldType × List (Nat × Nat × Nat × Nat) × Nat × Nat
def mN (y : mM) : MethodName := y.1
def mB (y : mM) : ByteArray := y.2.1
def mL (y : mM) : Nat := y.2.2.1
def mT (y : mM) : Option FieldType := y.2.2.2.1
def mHH (y : mM) : List (Nat × Nat × Nat × Nat) := y.2.2.2.2.1
def mFr (y : mM) : Nat := y.2.2.2.2.2.1
def mLo (y : mM) : Nat := y.2.2.2.2.2.2
def mTBL : List Cond := lw_tbl.filter goodWord
theorem mTBL_of {w : Cond} (h : w ∈ lw_tbl) (g : goodWord w = true) : w ∈ mTBL := List.mem_filter.mpr ⟨h, g⟩
/-- the words of a method (without a table of its own; with one) -/
def mWs (y : mM) : List Cond := .code (mN y) (mB y) (mL y) (mT y) :: mTBL
def mWh (y : mM) : List Cond := .codeWith (mN y) (mB y) (mL y) (mT y) (mHH y) :: mTBL
def mRm (y : mM) (k : Nat) : Room := { frames := mFr y, cells := k, slots := 6 * k, locals := mLo y }
def mTy (tA : Nat → ClassId) : List (ClassId × FieldType) := [(tA 0, .int), (tA 1, .long), (tA 2, .char), (tA 3, .boolean)]
def mSt (E : mEnv) (A : Nat → Prop) (U : State) (H : Heap) : Prop :=
  va_K E.2.1 vwCl (mTy E.2.2.1) U ∧ (∀ q ∈ mNest, va_Nw (.methodLinkNest q.1 q.2.1 q.2.2.1 q.2.2.2) U) ∧ (∀ q ∈ mStrs, vk_R q.1 q.2.1 q.2.2 (E.2.2.2.1 q.1 q.2.1) U) ∧ (∀ q ∈ mNcs, va_Nc q.1 q.2 U) ∧ (∀ q ∈ mDecs, va_Nw (.declares q) U) ∧ (∀ q ∈ mCas, va_Nw (.castable q.1 q.2) U) ∧
  vx_Zq Bundle.tN "UNASSIGNED_STACK" Bundle.steD A U H ∧ vx_Zq Bundle.tN "SUPPRESSED_SENTINEL" Bundle.listD A U H ∧
  (∀ q ∈ mSC, vk_S 1 [q.2.2.2.length] [q.2.2.2] (fun _ => E.2.2.2.1 q.1 q.2.1) (fun _ => E.2.2.2.2 q.1 q.2.1) A U H) ∧ va_Z "java/lang/String" "COMPACT_STRINGS" "Z" (.int 1) A U H
theorem mNw_moved {w : Cond} {u U : State} (hw : w.onTables = true) (he : w.before #[] (u.setVm U.vm) = w.before #[] u) (h : va_Nw w u) : va_Nw w U := va_tabs hw (rfl : (u.setVm U.vm).vm = U.vm) (he.trans h)
theorem mSt.moved {E : mEnv} {A B : Nat → Prop} {u U : State} {H H1 : Heap} (hW : u.WarmedH U.vm) (h : mSt E A u H) (hq' : ∀ a : Nat, a < H.size → ¬ A a → H1[a]? = H[a]?) (hAB : ∀ q, B q → A q) : mSt E B U H1 := by
  obtain ⟨h1, h2, h3, h4, h5, h6, h7, h8, h9, h10⟩ := h
  refine ⟨va_K.moved hW.alike h1, fun q hq => va_Nw.warmM hW (h2 q hq), fun q hq => vk_R.warm hW (h3 q hq), fun q hq => va_Nc.moved hW.alike (h4 q hq), fun q hq => va_Nw.warmD hW (h5 q hq), fun q hq => mNw_moved rfl (Cond.castable_setVm hW.alike _ _) (h6 q hq), ?_, ?_, fun q hq => vk_S.narrow (vk_S.kept (vk_S.moved hW.alike (h9 q hq)) hq') hAB, va_Z.narrow (va_Z.kept (va_Z.moved hW.alike h10) hq') hAB⟩
  · exact vx_Zq.narrow (vx_Zq.kept (vx_Zq.moved hW.alike h7) hq') hAB
  · exact vx_Zq.narrow (vx_Zq.kept (vx_Zq.moved hW.alike h8) hq') hAB
theorem mSt.blind {E : mEnv} {A : Nat → Prop} {U : State} (g : JFrame) (mk : MethodId) (a : Array Value) (h : mSt E A U U.heap) : mSt E A (U.calling g mk a) (U.calling g mk a).heap := by
  obtain ⟨h1, h2, h3, h4, h5, h6, h7, h8, h9, h10⟩ := h
  exact ⟨va_K.moved (Vm.Alike.refl U.vm) h1, fun q hq => va_Nw.same rfl rfl (h2 q hq), fun q hq => vk_R.same rfl (h3 q hq), fun q hq => va_Nc.moved (Vm.Alike.refl U.vm) (h4 q hq), fun q hq => va_Nw.same rfl rfl (h5 q hq), fun q hq => va_Nw.same rfl rfl (h6 q hq), vx_Zq.moved (Vm.Alike.refl U.vm) h7, vx_Zq.moved (Vm.Alike.refl U.vm) h8, fun q hq => vk_S.moved (Vm.Alike.refl U.vm) (h9 q hq), va_Z.moved (Vm.Alike.refl U.vm) h10⟩
/-- a state of the plain machine: the place, locals, stack, world; where a road may end: at a state, with an answer, with a throw -/
abbrev mS : Type := Nat × List (Option Value) × List Value × mW
abbrev mG : Type := mS ⊕ (Option Value × mW) ⊕ (String × mW)
def mRet (i : Instr) (r : Option FieldType) (v : Option Value) : Prop :=
  (i = .ireturn ∧ ∃ ty x, r = some ty ∧ v = some (.int x) ∧ narrow ty (.int x) = .int x) ∨ (i = .lreturn ∧ r = some .long ∧ ∃ x, v = some (.long x)) ∨ (i = .return_ ∧ r = none ∧ v = none)
/-- 'throw new X("text")' stands at pc -/
def mThr (y : mM) (pc : Nat) (X : String) : Prop := ∃ (ik is ic : Nat) (text : String) (names : List String),
  ((decode (mB y) pc = .ok (.new ik, 3) ∧ decode (mB y) (pc + 3) = .ok (.dup, 1) ∧ decode (mB y) (pc + 4) = .ok (.ldc is, 2) ∧ decode (mB y) (pc + 6) = .ok (.invokespecial ic, 3) ∧ decode (mB y) (pc + 9) = .ok (.athrow, 1)) ∨
    (decode (mB y) pc = .ok (.new ik, 3) ∧ decode (mB y) (pc + 3) = .ok (.dup, 1) ∧ decode (mB y) (pc + 4) = .ok (.ldc_w is, 3) ∧ decode (mB y) (pc + 7) = .ok (.invokespecial ic, 3) ∧ decode (mB y) (pc + 10) = .ok (.athrow, 1))) ∧
  Bundle.fit X = true ∧ (∀ n ∈ names, Bundle.fit n = true) ∧ Cond.classLink (mN y).cls ik X ∈ mTBL ∧ Cond.initialized X ∈ mTBL ∧ ((mN y).cls, is, text) ∈ mStrs ∧
  (∀ w ∈ (vx_atS (mN y).cls ic X names).filter goodWord, w ∈ mTBL) ∧ (∀ w ∈ (vx_atS (mN y).cls ic X names).filter (fun w => !goodWord w), (∃ q ∈ mDecs, w = .declares q) ∨ (∃ q ∈ mCas, w = .castable q.1 q.2)) ∧
  (∀ w ∈ Cond.classLink (mN y).cls ik X :: Cond.initialized X :: vx_atS (mN y).cls ic X names, vx_ot w = true) ∧ names.length + 3 < mFr y ∧ 8 + (13 * (names.length + 1) + 43) ≤ mLo y
def mCx (E : mEnv) (y : mM) (ad : Nat → Nat) (p : Program) (R : Room) (s : State) (m : MethodId) (args : Array Value) (meth : Method) (c : Code) (A : Nat → Prop) : Prop :=
  p.tables.exec = Jvm.exec ∧ c.code = mB y ∧ meth.sig.returnType = mT y ∧ c.maxLocals = mL y ∧ s.vm.findClass (mN y).cls = some m.cls ∧ (∀ w ∈ mTBL, w.before args s = true) ∧ meth.locks = false ∧ mFr y ≤ R.frames ∧ mLo y ≤ R.locals ∧ (∀ q : Nat, s.heap.size ≤ q → A q) ∧ mSt E A s s.heap ∧ E.1.stackTraces = false ∧ mAd E ad ∧ (mHH y ≠ [] → c.exceptionTable.toList = tableOf (mHH y))
def mWd (E : mEnv) (ad : Nat → Nat) (s : State) (A : Nat → Prop) (w : mW) (H : Heap) (locs : List Loc) : Prop :=
  va_P E.2.1 vwCl (mcW E.2.2.1 ad w) H ∧ va_D A (mcW E.2.2.1 ad w) ∧ va_S A s.heap H locs
def mAt (E : mEnv) (y : mM) (ad : Nat → Nat) (p : Program) (e : Env) (R : Room) (s : State) (m : MethodId) (args : Array Value) (below : List Frame) (meth : Method) (c : Code) (A : Nat → Prop) (S : mS) (cells slots : Nat) (QQ : State → Prop) : Prop :=
  ∀ (H : Heap) (locs : List Loc) (ls : Array Slot), mWd E ad s A S.2.2.2 H locs → mLs ad (mL y) ls S.2.1 → W p E.1 e R s m args below meth c H locs cells slots QQ (F0 m S.1 ls (S.2.2.1.map (mcV ad)))
def mTo (E : mEnv) (y : mM) (ad : Nat → Nat) (p : Program) (e : Env) (R : Room) (s : State) (m : MethodId) (args : Array Value) (below : List Frame) (meth : Method) (c : Code) (A : Nat → Prop) (G : mG) (cells slots : Nat) (QQ : State → Prop) : Prop := match G with
  | .inl S => mAt E y ad p e R s m args below meth c A S cells slots QQ
  | .inr (.inl (v, w)) => ∀ (H : Heap) (locs : List Loc) (ls : Array Slot) (pc : Nat) (i : Instr), mWd E ad s A w H locs → decode (mB y) pc = .ok (i, 1) → mRet i (mT y) v → W p E.1 e R s m args below meth c H locs cells slots QQ (F0 m pc ls (v.toList.map (mcV ad)))
  | .inr (.inr (X, w)) => (∀ (H : Heap) (locs : List Loc) (ls : Array Slot) (pc : Nat) (st : List Value) (c1 s1 : Nat), mWd E ad s A w H locs → ls.size = mL y → mThr y pc X → (st.map fun v => v.category).sum ≤ 8 → c1 + 1 ≤ cells → s1 + 6 ≤ slots → W p E.1 e R s m args below meth c H locs c1 s1 QQ (F0 m pc ls st)) ∧
      (∀ (H : Heap) (locs : List Loc) (ls : Array Slot) (pc : Nat) (st : List Value) (q : Addr) (ce : Cell), mWd E ad s A w H locs → H[q]? = some ce → ce.vm = .none → s.vm.findClass X = some ce.cls → vx_W p E.1 e R s m args below meth c H locs cells slots QQ (F0 m pc ls st) q)
/-- from S the body of y comes to G, making at most n exceptions on the way -/
def Go (E : mEnv) (y : mM) (n : Nat) (S : mS) (G : mG) : Prop := ∀ (ad : Nat → Nat) (p : Program) (e : Env) (R : Room) (s : State) (m : MethodId) (args : Array Value) (below : List Frame) (meth : Method) (c : Code) (A : Nat → Prop), mCx E y ad p R s m args meth c A → ∀ (cells slots : Nat) (QQ : State → Prop), cells + n ≤ R.cells → slots + 6 * n ≤ R.slots → mTo E y ad p e R s m args below meth c A G (cells + n) (slots + 6 * n) QQ → mAt E y ad p e R s m args below meth c A S cells slots QQ
def mPre (E : mEnv) (ad : Nat → Nat) (w : mW) (sz : Nat) : State → Prop := fun U => U.heap.size = sz ∧ va_P E.2.1 vwCl (mcW E.2.2.1 ad w) U.heap ∧ va_D (fun _ => True) (mcW E.2.2.1 ad w) ∧ mSt E (va_A (mcW E.2.2.1 ad w) sz) U U.heap ∧ mAd E ad
def mQv (E : mEnv) (ad : Nat → Nat) (w : mW) (sz : Nat) (v : Option Value) (w' : mW) : Array Value → State → Outcome → State → Prop := fun _ st o t => o = .returned (v.map (mcV ad)) ∧ va_P E.2.1 vwCl (mcW E.2.2.1 ad w') t.heap ∧ va_D (va_A (mcW E.2.2.1 ad w) sz) (mcW E.2.2.1 ad w') ∧ va_F (va_A (mcW E.2.2.1 ad w) sz) st t
def mXc (E : mEnv) (ad : Nat → Nat) (w : mW) (sz : Nat) (X : String) (w' : mW) : String → State → State → Prop := fun Y st t => Y = X ∧ va_P E.2.1 vwCl (mcW E.2.2.1 ad w') t.heap ∧ va_D (va_A (mcW E.2.2.1 ad w) sz) (mcW E.2.2.1 ad w') ∧ va_F (va_A (mcW E.2.2.1 ad w) sz) st t
/-- the method y on the arguments As in the world w answers v and leaves w', making at most n exceptions; Rh: a method with a table of its own -/
def Rt (E : mEnv) (y : mM) (n : Nat) (As : List Value) (w : mW) (v : Option Value) (w' : mW) : Prop := ∀ (ad : Nat → Nat) (sz : Nat), Met E.1 (mN y) (mWs y) (mRm y n) (va_Pc (As.map (mcV ad)) (mPre E ad w sz)) (mQv E ad w sz v w') n (6 * n) (va_A (mcW E.2.2.1 ad w) sz)
def Rh (E : mEnv) (y : mM) (n : Nat) (As : List Value) (w : mW) (v : Option Value) (w' : mW) : Prop := ∀ (ad : Nat → Nat) (sz : Nat), Met E.1 (mN y) (mWh y) (mRm y n) (va_Pc (As.map (mcV ad)) (mPre E ad w sz)) (mQv E ad w sz v w') n (6 * n) (va_A (mcW E.2.2.1 ad w) sz)
/-- .. it throws an X, leaving w' -/
def Rx (E : mEnv) (y : mM) (As : List Value) (w : mW) (X : String) (w' : mW) : Prop := ∀ (ad : Nat → Nat) (sz : Nat), vx_Met E.1 (mN y) (mWs y) (mRm y 1) (va_Pc (As.map (mcV ad)) (mPre E ad w sz)) (fun _ _ _ _ => False) (mXc E ad w sz X w') 1 6 (va_A (mcW E.2.2.1 ad w) sz)
theorem mPre.blind {E : mEnv} {ad : Nat → Nat} {w : mW} {sz : Nat} {av : List Value} : FrameBlind (va_Pc av (mPre E ad w sz)) := fun a U g mk h => ⟨h.1, h.2.1, h.2.2.1, h.2.2.2.1, h.2.2.2.2.1.blind g mk a, h.2.2.2.2.2⟩
/-- the call's start, out of the caller's state -/
theorem mPre.of {E : mEnv} {ad : Nat → Nat} {y : mM} {p : Program} {R : Room} {s : State} {m : MethodId} {args : Array Value} {meth : Method} {c : Code} {A : Nat → Prop} {w : mW} {H : Heap} {locs : List Loc} (C : mCx E y ad p R s m args meth c A) (hw : mWd E ad s A w H locs) {U : State} (hU : U.heap = H) (hW : s.WarmedH U.vm) : mPre E ad w H.size U := by
  obtain ⟨hP, hD, hS⟩ := hw
  obtain ⟨-, -, -, -, -, -, -, -, -, hA, hst, -, had, -⟩ := C
  have hF : ∀ q, va_A (mcW E.2.2.1 ad w) H.size q → A q := fun q h => by
    rcases h with ⟨k, e, h⟩ | h
    · exact hD.2 k (q, e) h
    · exact hA q (Nat.le_trans hS.1 h)
  refine ⟨by rw [hU], by rw [hU]; exact hP, hD.weaken (fun _ _ _ _ => trivial), ?_, had⟩
  rw [hU]
  exact hst.moved hW (fun a h1 h2 => hS.2.1 a h1 h2) hF
theorem mWd.free {E : mEnv} {ad : Nat → Nat} {s : State} {A : Nat → Prop} {w : mW} {H : Heap} {locs : List Loc} (hA : ∀ q : Nat, s.heap.size ≤ q → A q) (hw : mWd E ad s A w H locs) : ∀ q, va_A (mcW E.2.2.1 ad w) H.size q → A q := fun q h => by
  rcases h with ⟨k, e, h⟩ | h
  · exact hw.2.1.2 k (q, e) h
  · exact hA q (Nat.le_trans hw.2.2.1 h)
theorem mRm_room {y : mM} {n : Nat} {ws : List Cond} : (headSpec ws (mRm y n)).room = mRm y n := rfl
/-- a body that answers -/
theorem Rt.of {E : mEnv} {y : mM} {n : Nat} {As : List Value} {w w' : mW} {v : Option Value} (hl : E.1.stackTraces = false) (h0 : mHH y = []) (hy : plainName (mN y).cls = true) (he : (mEnt As).length ≤ mL y) (h : Go E y n (0, mEnd As (mL y), [], w) (.inr (.inl (v, w')))) : Rt E y n As w v w' := by
  intro ad sz
  refine Met.ofW (cc := mB y) (maxL := mL y) (ret := mT y) hy rfl ?_
  intro p e s m args below meth c s₁ B hml hv
  obtain ⟨rfl, hsz, hP, hD0, hst, had⟩ := hv
  have hts := atoms_spec (ws := mWs y) B.pre
  have hown : s.vm.findClass (mN y).cls = some m.cls := findClass_of_methodNamed B.named
  have hlocks := B.notSynchronized
  subst hsz
  have hD := hD0.self (sz := s.heap.size)
  rw [lg_entry_eq]
  have C : mCx E y ad p (mRm y n) s m (As.map (mcV ad)).toArray meth c (va_A (mcW E.2.2.1 ad w) s.heap.size) := ⟨B.exec, B.bytes, B.returns, hml, hown, fun w h => hts w (List.mem_cons_of_mem _ h), hlocks, Nat.le_refl _, Nat.le_refl _, fun q hq => Or.inr hq, hst, hl, had, fun h => absurd h0 h⟩
  refine h ad p e (mRm y n) s m _ below meth c (va_A (mcW E.2.2.1 ad w) s.heap.size) C 0 0 _ (by show 0 + n ≤ n; omega) (by show 0 + 6 * n ≤ 6 * n; omega) ?_ s.heap [] _ ⟨hP, hD, va_S.rf⟩ (mEnd_ls ad As he)
  intro H locs ls pc i hw hd hr
  rw [Nat.zero_add, Nat.zero_add]
  obtain ⟨qP, qD, qS⟩ := hw
  have fin : ∀ (t : State) (o : Outcome), t.heap = H → o = .returned (v.map (mcV ad)) → mQv E ad w s.heap.size v w' (As.map (mcV ad)).toArray s o t := fun t o ht ho => ⟨ho, by rw [ht]; exact qP, qD, qS.F ht⟩
  rcases hr with ⟨rfl, ty, x, h1, rfl, h3⟩ | ⟨rfl, h1, x, rfl⟩ | ⟨rfl, h1, rfl⟩
  · exact W.zret B.exec B.bytes (B.returns.trans h1) h3 (fun t ht _ => fin t _ ht rfl) qS.2.2 hd hlocks
  · exact W.lret B.exec B.bytes (B.returns.trans h1) (fun t ht _ => fin t _ ht rfl) qS.2.2 hd hlocks
  · exact W.vret B.exec B.bytes (B.returns.trans h1) (fun t ht _ => fin t _ ht rfl) qS.2.2 hd hlocks
end
section
theorem g_iconst {E : mEnv} {y : mM} {n pc : Nat} {L : List (Option Value)} {st : List Value} {w : mW} {G : mG} {i : Int} {v : Int32} (d : decode (mB y) pc = .ok (.iconst i, 1)) (hv : Int32.ofInt i = v) (k : Go E y n (pc + 1, L, .int v :: st, w) G) : Go E y n (pc, L, st, w) G := by
  intro ad p e R s m args below meth c A C cells slots QQ hc hs hT H locs ls hw hl
  exact lv_iconst C.1 C.2.1 d hv (k ad p e R s m args below meth c A C cells slots QQ hc hs hT H locs ls hw hl)
theorem g_bipush {E : mEnv} {y : mM} {n pc : Nat} {L : List (Option Value)} {st : List Value} {w : mW} {G : mG} {i : Int} {v : Int32} (d : decode (mB y) pc = .ok (.bipush i, 2)) (hv : (Int8.ofInt i).toInt32 = v) (k : Go E y n (pc + 2, L, .int v :: st, w) G) : Go E y n (pc, L, st, w) G := by
  intro ad p e R s m args below meth c A C cells slots QQ hc hs hT H locs ls hw hl
  exact lv_bipush C.1 C.2.1 d hv (k ad p e R s m args below meth c A C cells slots QQ hc hs hT H locs ls hw hl)
theorem g_sipush {E : mEnv} {y : mM} {n pc : Nat} {L : List (Option Value)} {st : List Value} {w : mW} {G : mG} {i : Int} {v : Int32} (d : decode (mB y) pc = .ok (.sipush i, 3)) (hv : (Int16.ofInt i).toInt32 = v) (k : Go E y n (pc + 3, L, .int v :: st, w) G) : Go E y n (pc, L, st, w) G := by
  intro ad p e R s m args below meth c A C cells slots QQ hc hs hT H locs ls hw hl
  exact lv_sipush C.1 C.2.1 d hv (k ad p e R s m args below meth c A C cells slots QQ hc hs hT H locs ls hw hl)
theorem g_lconst {E : mEnv} {y : mM} {n pc : Nat} {L : List (Option Value)} {st : List Value} {w : mW} {G : mG} {i : Fin 2} {v : Int64} (d : decode (mB y) pc = .ok (.lconst i, 1)) (hv : Int64.ofNat (i : Nat) = v) (k : Go E y n (pc + 1, L, .long v :: st, w) G) : Go E y n (pc, L, st, w) G := by
  intro ad p e R s m args below meth c A C cells slots QQ hc hs hT H locs ls hw hl
  exact lv_lconst C.1 C.2.1 d hv (k ad p e R s m args below meth c A C cells slots QQ hc hs hT H locs ls hw hl)
theorem g_iload_n {E : mEnv} {y : mM} {n pc : Nat} {L : List (Option Value)} {st : List Value} {w : mW} {G : mG} {i : Fin 4} {x : Int32} (d : decode (mB y) pc = .ok (.iload_n i, 1)) (hk : L[(i : Nat)]? = some (some (.int x))) (k : Go E y n (pc + 1, L, .int x :: st, w) G) : Go E y n (pc, L, st, w) G := by
  intro ad p e R s m args below meth c A C cells slots QQ hc hs hT H locs ls hw hl
  exact lv_iload_n C.1 C.2.1 d rfl (hl.2.2.2 _ _ hk) (k ad p e R s m args below meth c A C cells slots QQ hc hs hT H locs ls hw hl)
theorem g_iload {E : mEnv} {y : mM} {n pc : Nat} {L : List (Option Value)} {st : List Value} {w : mW} {G : mG} {i : Nat} {x : Int32} (d : decode (mB y) pc = .ok (.iload i, 2)) (hk : L[i]? = some (some (.int x))) (k : Go E y n (pc + 2, L, .int x :: st, w) G) : Go E y n (pc, L, st, w) G := by
  intro ad p e R s m args below meth c A C cells slots QQ hc hs hT H locs ls hw hl
  exact lv_iload C.1 C.2.1 d (hl.2.2.2 _ _ hk) (k ad p e R s m args below meth c A C cells slots QQ hc hs hT H locs ls hw hl)
theorem g_lload_n {E : mEnv} {y : mM} {n pc : Nat} {L : List (Option Value)} {st : List Value} {w : mW} {G : mG} {i : Fin 4} {x : Int64} (d : decode (mB y) pc = .ok (.lload_n i, 1)) (hk : L[(i : Nat)]? = some (some (.long x))) (k : Go E y n (pc + 1, L, .long x :: st, w) G) : Go E y n (pc, L, st, w) G := by
  intro ad p e R s m args below meth c A C cells slots QQ hc hs hT H locs ls hw hl
  exact lv_lload_n C.1 C.2.1 d rfl (hl.2.2.2 _ _ hk) (k ad p e R s m args below meth c A C cells slots QQ hc hs hT H locs ls hw hl)
theorem g_lload {E : mEnv} {y : mM} {n pc : Nat} {L : List (Option Value)} {st : List Value} {w : mW} {G : mG} {i : Nat} {x : Int64} (d : decode (mB y) pc = .ok (.lload i, 2)) (hk : L[i]? = some (some (.long x))) (k : Go E y n (pc + 2, L, .long x :: st, w) G) : Go E y n (pc, L, st, w) G := by
  intro ad p e R s m args below meth c A C cells slots QQ hc hs hT H locs ls hw hl
  exact lv_lload C.1 C.2.1 d (hl.2.2.2 _ _ hk) (k ad p e R s m args below meth c A C cells slots QQ hc hs hT H locs ls hw hl)
theorem g_aload_n {E : mEnv} {y : mM} {n pc : Nat} {L : List (Option Value)} {st : List Value} {w : mW} {G : mG} {i : Fin 4} {x : Nat} (d : decode (mB y) pc = .ok (.aload_n i, 1)) (hk : L[(i : Nat)]? = some (some (.ref x))) (k : Go E y n (pc + 1, L, .ref x :: st, w) G) : Go E y n (pc, L, st, w) G := by
  intro ad p e R s m args below meth c A C cells slots QQ hc hs hT H locs ls hw hl
  exact lv_aload_n C.1 C.2.1 d rfl (hl.2.2.2 _ _ hk) (k ad p e R s m args below meth c A C cells slots QQ hc hs hT H locs ls hw hl)
theorem g_aload {E : mEnv} {y : mM} {n pc : Nat} {L : List (Option Value)} {st : List Value} {w : mW} {G : mG} {i : Nat} {x : Nat} (d : decode (mB y) pc = .ok (.aload i, 2)) (hk : L[i]? = some (some (.ref x))) (k : Go E y n (pc + 2, L, .ref x :: st, w) G) : Go E y n (pc, L, st, w) G := by
  intro ad p e R s m args below meth c A C cells slots QQ hc hs hT H locs ls hw hl
  exact lv_aload C.1 C.2.1 d (hl.2.2.2 _ _ hk) (k ad p e R s m args below meth c A C cells slots QQ hc hs hT H locs ls hw hl)
theorem g_istore_n {E : mEnv} {y : mM} {n pc : Nat} {L : List (Option Value)} {st : List Value} {w : mW} {G : mG} {i : Fin 4} {x : Int32} {L' : List (Option Value)} (d : decode (mB y) pc = .ok (.istore_n i, 1)) (hn : Nat.ble ((i : Nat) + 1) L.length = true) (h' : mst L (i : Nat) (.int x) = L') (k : Go E y n (pc + 1, L', st, w) G) : Go E y n (pc, L, .int x :: st, w) G := by
  intro ad p e R s m args below meth c A C cells slots QQ hc hs hT H locs ls hw hl
  subst h'
  exact lv_istore_n (lv := mLv ad L) C.1 C.2.1 d rfl hl.has (by have := Nat.le_of_ble_eq_true hn; have : L.length = mL y := hl.2.2.1; omega) rfl (fun ls' h => k ad p e R s m args below meth c A C cells slots QQ hc hs hT H locs ls' hw (hl.store1 rfl h))
theorem g_istore {E : mEnv} {y : mM} {n pc : Nat} {L : List (Option Value)} {st : List Value} {w : mW} {G : mG} {i : Nat} {x : Int32} {L' : List (Option Value)} (d : decode (mB y) pc = .ok (.istore i, 2)) (hn : Nat.ble (i + 1) L.length = true) (h' : mst L i (.int x) = L') (k : Go E y n (pc + 2, L', st, w) G) : Go E y n (pc, L, .int x :: st, w) G := by
  intro ad p e R s m args below meth c A C cells slots QQ hc hs hT H locs ls hw hl
  subst h'
  exact lv_istore (lv := mLv ad L) C.1 C.2.1 d hl.has (by have := Nat.le_of_ble_eq_true hn; have : L.length = mL y := hl.2.2.1; omega) rfl (fun ls' h => k ad p e R s m args below meth c A C cells slots QQ hc hs hT H locs ls' hw (hl.store1 rfl h))
theorem g_astore_n {E : mEnv} {y : mM} {n pc : Nat} {L : List (Option Value)} {st : List Value} {w : mW} {G : mG} {i : Fin 4} {x : Nat} {L' : List (Option Value)} (d : decode (mB y) pc = .ok (.astore_n i, 1)) (hn : Nat.ble ((i : Nat) + 1) L.length = true) (h' : mst L (i : Nat) (.ref x) = L') (k : Go E y n (pc + 1, L', st, w) G) : Go E y n (pc, L, .ref x :: st, w) G := by
  intro ad p e R s m args below meth c A C cells slots QQ hc hs hT H locs ls hw hl
  subst h'
  exact lv_astore_n (lv := mLv ad L) C.1 C.2.1 d rfl hl.has (by have := Nat.le_of_ble_eq_true hn; have : L.length = mL y := hl.2.2.1; omega) rfl (fun ls' h => k ad p e R s m args below meth c A C cells slots QQ hc hs hT H locs ls' hw (hl.store1 rfl h))
theorem g_astore {E : mEnv} {y : mM} {n pc : Nat} {L : List (Option Value)} {st : List Value} {w : mW} {G : mG} {i : Nat} {x : Nat} {L' : List (Option Value)} (d : decode (mB y) pc = .ok (.astore i, 2)) (hn : Nat.ble (i + 1) L.length = true) (h' : mst L i (.ref x) = L') (k : Go E y n (pc + 2, L', st, w) G) : Go E y n (pc, L, .ref x :: st, w) G := by
  intro ad p e R s m args below meth c A C cells slots QQ hc hs hT H locs ls hw hl
  subst h'
  exact lv_astore (lv := mLv ad L) C.1 C.2.1 d hl.has (by have := Nat.le_of_ble_eq_true hn; have : L.length = mL y := hl.2.2.1; omega) rfl (fun ls' h => k ad p e R s m args below meth c A C cells slots QQ hc hs hT H locs ls' hw (hl.store1 rfl h))
theorem g_lstore_n {E : mEnv} {y : mM} {n pc : Nat} {L : List (Option Value)} {st : List Value} {w : mW} {G : mG} {i : Fin 4} {x : Int64} {L' : List (Option Value)} (d : decode (mB y) pc = .ok (.lstore_n i, 1)) (hn : Nat.ble ((i : Nat) + 2) L.length = true) (h' : mst L (i : Nat) (.long x) = L') (k : Go E y n (pc + 1, L', st, w) G) : Go E y n (pc, L, .long x :: st, w) G := by
  intro ad p e R s m args below meth c A C cells slots QQ hc hs hT H locs ls hw hl
  subst h'
  exact lv_lstore_n (lv := mLv ad L) C.1 C.2.1 d rfl hl.has (by have := Nat.le_of_ble_eq_true hn; have : L.length = mL y := hl.2.2.1; omega) rfl (fun ls' h => k ad p e R s m args below meth c A C cells slots QQ hc hs hT H locs ls' hw (hl.store2 rfl h))
theorem g_lstore {E : mEnv} {y : mM} {n pc : Nat} {L : List (Option Value)} {st : List Value} {w : mW} {G : mG} {i : Nat} {x : Int64} {L' : List (Option Value)} (d : decode (mB y) pc = .ok (.lstore i, 2)) (hn : Nat.ble (i + 2) L.length = true) (h' : mst L i (.long x) = L') (k : Go E y n (pc + 2, L', st, w) G) : Go E y n (pc, L, .long x :: st, w) G := by
  intro ad p e R s m args below meth c A C cells slots QQ hc hs hT H locs ls hw hl
  subst h'
  exact lv_lstore (lv := mLv ad L) C.1 C.2.1 d hl.has (by have := Nat.le_of_ble_eq_true hn; have : L.length = mL y := hl.2.2.1; omega) rfl (fun ls' h => k ad p e R s m args below meth c A C cells slots QQ hc hs hT H locs ls' hw (hl.store2 rfl h))
theorem lv_has.mono {ls : Array Slot} {nL : Nat} {l1 l2 : List (Nat × Value)} (h : lv_has ls nL l1) (hs : ∀ q ∈ l2, q ∈ l1) : lv_has ls nL l2 := ⟨h.1, h.2.1, fun q hq => h.2.2 q (hs q hq)⟩
theorem g_iinc {E : mEnv} {y : mM} {n pc : Nat} {L : List (Option Value)} {st : List Value} {w : mW} {G : mG} {i : Nat} {z : Int} {x v : Int32} {L' : List (Option Value)} (d : decode (mB y) pc = .ok (.iinc i z, 3)) (hk : L[i]? = some (some (.int x))) (hv : x + Int32.ofInt z = v) (h' : mst L i (.int v) = L') (k : Go E y n (pc + 3, L', st, w) G) : Go E y n (pc, L, st, w) G := by
  intro ad p e R s m args below meth c A C cells slots QQ hc hs hT H locs ls hw hl
  subst h'
  have hi : i < mL y := by have := (List.getElem?_eq_some_iff.mp hk).1; have : L.length = mL y := hl.2.2.1; omega
  have h0 : lv_has ls (mL y) ((i, .int x) :: mLv ad L) := ⟨hl.1, hl.2.1, fun q hq => by
    rcases List.mem_cons.mp hq with rfl | hq
    · exact hl.2.2.2 _ _ hk
    · exact hl.has.2.2 q hq⟩
  refine lv_iinc (lv := (i, .int x) :: mLv ad L) (k := 0) C.1 C.2.1 d h0 rfl hv hi rfl (fun ls' h => k ad p e R s m args below meth c A C cells slots QQ hc hs hT H locs ls' hw (hl.store1 (v := .int v) rfl (h.mono fun q hq => ?_)))
  rcases List.mem_cons.mp hq with rfl | hq
  · exact List.mem_cons_self
  · refine List.mem_cons_of_mem _ ?_
    obtain ⟨q1, q2⟩ := List.mem_filter.mp hq
    exact List.mem_filter.mpr ⟨List.mem_cons_of_mem _ q1, q2⟩
theorem g_iadd {E : mEnv} {y : mM} {n pc : Nat} {L : List (Option Value)} {st : List Value} {w : mW} {G : mG} {a b : Int32} (d : decode (mB y) pc = .ok (.iadd, 1)) (k : Go E y n (pc + 1, L, .int (a + b) :: st, w) G) : Go E y n (pc, L, .int b :: .int a :: st, w) G := by
  intro ad p e R s m args below meth c A C cells slots QQ hc hs hT H locs ls hw hl
  exact lv_iadd C.1 C.2.1 d (k ad p e R s m args below meth c A C cells slots QQ hc hs hT H locs ls hw hl)
theorem g_isub {E : mEnv} {y : mM} {n pc : Nat} {L : List (Option Value)} {st : List Value} {w : mW} {G : mG} {a b : Int32} (d : decode (mB y) pc = .ok (.isub, 1)) (k : Go E y n (pc + 1, L, .int (a - b) :: st, w) G) : Go E y n (pc, L, .int b :: .int a :: st, w) G := by
  intro ad p e R s m args below meth c A C cells slots QQ hc hs hT H locs ls hw hl
  exact lv_isub C.1 C.2.1 d (k ad p e R s m args below meth c A C cells slots QQ hc hs hT H locs ls hw hl)
theorem g_imul {E : mEnv} {y : mM} {n pc : Nat} {L : List (Option Value)} {st : List Value} {w : mW} {G : mG} {a b : Int32} (d : decode (mB y) pc = .ok (.imul, 1)) (k : Go E y n (pc + 1, L, .int (a * b) :: st, w) G) : Go E y n (pc, L, .int b :: .int a :: st, w) G := by
  intro ad p e R s m args below meth c A C cells slots QQ hc hs hT H locs ls hw hl
  exact lv_imul C.1 C.2.1 d (k ad p e R s m args below meth c A C cells slots QQ hc hs hT H locs ls hw hl)
theorem g_iand {E : mEnv} {y : mM} {n pc : Nat} {L : List (Option Value)} {st : List Value} {w : mW} {G : mG} {a b : Int32} (d : decode (mB y) pc = .ok (.iand, 1)) (k : Go E y n (pc + 1, L, .int (a &&& b) :: st, w) G) : Go E y n (pc, L, .int b :: .int a :: st, w) G := by
  intro ad p e R s m args below meth c A C cells slots QQ hc hs hT H locs ls hw hl
  exact lv_iand C.1 C.2.1 d (k ad p e R s m args below meth c A C cells slots QQ hc hs hT H locs ls hw hl)
theorem g_ior {E : mEnv} {y : mM} {n pc : Nat} {L : List (Option Value)} {st : List Value} {w : mW} {G : mG} {a b : Int32} (d : decode (mB y) pc = .ok (.ior, 1)) (k : Go E y n (pc + 1, L, .int (a ||| b) :: st, w) G) : Go E y n (pc, L, .int b :: .int a :: st, w) G := by
  intro ad p e R s m args below meth c A C cells slots QQ hc hs hT H locs ls hw hl
  exact lv_ior C.1 C.2.1 d (k ad p e R s m args below meth c A C cells slots QQ hc hs hT H locs ls hw hl)
theorem g_ixor {E : mEnv} {y : mM} {n pc : Nat} {L : List (Option Value)} {st : List Value} {w : mW} {G : mG} {a b : Int32} (d : decode (mB y) pc = .ok (.ixor, 1)) (k : Go E y n (pc + 1, L, .int (a ^^^ b) :: st, w) G) : Go E y n (pc, L, .int b :: .int a :: st, w) G := by
  intro ad p e R s m args below meth c A C cells slots QQ hc hs hT H locs ls hw hl
  exact lv_ixor C.1 C.2.1 d (k ad p e R s m args below meth c A C cells slots QQ hc hs hT H locs ls hw hl)
theorem g_ladd {E : mEnv} {y : mM} {n pc : Nat} {L : List (Option Value)} {st : List Value} {w : mW} {G : mG} {a b : Int64} (d : decode (mB y) pc = .ok (.ladd, 1)) (k : Go E y n (pc + 1, L, .long (a + b) :: st, w) G) : Go E y n (pc, L, .long b :: .long a :: st, w) G := by
  intro ad p e R s m args below meth c A C cells slots QQ hc hs hT H locs ls hw hl
  exact lv_ladd C.1 C.2.1 d (k ad p e R s m args below meth c A C cells slots QQ hc hs hT H locs ls hw hl)
theorem g_lsub {E : mEnv} {y : mM} {n pc : Nat} {L : List (Option Value)} {st : List Value} {w : mW} {G : mG} {a b : Int64} (d : decode (mB y) pc = .ok (.lsub, 1)) (k : Go E y n (pc + 1, L, .long (a - b) :: st, w) G) : Go E y n (pc, L, .long b :: .long a :: st, w) G := by
  intro ad p e R s m args below meth c A C cells slots QQ hc hs hT H locs ls hw hl
  exact lv_lsub C.1 C.2.1 d (k ad p e R s m args below meth c A C cells slots QQ hc hs hT H locs ls hw hl)
theorem g_lmul {E : mEnv} {y : mM} {n pc : Nat} {L : List (Option Value)} {st : List Value} {w : mW} {G : mG} {a b : Int64} (d : decode (mB y) pc = .ok (.lmul, 1)) (k : Go E y n (pc + 1, L, .long (a * b) :: st, w) G) : Go E y n (pc, L, .long b :: .long a :: st, w) G := by
  intro ad p e R s m args below meth c A C cells slots QQ hc hs hT H locs ls hw hl
  exact lv_lmul C.1 C.2.1 d (k ad p e R s m args below meth c A C cells slots QQ hc hs hT H locs ls hw hl)
theorem g_land {E : mEnv} {y : mM} {n pc : Nat} {L : List (Option Value)} {st : List Value} {w : mW} {G : mG} {a b : Int64} (d : decode (mB y) pc = .ok (.land, 1)) (k : Go E y n (pc + 1, L, .long (a &&& b) :: st, w) G) : Go E y n (pc, L, .long b :: .long a :: st, w) G := by
  intro ad p e R s m args below meth c A C cells slots QQ hc hs hT H locs ls hw hl
  exact lv_land C.1 C.2.1 d (k ad p e R s m args below meth c A C cells slots QQ hc hs hT H locs ls hw hl)
theorem g_lor {E : mEnv} {y : mM} {n pc : Nat} {L : List (Option Value)} {st : List Value} {w : mW} {G : mG} {a b : Int64} (d : decode (mB y) pc = .ok (.lor, 1)) (k : Go E y n (pc + 1, L, .long (a ||| b) :: st, w) G) : Go E y n (pc, L, .long b :: .long a :: st, w) G := by
  intro ad p e R s m args below meth c A C cells slots QQ hc hs hT H locs ls hw hl
  exact lv_lor C.1 C.2.1 d (k ad p e R s m args below meth c A C cells slots QQ hc hs hT H locs ls hw hl)
theorem g_lxor {E : mEnv} {y : mM} {n pc : Nat} {L : List (Option Value)} {st : List Value} {w : mW} {G : mG} {a b : Int64} (d : decode (mB y) pc = .ok (.lxor, 1)) (k : Go E y n (pc + 1, L, .long (a ^^^ b) :: st, w) G) : Go E y n (pc, L, .long b :: .long a :: st, w) G := by
  intro ad p e R s m args below meth c A C cells slots QQ hc hs hT H locs ls hw hl
  exact lv_lxor C.1 C.2.1 d (k ad p e R s m args below meth c A C cells slots QQ hc hs hT H locs ls hw hl)
theorem g_idiv {E : mEnv} {y : mM} {n pc : Nat} {L : List (Option Value)} {st : List Value} {w : mW} {G : mG} {a b : Int32} (d : decode (mB y) pc = .ok (.idiv, 1)) (hb : ¬ b = 0) (k : Go E y n (pc + 1, L, .int (a / b) :: st, w) G) : Go E y n (pc, L, .int b :: .int a :: st, w) G := by
  intro ad p e R s m args below meth c A C cells slots QQ hc hs hT H locs ls hw hl
  exact lv_idiv C.1 C.2.1 d hb (k ad p e R s m args below meth c A C cells slots QQ hc hs hT H locs ls hw hl)
theorem g_irem {E : mEnv} {y : mM} {n pc : Nat} {L : List (Option Value)} {st : List Value} {w : mW} {G : mG} {a b : Int32} (d : decode (mB y) pc = .ok (.irem, 1)) (hb : ¬ b = 0) (k : Go E y n (pc + 1, L, .int (a - a / b * b) :: st, w) G) : Go E y n (pc, L, .int b :: .int a :: st, w) G := by
  intro ad p e R s m args below meth c A C cells slots QQ hc hs hT H locs ls hw hl
  exact lv_irem C.1 C.2.1 d hb (k ad p e R s m args below meth c A C cells slots QQ hc hs hT H locs ls hw hl)
theorem g_lneg {E : mEnv} {y : mM} {n pc : Nat} {L : List (Option Value)} {st : List Value} {w : mW} {G : mG} {a : Int64} (d : decode (mB y) pc = .ok (.lneg, 1)) (k : Go E y n (pc + 1, L, .long (-a) :: st, w) G) : Go E y n (pc, L, .long a :: st, w) G := by
  intro ad p e R s m args below meth c A C cells slots QQ hc hs hT H locs ls hw hl
  exact lv_lneg C.1 C.2.1 d (k ad p e R s m args below meth c A C cells slots QQ hc hs hT H locs ls hw hl)
theorem g_ineg {E : mEnv} {y : mM} {n pc : Nat} {L : List (Option Value)} {st : List Value} {w : mW} {G : mG} {a : Int32} (d : decode (mB y) pc = .ok (.ineg, 1)) (k : Go E y n (pc + 1, L, .int (-a) :: st, w) G) : Go E y n (pc, L, .int a :: st, w) G := by
  intro ad p e R s m args below meth c A C cells slots QQ hc hs hT H locs ls hw hl
  exact lv_ineg C.1 C.2.1 d (k ad p e R s m args below meth c A C cells slots QQ hc hs hT H locs ls hw hl)
theorem g_ishl {E : mEnv} {y : mM} {n pc : Nat} {L : List (Option Value)} {st : List Value} {w : mW} {G : mG} {a b : Int32} (d : decode (mB y) pc = .ok (.ishl, 1)) (k : Go E y n (pc + 1, L, .int (a <<< (b &&& 31)) :: st, w) G) : Go E y n (pc, L, .int b :: .int a :: st, w) G := by
  intro ad p e R s m args below meth c A C cells slots QQ hc hs hT H locs ls hw hl
  exact lv_ishl C.1 C.2.1 d (k ad p e R s m args below meth c A C cells slots QQ hc hs hT H locs ls hw hl)
theorem g_ishr {E : mEnv} {y : mM} {n pc : Nat} {L : List (Option Value)} {st : List Value} {w : mW} {G : mG} {a b : Int32} (d : decode (mB y) pc = .ok (.ishr, 1)) (k : Go E y n (pc + 1, L, .int (a >>> (b &&& 31)) :: st, w) G) : Go E y n (pc, L, .int b :: .int a :: st, w) G := by
  intro ad p e R s m args below meth c A C cells slots QQ hc hs hT H locs ls hw hl
  exact lv_ishr C.1 C.2.1 d (k ad p e R s m args below meth c A C cells slots QQ hc hs hT H locs ls hw hl)
theorem g_lushr {E : mEnv} {y : mM} {n pc : Nat} {L : List (Option Value)} {st : List Value} {w : mW} {G : mG} {a v : Int64} {b : Int32} (d : decode (mB y) pc = .ok (.lushr, 1)) (hv : (a.toUInt64 >>> (b.toInt64.toUInt64 &&& Int64.toUInt64 63)).toInt64 = v) (k : Go E y n (pc + 1, L, .long v :: st, w) G) : Go E y n (pc, L, .int b :: .long a :: st, w) G := by
  intro ad p e R s m args below meth c A C cells slots QQ hc hs hT H locs ls hw hl
  exact lv_lushr C.1 C.2.1 d hv (k ad p e R s m args below meth c A C cells slots QQ hc hs hT H locs ls hw hl)
theorem g_lshl {E : mEnv} {y : mM} {n pc : Nat} {L : List (Option Value)} {st : List Value} {w : mW} {G : mG} {a v : Int64} {b : Int32} (d : decode (mB y) pc = .ok (.lshl, 1)) (hv : a <<< (b.toInt64 &&& 63) = v) (k : Go E y n (pc + 1, L, .long v :: st, w) G) : Go E y n (pc, L, .int b :: .long a :: st, w) G := by
  intro ad p e R s m args below meth c A C cells slots QQ hc hs hT H locs ls hw hl
  exact lv_lshl C.1 C.2.1 d hv (k ad p e R s m args below meth c A C cells slots QQ hc hs hT H locs ls hw hl)
theorem g_lshr {E : mEnv} {y : mM} {n pc : Nat} {L : List (Option Value)} {st : List Value} {w : mW} {G : mG} {a v : Int64} {b : Int32} (d : decode (mB y) pc = .ok (.lshr, 1)) (hv : a >>> (b.toInt64 &&& 63) = v) (k : Go E y n (pc + 1, L, .long v :: st, w) G) : Go E y n (pc, L, .int b :: .long a :: st, w) G := by
  intro ad p e R s m args below meth c A C cells slots QQ hc hs hT H locs ls hw hl
  exact lv_lshr C.1 C.2.1 d hv (k ad p e R s m args below meth c A C cells slots QQ hc hs hT H locs ls hw hl)
theorem g_i2l {E : mEnv} {y : mM} {n pc : Nat} {L : List (Option Value)} {st : List Value} {w : mW} {G : mG} {a : Int32} (d : decode (mB y) pc = .ok (.i2l, 1)) (k : Go E y n (pc + 1, L, .long a.toInt64 :: st, w) G) : Go E y n (pc, L, .int a :: st, w) G := by
  intro ad p e R s m args below meth c A C cells slots QQ hc hs hT H locs ls hw hl
  exact lv_i2l C.1 C.2.1 d rfl (k ad p e R s m args below meth c A C cells slots QQ hc hs hT H locs ls hw hl)
theorem g_l2i {E : mEnv} {y : mM} {n pc : Nat} {L : List (Option Value)} {st : List Value} {w : mW} {G : mG} {a : Int64} (d : decode (mB y) pc = .ok (.l2i, 1)) (k : Go E y n (pc + 1, L, .int a.toInt32 :: st, w) G) : Go E y n (pc, L, .long a :: st, w) G := by
  intro ad p e R s m args below meth c A C cells slots QQ hc hs hT H locs ls hw hl
  exact lv_l2i C.1 C.2.1 d rfl (k ad p e R s m args below meth c A C cells slots QQ hc hs hT H locs ls hw hl)
theorem g_i2c {E : mEnv} {y : mM} {n pc : Nat} {L : List (Option Value)} {st : List Value} {w : mW} {G : mG} {a : Int32} (d : decode (mB y) pc = .ok (.i2c, 1)) (k : Go E y n (pc + 1, L, .int (a.toUInt32 % 65536).toInt32 :: st, w) G) : Go E y n (pc, L, .int a :: st, w) G := by
  intro ad p e R s m args below meth c A C cells slots QQ hc hs hT H locs ls hw hl
  exact lv_i2c C.1 C.2.1 d rfl (k ad p e R s m args below meth c A C cells slots QQ hc hs hT H locs ls hw hl)
theorem g_lcmp {E : mEnv} {y : mM} {n pc : Nat} {L : List (Option Value)} {st : List Value} {w : mW} {G : mG} {a b : Int64} (d : decode (mB y) pc = .ok (.lcmp, 1)) (k : Go E y n (pc + 1, L, .int (lg_cmp a b) :: st, w) G) : Go E y n (pc, L, .long b :: .long a :: st, w) G := by
  intro ad p e R s m args below meth c A C cells slots QQ hc hs hT H locs ls hw hl
  exact W.lcmp C.1 C.2.1 d (k ad p e R s m args below meth c A C cells slots QQ hc hs hT H locs ls hw hl)
theorem g_dup {E : mEnv} {y : mM} {n pc : Nat} {L : List (Option Value)} {st : List Value} {w : mW} {G : mG} {v : Value} (d : decode (mB y) pc = .ok (.dup, 1)) (hv : v.category = 1) (k : Go E y n (pc + 1, L, v :: v :: st, w) G) : Go E y n (pc, L, v :: st, w) G := by
  intro ad p e R s m args below meth c A C cells slots QQ hc hs hT H locs ls hw hl
  exact lv_dup C.1 C.2.1 d ((mcV_cat ad v).trans hv) (k ad p e R s m args below meth c A C cells slots QQ hc hs hT H locs ls hw hl)
theorem g_pop {E : mEnv} {y : mM} {n pc : Nat} {L : List (Option Value)} {st : List Value} {w : mW} {G : mG} {v : Value} (d : decode (mB y) pc = .ok (.pop, 1)) (hv : v.category = 1) (k : Go E y n (pc + 1, L, st, w) G) : Go E y n (pc, L, v :: st, w) G := by
  intro ad p e R s m args below meth c A C cells slots QQ hc hs hT H locs ls hw hl
  exact lv_pop C.1 C.2.1 d ((mcV_cat ad v).trans hv) (k ad p e R s m args below meth c A C cells slots QQ hc hs hT H locs ls hw hl)
theorem g_dup2_11 {E : mEnv} {y : mM} {n pc : Nat} {L : List (Option Value)} {st : List Value} {w : mW} {G : mG} {u v : Value} (d : decode (mB y) pc = .ok (.dup2, 1)) (hu : u.category = 1) (hv : v.category = 1) (k : Go E y n (pc + 1, L, u :: v :: u :: v :: st, w) G) : Go E y n (pc, L, u :: v :: st, w) G := by
  intro ad p e R s m args below meth c A C cells slots QQ hc hs hT H locs ls hw hl
  exact lv_dup2_11 C.1 C.2.1 d ((mcV_cat ad u).trans hu) ((mcV_cat ad v).trans hv) (k ad p e R s m args below meth c A C cells slots QQ hc hs hT H locs ls hw hl)
theorem g_if_eq {E : mEnv} {y : mM} {n pc : Nat} {L : List (Option Value)} {st : List Value} {w : mW} {G : mG} {x : Int32} {off : Int} {tgt : Nat} (d : decode (mB y) pc = .ok (.ifCond .eq off, 3)) (ht : (pc : Int) + off = (tgt : Int)) (kt : x = 0 → Go E y n (tgt, L, st, w) G) (kf : ¬ x = 0 → Go E y n (pc + 3, L, st, w) G) : Go E y n (pc, L, .int x :: st, w) G := by
  intro ad p e R s m args below meth c A C cells slots QQ hc hs hT H locs ls hw hl
  exact lv_if_eq C.1 C.2.1 d ht (fun h => kt h ad p e R s m args below meth c A C cells slots QQ hc hs hT H locs ls hw hl) (fun h => kf h ad p e R s m args below meth c A C cells slots QQ hc hs hT H locs ls hw hl)
theorem g_if_ne {E : mEnv} {y : mM} {n pc : Nat} {L : List (Option Value)} {st : List Value} {w : mW} {G : mG} {x : Int32} {off : Int} {tgt : Nat} (d : decode (mB y) pc = .ok (.ifCond .ne off, 3)) (ht : (pc : Int) + off = (tgt : Int)) (kt : ¬ x = 0 → Go E y n (tgt, L, st, w) G) (kf : x = 0 → Go E y n (pc + 3, L, st, w) G) : Go E y n (pc, L, .int x :: st, w) G := by
  intro ad p e R s m args below meth c A C cells slots QQ hc hs hT H locs ls hw hl
  exact lv_if_ne C.1 C.2.1 d ht (fun h => kt h ad p e R s m args below meth c A C cells slots QQ hc hs hT H locs ls hw hl) (fun h => kf h ad p e R s m args below meth c A C cells slots QQ hc hs hT H locs ls hw hl)
theorem g_if_lt {E : mEnv} {y : mM} {n pc : Nat} {L : List (Option Value)} {st : List Value} {w : mW} {G : mG} {x : Int32} {off : Int} {tgt : Nat} (d : decode (mB y) pc = .ok (.ifCond .lt off, 3)) (ht : (pc : Int) + off = (tgt : Int)) (kt : x < 0 → Go E y n (tgt, L, st, w) G) (kf : ¬ x < 0 → Go E y n (pc + 3, L, st, w) G) : Go E y n (pc, L, .int x :: st, w) G := by
  intro ad p e R s m args below meth c A C cells slots QQ hc hs hT H locs ls hw hl
  exact lv_if_lt C.1 C.2.1 d ht (fun h => kt h ad p e R s m args below meth c A C cells slots QQ hc hs hT H locs ls hw hl) (fun h => kf h ad p e R s m args below meth c A C cells slots QQ hc hs hT H locs ls hw hl)
theorem g_if_ge {E : mEnv} {y : mM} {n pc : Nat} {L : List (Option Value)} {st : List Value} {w : mW} {G : mG} {x : Int32} {off : Int} {tgt : Nat} (d : decode (mB y) pc = .ok (.ifCond .ge off, 3)) (ht : (pc : Int) + off = (tgt : Int)) (kt : 0 ≤ x → Go E y n (tgt, L, st, w) G) (kf : ¬ 0 ≤ x → Go E y n (pc + 3, L, st, w) G) : Go E y n (pc, L, .int x :: st, w) G := by
  intro ad p e R s m args below meth c A C cells slots QQ hc hs hT H locs ls hw hl
  exact lv_if_ge C.1 C.2.1 d ht (fun h => kt h ad p e R s m args below meth c A C cells slots QQ hc hs hT H locs ls hw hl) (fun h => kf h ad p e R s m args below meth c A C cells slots QQ hc hs hT H locs ls hw hl)
theorem g_if_gt {E : mEnv} {y : mM} {n pc : Nat} {L : List (Option Value)} {st : List Value} {w : mW} {G : mG} {x : Int32} {off : Int} {tgt : Nat} (d : decode (mB y) pc = .ok (.ifCond .gt off, 3)) (ht : (pc : Int) + off = (tgt : Int)) (kt : 0 < x → Go E y n (tgt, L, st, w) G) (kf : ¬ 0 < x → Go E y n (pc + 3, L, st, w) G) : Go E y n (pc, L, .int x :: st, w) G := by
  intro ad p e R s m args below meth c A C cells slots QQ hc hs hT H locs ls hw hl
  exact lv_if_gt C.1 C.2.1 d ht (fun h => kt h ad p e R s m args below meth c A C cells slots QQ hc hs hT H locs ls hw hl) (fun h => kf h ad p e R s m args below meth c A C cells slots QQ hc hs hT H locs ls hw hl)
theorem g_if_le {E : mEnv} {y : mM} {n pc : Nat} {L : List (Option Value)} {st : List Value} {w : mW} {G : mG} {x : Int32} {off : Int} {tgt : Nat} (d : decode (mB y) pc = .ok (.ifCond .le off, 3)) (ht : (pc : Int) + off = (tgt : Int)) (kt : x ≤ 0 → Go E y n (tgt, L, st, w) G) (kf : ¬ x ≤ 0 → Go E y n (pc + 3, L, st, w) G) : Go E y n (pc, L, .int x :: st, w) G := by
  intro ad p e R s m args below meth c A C cells slots QQ hc hs hT H locs ls hw hl
  exact lv_if_le C.1 C.2.1 d ht (fun h => kt h ad p e R s m args below meth c A C cells slots QQ hc hs hT H locs ls hw hl) (fun h => kf h ad p e R s m args below meth c A C cells slots QQ hc hs hT H locs ls hw hl)
theorem g_icmp_eq {E : mEnv} {y : mM} {n pc : Nat} {L : List (Option Value)} {st : List Value} {w : mW} {G : mG} {a b : Int32} {off : Int} {tgt : Nat} (d : decode (mB y) pc = .ok (.if_icmp .eq off, 3)) (ht : (pc : Int) + off = (tgt : Int)) (kt : a = b → Go E y n (tgt, L, st, w) G) (kf : ¬ a = b → Go E y n (pc + 3, L, st, w) G) : Go E y n (pc, L, .int b :: .int a :: st, w) G := by
  intro ad p e R s m args below meth c A C cells slots QQ hc hs hT H locs ls hw hl
  exact lv_icmp_eq C.1 C.2.1 d ht (fun h => kt h ad p e R s m args below meth c A C cells slots QQ hc hs hT H locs ls hw hl) (fun h => kf h ad p e R s m args below meth c A C cells slots QQ hc hs hT H locs ls hw hl)
theorem g_icmp_ne {E : mEnv} {y : mM} {n pc : Nat} {L : List (Option Value)} {st : List Value} {w : mW} {G : mG} {a b : Int32} {off : Int} {tgt : Nat} (d : decode (mB y) pc = .ok (.if_icmp .ne off, 3)) (ht : (pc : Int) + off = (tgt : Int)) (kt : ¬ a = b → Go E y n (tgt, L, st, w) G) (kf : a = b → Go E y n (pc + 3, L, st, w) G) : Go E y n (pc, L, .int b :: .int a :: st, w) G := by
  intro ad p e R s m args below meth c A C cells slots QQ hc hs hT H locs ls hw hl
  exact lv_icmp_ne C.1 C.2.1 d ht (fun h => kt h ad p e R s m args below meth c A C cells slots QQ hc hs hT H locs ls hw hl) (fun h => kf h ad p e R s m args below meth c A C cells slots QQ hc hs hT H locs ls hw hl)
theorem g_icmp_lt {E : mEnv} {y : mM} {n pc : Nat} {L : List (Option Value)} {st : List Value} {w : mW} {G : mG} {a b : Int32} {off : Int} {tgt : Nat} (d : decode (mB y) pc = .ok (.if_icmp .lt off, 3)) (ht : (pc : Int) + off = (tgt : Int)) (kt : a < b → Go E y n (tgt, L, st, w) G) (kf : ¬ a < b → Go E y n (pc + 3, L, st, w) G) : Go E y n (pc, L, .int b :: .int a :: st, w) G := by
  intro ad p e R s m args below meth c A C cells slots QQ hc hs hT H locs ls hw hl
  exact lv_icmp_lt C.1 C.2.1 d ht (fun h => kt h ad p e R s m args below meth c A C cells slots QQ hc hs hT H locs ls hw hl) (fun h => kf h ad p e R s m args below meth c A C cells slots QQ hc hs hT H locs ls hw hl)
theorem g_icmp_ge {E : mEnv} {y : mM} {n pc : Nat} {L : List (Option Value)} {st : List Value} {w : mW} {G : mG} {a b : Int32} {off : Int} {tgt : Nat} (d : decode (mB y) pc = .ok (.if_icmp .ge off, 3)) (ht : (pc : Int) + off = (tgt : Int)) (kt : b ≤ a → Go E y n (tgt, L, st, w) G) (kf : ¬ b ≤ a → Go E y n (pc + 3, L, st, w) G) : Go E y n (pc, L, .int b :: .int a :: st, w) G := by
  intro ad p e R s m args below meth c A C cells slots QQ hc hs hT H locs ls hw hl
  exact lv_icmp_ge C.1 C.2.1 d ht (fun h => kt h ad p e R s m args below meth c A C cells slots QQ hc hs hT H locs ls hw hl) (fun h => kf h ad p e R s m args below meth c A C cells slots QQ hc hs hT H locs ls hw hl)
theorem g_icmp_gt {E : mEnv} {y : mM} {n pc : Nat} {L : List (Option Value)} {st : List Value} {w : mW} {G : mG} {a b : Int32} {off : Int} {tgt : Nat} (d : decode (mB y) pc = .ok (.if_icmp .gt off, 3)) (ht : (pc : Int) + off = (tgt : Int)) (kt : b < a → Go E y n (tgt, L, st, w) G) (kf : ¬ b < a → Go E y n (pc + 3, L, st, w) G) : Go E y n (pc, L, .int b :: .int a :: st, w) G := by
  intro ad p e R s m args below meth c A C cells slots QQ hc hs hT H locs ls hw hl
  exact lv_icmp_gt C.1 C.2.1 d ht (fun h => kt h ad p e R s m args below meth c A C cells slots QQ hc hs hT H locs ls hw hl) (fun h => kf h ad p e R s m args below meth c A C cells slots QQ hc hs hT H locs ls hw hl)
theorem g_icmp_le {E : mEnv} {y : mM} {n pc : Nat} {L : List (Option Value)} {st : List Value} {w : mW} {G : mG} {a b : Int32} {off : Int} {tgt : Nat} (d : decode (mB y) pc = .ok (.if_icmp .le off, 3)) (ht : (pc : Int) + off = (tgt : Int)) (kt : a ≤ b → Go E y n (tgt, L, st, w) G) (kf : ¬ a ≤ b → Go E y n (pc + 3, L, st, w) G) : Go E y n (pc, L, .int b :: .int a :: st, w) G := by
  intro ad p e R s m args below meth c A C cells slots QQ hc hs hT H locs ls hw hl
  exact lv_icmp_le C.1 C.2.1 d ht (fun h => kt h ad p e R s m args below meth c A C cells slots QQ hc hs hT H locs ls hw hl) (fun h => kf h ad p e R s m args below meth c A C cells slots QQ hc hs hT H locs ls hw hl)
theorem g_goto {E : mEnv} {y : mM} {n pc : Nat} {L : List (Option Value)} {st : List Value} {w : mW} {G : mG} {off : Int} {tgt : Nat} (d : decode (mB y) pc = .ok (.goto off, 3)) (ht : (pc : Int) + off = (tgt : Int)) (k : Go E y n (tgt, L, st, w) G) : Go E y n (pc, L, st, w) G := by
  intro ad p e R s m args below meth c A C cells slots QQ hc hs hT H locs ls hw hl
  exact lv_goto C.1 C.2.1 d ht (k ad p e R s m args below meth c A C cells slots QQ hc hs hT H locs ls hw hl)
theorem g_tabOut {E : mEnv} {y : mM} {n pc : Nat} {L : List (Option Value)} {st : List Value} {w : mW} {G : mG} {dflt lo hi : Int} {offs : Array Int} {len : Nat} {x : Int32} {tgt : Nat} (d : decode (mB y) pc = .ok (.tableswitch dflt lo hi offs, len)) (h : x.toInt < lo ∨ hi < x.toInt) (ht : (pc : Int) + dflt = (tgt : Int)) (k : Go E y n (tgt, L, st, w) G) : Go E y n (pc, L, .int x :: st, w) G := by
  intro ad p e R s m args below meth c A C cells slots QQ hc hs hT H locs ls hw hl
  exact lv_tableOut C.1 C.2.1 d h ht (k ad p e R s m args below meth c A C cells slots QQ hc hs hT H locs ls hw hl)
theorem g_tabIn {E : mEnv} {y : mM} {n pc : Nat} {L : List (Option Value)} {st : List Value} {w : mW} {G : mG} {dflt lo hi off : Int} {offs : Array Int} {len : Nat} {x : Int32} {tgt : Nat} (d : decode (mB y) pc = .ok (.tableswitch dflt lo hi offs, len)) (h1 : ¬ x.toInt < lo) (h2 : ¬ hi < x.toInt) (ho : offs[(x.toInt - lo).toNat]? = some off) (ht : (pc : Int) + off = (tgt : Int)) (k : Go E y n (tgt, L, st, w) G) : Go E y n (pc, L, .int x :: st, w) G := by
  intro ad p e R s m args below meth c A C cells slots QQ hc hs hT H locs ls hw hl
  exact lv_tableIn C.1 C.2.1 d h1 h2 ho ht (k ad p e R s m args below meth c A C cells slots QQ hc hs hT H locs ls hw hl)
theorem g_lookup {E : mEnv} {y : mM} {n pc : Nat} {L : List (Option Value)} {st : List Value} {w : mW} {G : mG} {dflt off : Int} {ps : Array (Int × Int)} {len : Nat} {x : Int32} {tgt : Nat} (d : decode (mB y) pc = .ok (.lookupswitch dflt ps, len)) (hp : (ps.toList.zip (ps.toList.drop 1)).all (fun (a, next) => a.1 < next.1) = true) (ho : Op.lookupswitch.offset ps.toList dflt x.toInt = off) (ht : (pc : Int) + off = (tgt : Int)) (k : Go E y n (tgt, L, st, w) G) : Go E y n (pc, L, .int x :: st, w) G := by
  intro ad p e R s m args below meth c A C cells slots QQ hc hs hT H locs ls hw hl
  exact lv_lookup C.1 C.2.1 d hp ho ht (k ad p e R s m args below meth c A C cells slots QQ hc hs hT H locs ls hw hl)
theorem va_strEv {own : String} {k a : Nat} {args : Array Value} {U : State} (h : (Term.string own k).eval #[] U none [] U = some (.ref a)) : (Term.string own k).eval args U none [] U = some (.ref a) := by
  rw [← h]
  exact Term.string_eval_of_vm (args := args) (args' := #[]) rfl
theorem g_ldc2 {E : mEnv} {y : mM} {n pc : Nat} {L : List (Option Value)} {st : List Value} {w : mW} {G : mG} {ix : Nat} {v : Int64} (d : decode (mB y) pc = .ok (.ldc2_w ix, 3)) (hw' : Cond.constantLong (mN y).cls ix v ∈ mTBL) (k : Go E y n (pc + 3, L, .long v :: st, w) G) : Go E y n (pc, L, st, w) G := by
  intro ad p e R s m args below meth c A C cells slots QQ hc hs hT H locs ls hw hl
  exact lv_ldc2 C.1 C.2.1 C.2.2.2.2.1 (C.2.2.2.2.2.1 _ hw') d (k ad p e R s m args below meth c A C cells slots QQ hc hs hT H locs ls hw hl)
/-- the field k of the class ci, by the place ix of the pool of own -/
def mFld (own : String) (ix ci k : Nat) : Prop := ∃ (C : String) (T : u_T) (N : Nat), vwCl[ci]? = some (C, T, N) ∧ k < N ∧ (∀ wd ∈ u_ws C T N, wd ∈ mTBL) ∧ Cond.fieldLink own ix (T k).1 (T k).2.1 (T k).2.2.1 ∈ mTBL
def mPut (own : String) (ix ci k : Nat) (ty : FieldType) : Prop := ∃ (C : String) (T : u_T) (N : Nat) (t0 : Nat → FieldType), vwCl[ci]? = some (C, T, N) ∧ k < N ∧ (∀ wd ∈ u_ws C T N, wd ∈ mTBL) ∧ Cond.fieldLink own ix (T k).1 (T k).2.1 (T k).2.2.1 ∈ mTBL ∧ (∀ k, k < N → parseFieldDescriptor (T k).2.2.1 = some (t0 k)) ∧ (∀ a, a < N → ∀ b, b < N → a ≠ b → (T a).2.1 ≠ (T b).2.1) ∧ (T k).2.2.2 = false ∧ parseFieldDescriptor (T k).2.2.1 = some ty
theorem g_getf {E : mEnv} {y : mM} {n pc : Nat} {L : List (Option Value)} {st : List Value} {w : mW} {G : mG} {ix ci k0 r : Nat} {fs : List Value} {v : Value} (d : decode (mB y) pc = .ok (.getfield ix, 3)) (hf : mFld (mN y).cls ix ci k0) (hm : mget w r = some (.inr (ci, fs))) (hv : fs[k0]? = some v) (k : Go E y n (pc + 3, L, v :: st, w) G) : Go E y n (pc, L, .ref r :: st, w) G := by
  intro ad p e R s m args below meth c A C cells slots QQ hc hs hT H locs ls hw hl
  obtain ⟨CN, T, N, h1, h2, h3, h4⟩ := hf
  obtain ⟨q0, hq, -⟩ := mcW_at E.2.2.1 ad hm
  exact va_get C.1 C.2.1 C.2.2.2.2.2.1 h3 C.2.2.2.2.1 C.2.2.2.2.2.2.2.2.2.2.1.1 hw.1 q0 hq h1 k0 h2 (C.2.2.2.2.2.1 _ h4) (fun _ h => h) (v := mcV ad v) (by rw [List.getElem?_map, hv]; rfl) d (k ad p e R s m args below meth c A C cells slots QQ hc hs hT H locs ls hw hl)
theorem mWd_put {E : mEnv} {ad : Nat → Nat} {s : State} {A : Nat → Prop} {w : mW} {H1 : Heap} {locs1 : List Loc} {r q0 : Nat} {c c' : mE} (h : ∀ c' : mE, (mcW E.2.2.1 ad w).set q0 (ad r, mcE E.2.2.1 ad c') = mcW E.2.2.1 ad (mset w r c')) (h1 : va_P E.2.1 vwCl ((mcW E.2.2.1 ad w).set q0 (ad r, mcE E.2.2.1 ad c')) H1) (h2 : va_D A ((mcW E.2.2.1 ad w).set q0 (ad r, mcE E.2.2.1 ad c'))) (h3 : va_S A s.heap H1 locs1) : mWd E ad s A (mset w r c') H1 locs1 := by
  rw [h] at h1 h2
  exact ⟨h1, h2, h3⟩
theorem g_putI {E : mEnv} {y : mM} {n pc : Nat} {L : List (Option Value)} {st : List Value} {w : mW} {G : mG} {ix ci k0 r : Nat} {fs : List Value} {x : Int32} {ty : FieldType} {w' : mW} (d : decode (mB y) pc = .ok (.putfield ix, 3)) (hf : mPut (mN y).cls ix ci k0 ty) (hn : narrow ty (.int x) = .int x) (hfit : fits ty (.int x) = true) (hm : mget w r = some (.inr (ci, fs))) (hlen : k0 < fs.length) (hw' : mset w r (.inr (ci, fs.set k0 (.int x))) = w') (k : Go E y n (pc + 3, L, st, w') G) : Go E y n (pc, L, .int x :: .ref r :: st, w) G := by
  intro ad p e R s m args below meth c A C cells slots QQ hc hs hT H locs ls hw hl
  subst hw'
  obtain ⟨CN, T, N, t0, h1, h2, h3, h4, h5, h6, h7, h8⟩ := hf
  obtain ⟨q0, hq, hset⟩ := mcW_at E.2.2.1 ad hm
  refine va_put C.1 C.2.1 C.2.2.2.2.2.1 h3 t0 h5 h6 C.2.2.2.2.1 C.2.2.2.2.2.2.2.2.2.2.1.1 hw.1 hw.2.1 hw.2.2 q0 hq h1 k0 h2 (C.2.2.2.2.2.1 _ h4) (fun _ h => h) h7 h8 hn hfit (by rw [List.length_map]; exact hlen) d (fun H1 locs1 g1 g2 g3 => k ad p e R s m args below meth c A C cells slots QQ hc hs hT H1 locs1 ls (mWd_put (c := .inr (ci, fs)) (c' := .inr (ci, fs.set k0 (.int x))) hset ?_ ?_ g3) hl)
  · have e : mcE E.2.2.1 ad (.inr (ci, fs.set k0 (.int x))) = .inr (ci, (fs.map (mcV ad)).set k0 (.int x)) := by simp [mcE, List.map_set, mcV]
    rw [e]; exact g1
  · have e : mcE E.2.2.1 ad (.inr (ci, fs.set k0 (.int x))) = .inr (ci, (fs.map (mcV ad)).set k0 (.int x)) := by simp [mcE, List.map_set, mcV]
    rw [e]; exact g2
theorem g_putL {E : mEnv} {y : mM} {n pc : Nat} {L : List (Option Value)} {st : List Value} {w : mW} {G : mG} {ix ci k0 r : Nat} {fs : List Value} {x : Int64} {ty : FieldType} {w' : mW} (d : decode (mB y) pc = .ok (.putfield ix, 3)) (hf : mPut (mN y).cls ix ci k0 ty) (hn : narrow ty (.long x) = .long x) (hfit : fits ty (.long x) = true) (hm : mget w r = some (.inr (ci, fs))) (hlen : k0 < fs.length) (hw' : mset w r (.inr (ci, fs.set k0 (.long x))) = w') (k : Go E y n (pc + 3, L, st, w') G) : Go E y n (pc, L, .long x :: .ref r :: st, w) G := by
  intro ad p e R s m args below meth c A C cells slots QQ hc hs hT H locs ls hw hl
  subst hw'
  obtain ⟨CN, T, N, t0, h1, h2, h3, h4, h5, h6, h7, h8⟩ := hf
  obtain ⟨q0, hq, hset⟩ := mcW_at E.2.2.1 ad hm
  refine va_put C.1 C.2.1 C.2.2.2.2.2.1 h3 t0 h5 h6 C.2.2.2.2.1 C.2.2.2.2.2.2.2.2.2.2.1.1 hw.1 hw.2.1 hw.2.2 q0 hq h1 k0 h2 (C.2.2.2.2.2.1 _ h4) (fun _ h => h) h7 h8 hn hfit (by rw [List.length_map]; exact hlen) d (fun H1 locs1 g1 g2 g3 => k ad p e R s m args below meth c A C cells slots QQ hc hs hT H1 locs1 ls (mWd_put (c := .inr (ci, fs)) (c' := .inr (ci, fs.set k0 (.long x))) hset ?_ ?_ g3) hl)
  · have e : mcE E.2.2.1 ad (.inr (ci, fs.set k0 (.long x))) = .inr (ci, (fs.map (mcV ad)).set k0 (.long x)) := by simp [mcE, List.map_set, mcV]
    rw [e]; exact g1
  · have e : mcE E.2.2.1 ad (.inr (ci, fs.set k0 (.long x))) = .inr (ci, (fs.map (mcV ad)).set k0 (.long x)) := by simp [mcE, List.map_set, mcV]
    rw [e]; exact g2
theorem g_iald {E : mEnv} {y : mM} {n pc : Nat} {L : List (Option Value)} {st : List Value} {w : mW} {G : mG} {r len : Nat} {f : Nat → Int32} {i : Int32} (d : decode (mB y) pc = .ok (.iaload, 1)) (hm : mget w r = some (.inl (0, len, .inl f))) (hin : vp_in i len) (k : Go E y n (pc + 1, L, .int (f i.toNatClampNeg) :: st, w) G) : Go E y n (pc, L, .int i :: .ref r :: st, w) G := by
  intro ad p e R s m args below meth c A C cells slots QQ hc hs hT H locs ls hw hl
  obtain ⟨q0, hq, -⟩ := mcW_at E.2.2.1 ad hm
  exact va_iald C.1 C.2.1 C.2.2.2.2.2.2.2.2.2.2.1.1 hw.1 q0 0 hq rfl hin d (k ad p e R s m args below meth c A C cells slots QQ hc hs hT H locs ls hw hl)
theorem g_lald {E : mEnv} {y : mM} {n pc : Nat} {L : List (Option Value)} {st : List Value} {w : mW} {G : mG} {r len : Nat} {f : Nat → Int64} {i : Int32} (d : decode (mB y) pc = .ok (.laload, 1)) (hm : mget w r = some (.inl (1, len, .inr (.inl f)))) (hin : vp_in i len) (k : Go E y n (pc + 1, L, .long (f i.toNatClampNeg) :: st, w) G) : Go E y n (pc, L, .int i :: .ref r :: st, w) G := by
  intro ad p e R s m args below meth c A C cells slots QQ hc hs hT H locs ls hw hl
  obtain ⟨q0, hq, -⟩ := mcW_at E.2.2.1 ad hm
  exact va_lald C.1 C.2.1 C.2.2.2.2.2.2.2.2.2.2.1.1 hw.1 q0 1 hq rfl hin d (k ad p e R s m args below meth c A C cells slots QQ hc hs hT H locs ls hw hl)
theorem g_cald {E : mEnv} {y : mM} {n pc : Nat} {L : List (Option Value)} {st : List Value} {w : mW} {G : mG} {r len : Nat} {f : Nat → Int32} {i : Int32} (d : decode (mB y) pc = .ok (.caload, 1)) (hm : mget w r = some (.inl (2, len, .inl f))) (hin : vp_in i len) (k : Go E y n (pc + 1, L, .int (f i.toNatClampNeg) :: st, w) G) : Go E y n (pc, L, .int i :: .ref r :: st, w) G := by
  intro ad p e R s m args below meth c A C cells slots QQ hc hs hT H locs ls hw hl
  obtain ⟨q0, hq, -⟩ := mcW_at E.2.2.1 ad hm
  exact va_cald C.1 C.2.1 C.2.2.2.2.2.2.2.2.2.2.1.1 hw.1 q0 2 hq rfl hin d (k ad p e R s m args below meth c A C cells slots QQ hc hs hT H locs ls hw hl)
theorem g_zald {E : mEnv} {y : mM} {n pc : Nat} {L : List (Option Value)} {st : List Value} {w : mW} {G : mG} {r len : Nat} {f : Nat → Int32} {i : Int32} (d : decode (mB y) pc = .ok (.baload, 1)) (hm : mget w r = some (.inl (3, len, .inl f))) (hin : vp_in i len) (k : Go E y n (pc + 1, L, .int (f i.toNatClampNeg) :: st, w) G) : Go E y n (pc, L, .int i :: .ref r :: st, w) G := by
  intro ad p e R s m args below meth c A C cells slots QQ hc hs hT H locs ls hw hl
  obtain ⟨q0, hq, -⟩ := mcW_at E.2.2.1 ad hm
  exact va_zald C.1 C.2.1 C.2.2.2.2.2.2.2.2.2.2.1.1 hw.1 q0 3 hq rfl hin d (k ad p e R s m args below meth c A C cells slots QQ hc hs hT H locs ls hw hl)
theorem g_iast {E : mEnv} {y : mM} {n pc : Nat} {L : List (Option Value)} {st : List Value} {w : mW} {G : mG} {r len : Nat} {f : Nat → Int32} {i : Int32} {x : Int32} {w' : mW} (d : decode (mB y) pc = .ok (.iastore, 1)) (hm : mget w r = some (.inl (0, len, .inl f))) (hin : vp_in i len) (hw' : mset w r (.inl (0, len, .inl (upd f i.toNatClampNeg x))) = w') (k : Go E y n (pc + 1, L, st, w') G) : Go E y n (pc, L, .int x :: .int i :: .ref r :: st, w) G := by
  intro ad p e R s m args below meth c A C cells slots QQ hc hs hT H locs ls hw hl
  subst hw'
  obtain ⟨q0, hq, hset⟩ := mcW_at E.2.2.1 ad hm
  exact va_iast C.1 C.2.1 C.2.2.2.2.2.2.2.2.2.2.1.1 hw.1 hw.2.1 hw.2.2 q0 0 hq rfl hin d (fun H1 locs1 g1 g2 g3 => k ad p e R s m args below meth c A C cells slots QQ hc hs hT H1 locs1 ls (mWd_put (c := .inl (0, len, .inl f)) (c' := .inl (0, len, .inl (upd f i.toNatClampNeg x))) hset g1 g2 g3) hl)
theorem g_last {E : mEnv} {y : mM} {n pc : Nat} {L : List (Option Value)} {st : List Value} {w : mW} {G : mG} {r len : Nat} {f : Nat → Int64} {i : Int32} {x : Int64} {w' : mW} (d : decode (mB y) pc = .ok (.lastore, 1)) (hm : mget w r = some (.inl (1, len, .inr (.inl f)))) (hin : vp_in i len) (hw' : mset w r (.inl (1, len, .inr (.inl (vp_updL f i.toNatClampNeg x)))) = w') (k : Go E y n (pc + 1, L, st, w') G) : Go E y n (pc, L, .long x :: .int i :: .ref r :: st, w) G := by
  intro ad p e R s m args below meth c A C cells slots QQ hc hs hT H locs ls hw hl
  subst hw'
  obtain ⟨q0, hq, hset⟩ := mcW_at E.2.2.1 ad hm
  exact va_last C.1 C.2.1 C.2.2.2.2.2.2.2.2.2.2.1.1 hw.1 hw.2.1 hw.2.2 q0 1 hq rfl hin d (fun H1 locs1 g1 g2 g3 => k ad p e R s m args below meth c A C cells slots QQ hc hs hT H1 locs1 ls (mWd_put (c := .inl (1, len, .inr (.inl f))) (c' := .inl (1, len, .inr (.inl (vp_updL f i.toNatClampNeg x)))) hset g1 g2 g3) hl)
theorem g_cast {E : mEnv} {y : mM} {n pc : Nat} {L : List (Option Value)} {st : List Value} {w : mW} {G : mG} {r len : Nat} {f : Nat → Int32} {i : Int32} {x : Int32} {w' : mW} (d : decode (mB y) pc = .ok (.castore, 1)) (hm : mget w r = some (.inl (2, len, .inl f))) (hin : vp_in i len) (hw' : mset w r (.inl (2, len, .inl (upd f i.toNatClampNeg (vp_nar .char x)))) = w') (k : Go E y n (pc + 1, L, st, w') G) : Go E y n (pc, L, .int x :: .int i :: .ref r :: st, w) G := by
  intro ad p e R s m args below meth c A C cells slots QQ hc hs hT H locs ls hw hl
  subst hw'
  obtain ⟨q0, hq, hset⟩ := mcW_at E.2.2.1 ad hm
  exact va_cast C.1 C.2.1 C.2.2.2.2.2.2.2.2.2.2.1.1 hw.1 hw.2.1 hw.2.2 q0 2 hq rfl hin d (fun H1 locs1 g1 g2 g3 => k ad p e R s m args below meth c A C cells slots QQ hc hs hT H1 locs1 ls (mWd_put (c := .inl (2, len, .inl f)) (c' := .inl (2, len, .inl (upd f i.toNatClampNeg (vp_nar .char x)))) hset g1 g2 g3) hl)
theorem g_zast {E : mEnv} {y : mM} {n pc : Nat} {L : List (Option Value)} {st : List Value} {w : mW} {G : mG} {r len : Nat} {f : Nat → Int32} {i : Int32} {x : Int32} {w' : mW} (d : decode (mB y) pc = .ok (.bastore, 1)) (hm : mget w r = some (.inl (3, len, .inl f))) (hin : vp_in i len) (hw' : mset w r (.inl (3, len, .inl (upd f i.toNatClampNeg (vp_nar .boolean x)))) = w') (k : Go E y n (pc + 1, L, st, w') G) : Go E y n (pc, L, .int x :: .int i :: .ref r :: st, w) G := by
  intro ad p e R s m args below meth c A C cells slots QQ hc hs hT H locs ls hw hl
  subst hw'
  obtain ⟨q0, hq, hset⟩ := mcW_at E.2.2.1 ad hm
  exact va_zast C.1 C.2.1 C.2.2.2.2.2.2.2.2.2.2.1.1 hw.1 hw.2.1 hw.2.2 q0 3 hq rfl hin d (fun H1 locs1 g1 g2 g3 => k ad p e R s m args below meth c A C cells slots QQ hc hs hT H1 locs1 ls (mWd_put (c := .inl (3, len, .inl f)) (c' := .inl (3, len, .inl (upd f i.toNatClampNeg (vp_nar .boolean x)))) hset g1 g2 g3) hl)
theorem g_alen {E : mEnv} {y : mM} {n pc : Nat} {L : List (Option Value)} {st : List Value} {w : mW} {G : mG} {r t : Nat} {x : vp_A} {v : Int32} (d : decode (mB y) pc = .ok (.arraylength, 1)) (hm : mget w r = some (.inl (t, x))) (ht : t < 4) (hv : Int32.ofNat x.1 = v) (k : Go E y n (pc + 1, L, .int v :: st, w) G) : Go E y n (pc, L, .ref r :: st, w) G := by
  intro ad p e R s m args below meth c A C cells slots QQ hc hs hT H locs ls hw hl
  obtain ⟨q0, hq, -⟩ := mcW_at E.2.2.1 ad hm
  have ht' : ∃ ty, (mTy E.2.2.1)[t]? = some (E.2.2.1 t, ty) := by
    match t, ht with
    | 0, _ => exact ⟨_, rfl⟩
    | 1, _ => exact ⟨_, rfl⟩
    | 2, _ => exact ⟨_, rfl⟩
    | 3, _ => exact ⟨_, rfl⟩
  obtain ⟨ty, hty⟩ := ht'
  exact va_alen C.1 C.2.1 C.2.2.2.2.2.2.2.2.2.2.1.1 hw.1 q0 t hq hty hv d (k ad p e R s m args below meth c A C cells slots QQ hc hs hT H locs ls hw hl)
theorem g_ret {E : mEnv} {y : mM} {n pc : Nat} {L : List (Option Value)} {st : List Value} {w : mW} {i : Instr} {v : Option Value} (d : decode (mB y) pc = .ok (i, 1)) (hr : mRet i (mT y) v) (hst : st = v.toList) : Go E y n (pc, L, st, w) (.inr (.inl (v, w))) := by
  intro ad p e R s m args below meth c A C cells slots QQ hc hs hT H locs ls hw hl
  subst hst
  exact W.widen (by omega) (by omega) (hT H locs ls pc i hw d hr)
theorem g_end {E : mEnv} {y : mM} {n pc : Nat} {L : List (Option Value)} {st : List Value} {w : mW} {S : mS} (hS : (pc, L, st, w) = S) : Go E y n (pc, L, st, w) (.inl S) := by
  subst hS
  intro ad p e R s m args below meth c A C cells slots QQ hc hs hT H locs ls hw hl
  exact W.widen (by omega) (by omega) (hT H locs ls hw hl)
theorem g_throw {E : mEnv} {y : mM} {n pc : Nat} {L : List (Option Value)} {st : List Value} {w : mW} {X : String} (ht : mThr y pc X) (hcat : Nat.ble ((st.map fun v => v.category).sum) 8 = true) : Go E y (n + 1) (pc, L, st, w) (.inr (.inr (X, w))) := by
  intro ad p e R s m args below meth c A C cells slots QQ hc hs hT H locs ls hw hl
  exact hT.1 H locs ls pc _ cells slots hw hl.1 ht (by rw [mcV_cats]; exact Nat.le_of_ble_eq_true hcat) (by omega) (by omega)
theorem Go.widen {E : mEnv} {y : mM} {n n' : Nat} {S : mS} {G : mG} (h : Go E y n S G) (hn : n ≤ n') : Go E y n' S G := by
  intro ad p e R s m args below meth c A C cells slots QQ hc hs hT
  refine h ad p e R s m args below meth c A C cells slots QQ (by omega) (by omega) ?_
  match G, hT with
  | .inl S1, hT => intro H locs ls hw hl; exact W.widen (by omega) (by omega) (hT H locs ls hw hl)
  | .inr (.inl (v, w)), hT => intro H locs ls pc i hw hd hr; exact W.widen (by omega) (by omega) (hT H locs ls pc i hw hd hr)
  | .inr (.inr (X, w)), hT => exact ⟨fun H locs ls pc st c1 s1 hw h1 h2 h3 h4 h5 => hT.1 H locs ls pc st c1 s1 hw h1 h2 h3 (by omega) (by omega), fun H locs ls pc st q ce hw h1 h2 h3 => vx_widen (by omega) (by omega) (hT.2 H locs ls pc st q ce hw h1 h2 h3)⟩
theorem Go.trans {E : mEnv} {y : mM} {n1 n2 : Nat} {S S1 : mS} {G : mG} (h1 : Go E y n1 S (.inl S1)) (h2 : Go E y n2 S1 G) : Go E y (n1 + n2) S G := by
  intro ad p e R s m args below meth c A C cells slots QQ hc hs hT
  refine h1 ad p e R s m args below meth c A C cells slots QQ (by omega) (by omega) ?_
  refine h2 ad p e R s m args below meth c A C (cells + n1) (slots + 6 * n1) QQ (by omega) (by omega) ?_
  rw [show cells + n1 + n2 = cells + (n1 + n2) by omega, show slots + 6 * n1 + 6 * n2 = slots + 6 * (n1 + n2) by omega]
  exact hT
theorem Go.trans0 {E : mEnv} {y : mM} {n : Nat} {S S1 : mS} {G : mG} (h1 : Go E y 0 S (.inl S1)) (h2 : Go E y n S1 G) : Go E y n S G := by
  have := h1.trans h2
  rwa [Nat.zero_add] at this
/-! String constants -/
theorem g_ldcS {E : mEnv} {y : mM} {n pc : Nat} {L : List (Option Value)} {st : List Value} {w : mW} {G : mG} {ix j : Nat} {text : String} {byt : List Int32} (d : decode (mB y) pc = .ok (.ldc ix, 2)) (hq : ((mN y).cls, ix, j, byt) ∈ mSC) (ht : ((mN y).cls, ix, text) ∈ mStrs) (k : Go E y n (pc + 2, L, .ref (1000 + j) :: st, w) G) : Go E y n (pc, L, st, w) G := by
  intro ad p e R s m args below meth c A C cells slots QQ hc hs hT H locs ls hw hl
  have h1 := (C.2.2.2.2.2.2.2.2.2.2.2.2.1 _ hq).1
  have h2 := C.2.2.2.2.2.2.2.2.2.2.1.2.2.1 _ ht
  refine va_ldcS C.1 C.2.1 C.2.2.2.2.1 h2 d ?_
  have h3 := k ad p e R s m args below meth c A C cells slots QQ hc hs hT H locs ls hw hl
  rw [← h1]
  exact h3
theorem g_ldcSW {E : mEnv} {y : mM} {n pc : Nat} {L : List (Option Value)} {st : List Value} {w : mW} {G : mG} {ix j : Nat} {text : String} {byt : List Int32} (d : decode (mB y) pc = .ok (.ldc_w ix, 3)) (hq : ((mN y).cls, ix, j, byt) ∈ mSC) (ht : ((mN y).cls, ix, text) ∈ mStrs) (k : Go E y n (pc + 3, L, .ref (1000 + j) :: st, w) G) : Go E y n (pc, L, st, w) G := by
  intro ad p e R s m args below meth c A C cells slots QQ hc hs hT H locs ls hw hl
  have h1 := (C.2.2.2.2.2.2.2.2.2.2.2.2.1 _ hq).1
  have h2 := C.2.2.2.2.2.2.2.2.2.2.1.2.2.1 _ ht
  have h3 := k ad p e R s m args below meth c A C cells slots QQ hc hs hT H locs ls hw hl
  intro T hT0 X
  obtain ⟨t, a1, b1⟩ := h3 T hT0 X
  refine ⟨t, X.ldcStringW C.1 (text := text) C.2.2.2.2.1 h2.1 (va_strEv h2.2) (g := F0 m pc ls _) rfl (by rw [C.2.1]; exact d) t ?_, b1⟩
  have e9 : mcV ad (.ref (1000 + j)) = .ref (E.2.2.2.1 (mN y).cls ix) := by show Value.ref (ad (1000 + j)) = _; rw [h1]
  have e8 : (((pc + 3, L, Value.ref (1000 + j) :: st, w) : mS).2.2.1).map (mcV ad) = .ref (E.2.2.2.1 (mN y).cls ix) :: st.map (mcV ad) := by
    show mcV ad (.ref (1000 + j)) :: st.map (mcV ad) = _
    rw [e9]
  rw [e8] at a1
  exact a1
end
section
/-! calls, throws, catches of the plain machine -/
/-- a method that can be called: its code and its class are known, it has n parameters -/
def mOk (z : mM) (k : Nat) : Prop := Cond.code (mN z) (mB z) (mL z) (mT z) ∈ mTBL ∧ Cond.initialized (mN z).cls ∈ mTBL ∧ ((mN z).cls ≠ "java/lang/invoke/MethodHandle" ∧ (mN z).cls ≠ "java/lang/invoke/VarHandle") ∧ (parseMethodDescriptor (mN z).desc).map (fun d => d.parameters.length) = some k
def mOkV (z : mM) (k : Nat) : Prop := mOk z k ∧ Cond.instanceMethod (mN z) ∈ mTBL ∧ Cond.selects (mN z).cls (mN z) (mN z) ∈ mTBL
def mOkS (z : mM) (k : Nat) : Prop := mOk z k ∧ Cond.static (mN z) ∈ mTBL
def mOkH (z : mM) (k : Nat) : Prop := Cond.codeWith (mN z) (mB z) (mL z) (mT z) (mHH z) ∈ mTBL ∧ Cond.initialized (mN z).cls ∈ mTBL ∧ ((mN z).cls ≠ "java/lang/invoke/MethodHandle" ∧ (mN z).cls ≠ "java/lang/invoke/VarHandle") ∧ (parseMethodDescriptor (mN z).desc).map (fun d => d.parameters.length) = some k ∧ Cond.static (mN z) ∈ mTBL
def mFit (y z : mM) : Prop := mFr z + 1 ≤ mFr y ∧ 8 + (mL z + 11) + mLo z ≤ mLo y
def mLk (y : mM) (ix : Nat) (z : mM) : Prop := Cond.methodLink (mN y).cls ix (mN z) ∈ mTBL
def mLkN (y : mM) (ix : Nat) (z : mM) : Prop := ((mN y).cls, ix, mN z, "PusherRoom") ∈ mNest
theorem mTBL_good {ws : List Cond} (h : ∀ w ∈ ws, w ∈ mTBL) : GoodIn mTBL ws := fun w hw => ⟨h w hw, good_of_word (List.mem_filter.mp (h w hw)).2⟩
theorem mWs_in {z : mM} {k : Nat} (h : mOk z k) : ∀ w ∈ mWs z, w ∈ mTBL := fun w hw => by
  rcases List.mem_cons.mp hw with rfl | hw
  · exact h.1
  · exact hw
section CALLS
variable {E : mEnv} {y z : mM} {ad : Nat → Nat} {p : Program} {e : Env} {R : Room} {s : State} {m : MethodId} {args : Array Value} {below : List Frame} {meth : Method} {c : Code} {A : Nat → Prop} {H : Heap} {locs : List Loc} {cells slots : Nat} {QQ : State → Prop} {w w' : mW} {ls : Array Slot} {pc n k : Nat} {L : List (Option Value)} {st As : List Value} {G : mG} {v : Option Value} {X : String}
/-- behind a call that answers -/
theorem mRun_go {n0 : Nat} {a : Array Value} {st0 : List Value} (C : mCx E y ad p R s m args meth c A) (hw : mWd E ad s A w H locs)
    (hr : va_Run p E.1 e R s m args below meth c H locs cells slots n0 (6 * n0) (F0 m pc ls st0) (st.map (mcV ad)) (mQv E ad w H.size v w' a) (va_A (mcW E.2.2.1 ad w) H.size))
    (kk : ∀ (H1 : Heap) (locs1 : List Loc), mWd E ad s A w' H1 locs1 → W p E.1 e R s m args below meth c H1 locs1 (cells + n0) (slots + 6 * n0) QQ (F0 m (pc + 3) ls ((v.toList ++ st).map (mcV ad)))) : W p E.1 e R s m args below meth c H locs cells slots QQ (F0 m pc ls st0) := by
  intro T hT Y
  obtain ⟨v0, st₀, t, T', L0, h0, X', hL, e1, e2, ⟨hv, hP, hD, hF⟩, hst⟩ := hr T hT Y
  cases hv
  have hfree := mWd.free C.2.2.2.2.2.2.2.2.2.1 hw
  obtain ⟨hz, hk⟩ := hF
  rw [h0] at hz hk
  have hS := hw.2.2
  have hd : mWd E ad s A w' T'.heap (locs ++ L0) := ⟨by rw [e1]; exact hP, hD.weaken (fun _ q _ h => hfree q.1 h), Nat.le_trans hS.1 (by rw [e1]; exact hz), fun q h1 h2 => by rw [e1, hk q (Nat.lt_of_lt_of_le h1 hS.1) (fun b => h2 (hfree q b))]; exact hS.2.1 q h1 h2, fun q hq => by
    rcases List.mem_append.mp hq with h | h
    · exact hS.2.2 q h
    · exact hfree _ (hL q h)⟩
  obtain ⟨t2, a1, b1⟩ := kk T'.heap (locs ++ L0) hd T' rfl X'
  refine ⟨t2, hst t2 ?_, b1⟩
  have e3 : (v.toList ++ st).map (mcV ad) = (v.map (mcV ad)).toList ++ st.map (mcV ad) := by cases v <;> simp
  rw [e3] at a1
  exact a1
/-- behind a call that throws -/
theorem mRun_x {st0 : List Value} (C : mCx E y ad p R s m args meth c A) (hw : mWd E ad s A w H locs)
    (hr : vx_Run p E.1 e R s m args below meth c H locs cells slots 1 6 (F0 m pc ls st0) (st.map (mcV ad)) (fun _ _ _ => False) (mXc E ad w H.size X w') (va_A (mcW E.2.2.1 ad w) H.size))
    (kk : ∀ (H1 : Heap) (locs1 : List Loc) (q : Addr) (ce : Cell), mWd E ad s A w' H1 locs1 → H1[q]? = some ce → ce.vm = .none → s.vm.findClass X = some ce.cls → vx_W p E.1 e R s m args below meth c H1 locs1 (cells + 1) (slots + 6) QQ (F0 m pc ls (st.map (mcV ad))) q) : W p E.1 e R s m args below meth c H locs cells slots QQ (F0 m pc ls st0) := by
  intro T hT Y
  rcases hr T hT Y with ⟨v0, st₀, t, T', L0, h0, X', hL, e1, e2, hv, hst⟩ | ⟨q, st₀, t, T', L0, E0, ce, h0, X', hL, e1, e2, ⟨hv, hP, hD, hF⟩, hce, hcv, hcl, hst⟩
  · exact hv.elim
  · subst hv
    have hfree := mWd.free C.2.2.2.2.2.2.2.2.2.1 hw
    obtain ⟨hz, hk⟩ := hF
    rw [h0] at hz hk
    have hS := hw.2.2
    have hd : mWd E ad s A w' T'.heap (locs ++ L0) := ⟨by rw [e1]; exact hP, hD.weaken (fun _ q _ h => hfree q.1 h), Nat.le_trans hS.1 (by rw [e1]; exact hz), fun q h1 h2 => by rw [e1, hk q (Nat.lt_of_lt_of_le h1 hS.1) (fun b => h2 (hfree q b))]; exact hS.2.1 q h1 h2, fun q hq => by
      rcases List.mem_append.mp hq with h | h
      · exact hS.2.2 q h
      · exact hfree _ (hL q h)⟩
    obtain ⟨t2, a1, b1⟩ := kk T'.heap (locs ++ L0) q ce hd (by rw [e1]; exact hce) hcv hcl T' rfl X'
    exact ⟨t2, hst.trans a1, b1⟩
theorem mRoom {st : List Value} {ad : Nat → Nat} {m : MethodId} {pc : Nat} {ls : Array Slot} {rest : List Value} (h : Nat.ble ((st.map fun v => v.category).sum) 8 = true) : 2 * (F0 m pc ls rest).monitorRoom + ((st.map (mcV ad)).map fun v => v.category).sum ≤ 8 := lv_room (by rw [mcV_cats]; exact Nat.le_of_ble_eq_true h)
theorem mStk (ad : Nat → Nat) (r : Nat) (As st : List Value) : (As.reverse ++ .ref r :: st).map (mcV ad) = (As.map (mcV ad)).reverse ++ .ref (ad r) :: st.map (mcV ad) := by simp [mcV]
theorem mStkS (ad : Nat → Nat) (As st : List Value) : (As.reverse ++ st).map (mcV ad) = (As.map (mcV ad)).reverse ++ st.map (mcV ad) := by simp
/-- the receiver's cell -/
theorem mRecv {ci r : Nat} {fs : List Value} {q : vw_C} (C : mCx E y ad p R s m args meth c A) (hw : mWd E ad s A w H locs) (hm : mget w r = some (.inr (ci, fs))) (hq : vwCl[ci]? = some q) : ∃ cell : Cell, H[ad r]? = some cell ∧ cell.vm.isStatics = false ∧ s.vm.findClass q.1 = some cell.cls := by
  obtain ⟨q0, h1, -⟩ := mcW_at E.2.2.1 ad hm
  exact va_recv C.2.2.2.2.2.2.2.2.2.2.1.1 hw.1 hq h1
theorem mFix (C : mCx E y ad p R s m args meth c A) : CallFix p m c (mB y) (mL y) s args mTBL (mN y).cls := ⟨C.1, C.2.1, C.2.2.2.1, C.2.2.2.2.1, C.2.2.2.2.2.1⟩
/-- a virtual call that answers -/
theorem g_callV {ix n0 n1 r ci : Nat} {fs : List Value} {q : vw_C} (d : decode (mB y) pc = .ok (.invokevirtual ix, 3)) (hz : mOkV z As.length) (hlk : mLk y ix z) (hft : mFit y z) (hR : Rt E z n0 (.ref r :: As) w v w')
    (hm : mget w r = some (.inr (ci, fs))) (hq : vwCl[ci]? = some q) (hcls : q.1 = (mN z).cls) (hcat : Nat.ble ((st.map fun v => v.category).sum) 8 = true) (hst : L.length = L.length) {st9 : List Value} (h9 : As.reverse ++ .ref r :: st = st9)
    (k : Go E y n (pc + 3, L, v.toList ++ st, w') G) (hn : n0 + n = n1) : Go E y n1 (pc, L, st9, w) G := by
  intro ad p e R s m args below meth c A C cells slots QQ hc hs hT H locs ls hw hl
  subst h9; subst hn
  show W p E.1 e R s m args below meth c H locs cells slots QQ (F0 m pc ls ((As.reverse ++ .ref r :: st).map (mcV ad)))
  rw [mStk]
  have hM := hR ad H.size
  have cw : CallW R s args (mN y).cls (mN z).cls ix (mN z) (mB z) (mL z) (mT z) (mWs z) (mRm z n0) n0 (6 * n0) As.length :=
    cwV As.length C.2.2.2.2.2.1 (mTBL_good fun w0 h0 => by
      unfold wsV at h0
      rcases List.mem_append.mp h0 with h0 | h0
      · simp only [List.mem_cons, List.not_mem_nil, or_false] at h0
        rcases h0 with rfl | rfl | rfl | rfl
        · exact hlk
        · exact hz.2.1
        · exact hz.2.2
        · exact hz.1.2.1
      · exact mWs_in hz.1 w0 h0) rfl rfl rfl ⟨rfl, hz.1.2.2.1.1, hz.1.2.2.1.2, hz.1.2.2.2⟩ ⟨Nat.le_trans hft.1 C.2.2.2.2.2.2.2.1, Nat.le_trans hft.2 C.2.2.2.2.2.2.2.2.1⟩
  have hrun := va_runV (p := p) (e := e) (below := below) (meth := meth) (H := H) (locs := locs) (cells := cells) (slots := slots) (As := As.map (mcV ad)) (rest := st.map (mcV ad)) (g := F0 m pc ls ((As.map (mcV ad)).reverse ++ .ref (ad r) :: st.map (mcV ad))) (mFix C) hM cw
    ⟨mPre.blind, by rw [← hcls]; exact mRecv C hw hm hq, fun U hU hW => ⟨rfl, mPre.of C hw hU hW⟩⟩ rfl (by rw [List.length_map]) hl.1 rfl (mRoom hcat) d ⟨by omega, by omega⟩
  refine mRun_go C hw hrun (fun H1 locs1 hd => ?_)
  refine k ad p e R s m args below meth c A C (cells + n0) (slots + 6 * n0) QQ (by omega) (by omega) ?_ H1 locs1 ls hd hl
  rw [show cells + n0 + n = cells + (n0 + n) by omega, show slots + 6 * n0 + 6 * n = slots + 6 * (n0 + n) by omega]
  exact hT
/-- a static call that answers -/
theorem g_callS {ix n0 n1 : Nat} (d : decode (mB y) pc = .ok (.invokestatic ix, 3)) (hz : mOkS z As.length) (hlk : mLk y ix z) (hft : mFit y z) (hR : Rt E z n0 As w v w')
    (hcat : Nat.ble ((st.map fun v => v.category).sum) 8 = true) {st9 : List Value} (h9 : As.reverse ++ st = st9)
    (k : Go E y n (pc + 3, L, v.toList ++ st, w') G) (hn : n0 + n = n1) : Go E y n1 (pc, L, st9, w) G := by
  intro ad p e R s m args below meth c A C cells slots QQ hc hs hT H locs ls hw hl
  subst h9; subst hn
  show W p E.1 e R s m args below meth c H locs cells slots QQ (F0 m pc ls ((As.reverse ++ st).map (mcV ad)))
  rw [mStkS]
  have hM := hR ad H.size
  have cw : CallB R s args (mN y).cls ix (mN z) (mB z) (mL z) (mT z) (mWs z) (mRm z n0) n0 (6 * n0) As.length ∧ (Cond.static (mN z)).before args s = true :=
    va_cwS As.length C.2.2.2.2.2.1 (mTBL_good fun w0 h0 => by
      unfold va_wsS at h0
      rcases List.mem_append.mp h0 with h0 | h0
      · simp only [List.mem_cons, List.not_mem_nil, or_false] at h0
        rcases h0 with rfl | rfl | rfl
        · exact hlk
        · exact hz.2
        · exact hz.1.2.1
      · exact mWs_in hz.1 w0 h0) rfl rfl rfl ⟨hz.1.2.2.1.1, hz.1.2.2.1.2, hz.1.2.2.2⟩ ⟨Nat.le_trans hft.1 C.2.2.2.2.2.2.2.1, Nat.le_trans hft.2 C.2.2.2.2.2.2.2.2.1⟩
  have hrun := va_runS (p := p) (e := e) (below := below) (meth := meth) (H := H) (locs := locs) (cells := cells) (slots := slots) (As := As.map (mcV ad)) (rest := st.map (mcV ad)) (g := F0 m pc ls ((As.map (mcV ad)).reverse ++ st.map (mcV ad))) (mFix C) hM cw
    ⟨mPre.blind, fun U hU hW => ⟨rfl, mPre.of C hw hU hW⟩⟩ rfl (by rw [List.length_map]) hl.1 rfl (mRoom hcat) d ⟨by omega, by omega⟩
  refine mRun_go C hw hrun (fun H1 locs1 hd => ?_)
  refine k ad p e R s m args below meth c A C (cells + n0) (slots + 6 * n0) QQ (by omega) (by omega) ?_ H1 locs1 ls hd hl
  rw [show cells + n0 + n = cells + (n0 + n) by omega, show slots + 6 * n0 + 6 * n = slots + 6 * (n0 + n) by omega]
  exact hT
/-- a static call of a nest mate's method -/
theorem g_callN {ix n0 n1 : Nat} (d : decode (mB y) pc = .ok (.invokestatic ix, 3)) (hz : mOkS z As.length) (hlk : mLkN y ix z) (hft : mFit y z) (hR : Rt E z n0 As w v w')
    (hcat : Nat.ble ((st.map fun v => v.category).sum) 8 = true) {st9 : List Value} (h9 : As.reverse ++ st = st9)
    (k : Go E y n (pc + 3, L, v.toList ++ st, w') G) (hn : n0 + n = n1) : Go E y n1 (pc, L, st9, w) G := by
  intro ad p e R s m args below meth c A C cells slots QQ hc hs hT H locs ls hw hl
  subst h9; subst hn
  show W p E.1 e R s m args below meth c H locs cells slots QQ (F0 m pc ls ((As.reverse ++ st).map (mcV ad)))
  rw [mStkS]
  have hM := hR ad H.size
  have cw : va_CN R s args (mN y).cls ix (mN z) "PusherRoom" (mB z) (mL z) (mT z) (mWs z) (mRm z n0) n0 (6 * n0) As.length :=
    va_cnB As.length C.2.2.2.2.2.1 (mTBL_good (mWs_in hz.1)) rfl rfl rfl (C.2.2.2.2.2.2.2.2.2.2.1.2.1 _ hlk) (C.2.2.2.2.2.1 _ hz.1.2.1) ⟨hz.1.2.2.1.1, hz.1.2.2.1.2, hz.1.2.2.2⟩ ⟨Nat.le_trans hft.1 C.2.2.2.2.2.2.2.1, Nat.le_trans hft.2 C.2.2.2.2.2.2.2.2.1⟩
  have hrun := va_runSN (p := p) (e := e) (below := below) (meth := meth) (H := H) (locs := locs) (cells := cells) (slots := slots) (As := As.map (mcV ad)) (rest := st.map (mcV ad)) (g := F0 m pc ls ((As.map (mcV ad)).reverse ++ st.map (mcV ad))) (mFix C) hM ⟨cw, C.2.2.2.2.2.1 _ hz.2, trivial⟩
    ⟨mPre.blind, fun U hU hW => ⟨rfl, mPre.of C hw hU hW⟩⟩ rfl (by rw [List.length_map]) hl.1 rfl (mRoom hcat) d ⟨by omega, by omega⟩
  refine mRun_go C hw hrun (fun H1 locs1 hd => ?_)
  refine k ad p e R s m args below meth c A C (cells + n0) (slots + 6 * n0) QQ (by omega) (by omega) ?_ H1 locs1 ls hd hl
  rw [show cells + n0 + n = cells + (n0 + n) by omega, show slots + 6 * n0 + 6 * n = slots + 6 * (n0 + n) by omega]
  exact hT
/-- a static call of a method with a table of its own -/
theorem g_callH {ix n0 n1 : Nat} (d : decode (mB y) pc = .ok (.invokestatic ix, 3)) (hz : mOkH z As.length) (hlk : mLk y ix z) (hft : mFit y z) (hR : Rh E z n0 As w v w')
    (hcat : Nat.ble ((st.map fun v => v.category).sum) 8 = true) {st9 : List Value} (h9 : As.reverse ++ st = st9)
    (k : Go E y n (pc + 3, L, v.toList ++ st, w') G) (hn : n0 + n = n1) : Go E y n1 (pc, L, st9, w) G := by
  intro ad p e R s m args below meth c A C cells slots QQ hc hs hT H locs ls hw hl
  subst h9; subst hn
  show W p E.1 e R s m args below meth c H locs cells slots QQ (F0 m pc ls ((As.reverse ++ st).map (mcV ad)))
  rw [mStkS]
  have hM := hR ad H.size
  have hin : ∀ w ∈ mWh z, w ∈ mTBL := fun w hw => by
    rcases List.mem_cons.mp hw with rfl | hw
    · exact hz.1
    · exact hw
  have cw : vx_CSW R s args (mN y).cls ix (mN z) (mB z) (mL z) (mT z) (mHH z) (mWh z) (mRm z n0) n0 (6 * n0) As.length :=
    vx_cwSW As.length C.2.2.2.2.2.1 (mTBL_good fun w0 h0 => by
      unfold va_wsS at h0
      rcases List.mem_append.mp h0 with h0 | h0
      · simp only [List.mem_cons, List.not_mem_nil, or_false] at h0
        rcases h0 with rfl | rfl | rfl
        · exact hlk
        · exact hz.2.2.2.2
        · exact hz.2.1
      · exact hin w0 h0) rfl rfl rfl ⟨hz.2.2.1.1, hz.2.2.1.2, hz.2.2.2.1⟩ ⟨Nat.le_trans hft.1 C.2.2.2.2.2.2.2.1, Nat.le_trans hft.2 C.2.2.2.2.2.2.2.2.1⟩
  have hrun := vx_runSW (p := p) (e := e) (below := below) (meth := meth) (H := H) (locs := locs) (cells := cells) (slots := slots) (As := As.map (mcV ad)) (rest := st.map (mcV ad)) (g := F0 m pc ls ((As.map (mcV ad)).reverse ++ st.map (mcV ad))) (mFix C) hM cw
    ⟨mPre.blind, fun U hU hW => ⟨rfl, mPre.of C hw hU hW⟩⟩ rfl (by rw [List.length_map]) hl.1 rfl (mRoom hcat) d ⟨by omega, by omega⟩
  refine mRun_go C hw hrun (fun H1 locs1 hd => ?_)
  refine k ad p e R s m args below meth c A C (cells + n0) (slots + 6 * n0) QQ (by omega) (by omega) ?_ H1 locs1 ls hd hl
  rw [show cells + n0 + n = cells + (n0 + n) by omega, show slots + 6 * n0 + 6 * n = slots + 6 * (n0 + n) by omega]
  exact hT
/-- a virtual call that throws, not caught here -/
theorem g_xcallV {ix r ci : Nat} {fs : List Value} {q : vw_C} (d : decode (mB y) pc = .ok (.invokevirtual ix, 3)) (hz : mOkV z As.length) (hlk : mLk y ix z) (hft : mFit y z) (hR : Rx E z (.ref r :: As) w X w')
    (hm : mget w r = some (.inr (ci, fs))) (hq : vwCl[ci]? = some q) (hcls : q.1 = (mN z).cls) (hcat : Nat.ble ((st.map fun v => v.category).sum) 8 = true) {st9 : List Value} (h9 : As.reverse ++ .ref r :: st = st9) : Go E y 1 (pc, L, st9, w) (.inr (.inr (X, w'))) := by
  intro ad p e R s m args below meth c A C cells slots QQ hc hs hT H locs ls hw hl
  subst h9
  show W p E.1 e R s m args below meth c H locs cells slots QQ (F0 m pc ls ((As.reverse ++ .ref r :: st).map (mcV ad)))
  rw [mStk]
  have hM := hR ad H.size
  have cw : CallW R s args (mN y).cls (mN z).cls ix (mN z) (mB z) (mL z) (mT z) (mWs z) (mRm z 1) 1 6 As.length :=
    cwV As.length C.2.2.2.2.2.1 (mTBL_good fun w0 h0 => by
      unfold wsV at h0
      rcases List.mem_append.mp h0 with h0 | h0
      · simp only [List.mem_cons, List.not_mem_nil, or_false] at h0
        rcases h0 with rfl | rfl | rfl | rfl
        · exact hlk
        · exact hz.2.1
        · exact hz.2.2
        · exact hz.1.2.1
      · exact mWs_in hz.1 w0 h0) rfl rfl rfl ⟨rfl, hz.1.2.2.1.1, hz.1.2.2.1.2, hz.1.2.2.2⟩ ⟨Nat.le_trans hft.1 C.2.2.2.2.2.2.2.1, Nat.le_trans hft.2 C.2.2.2.2.2.2.2.2.1⟩
  have hrun := vx_runV (p := p) (e := e) (below := below) (meth := meth) (H := H) (locs := locs) (cells := cells) (slots := slots) (As := As.map (mcV ad)) (rest := st.map (mcV ad)) (g := F0 m pc ls ((As.map (mcV ad)).reverse ++ .ref (ad r) :: st.map (mcV ad))) (mFix C) hM cw
    ⟨mPre.blind, by rw [← hcls]; exact mRecv C hw hm hq, fun U hU hW => ⟨rfl, mPre.of C hw hU hW⟩⟩ rfl (by rw [List.length_map]) hl.1 rfl (mRoom hcat) d ⟨by omega, by omega⟩
  exact mRun_x C hw hrun (fun H1 locs1 q9 ce hd h1 h2 h3 => hT.2 H1 locs1 ls pc _ q9 ce hd h1 h2 h3)
/-- a static call that throws, not caught here -/
theorem g_xcallS {ix : Nat} (d : decode (mB y) pc = .ok (.invokestatic ix, 3)) (hz : mOkS z As.length) (hlk : mLk y ix z) (hft : mFit y z) (hR : Rx E z As w X w')
    (hcat : Nat.ble ((st.map fun v => v.category).sum) 8 = true) {st9 : List Value} (h9 : As.reverse ++ st = st9) : Go E y 1 (pc, L, st9, w) (.inr (.inr (X, w'))) := by
  intro ad p e R s m args below meth c A C cells slots QQ hc hs hT H locs ls hw hl
  subst h9
  show W p E.1 e R s m args below meth c H locs cells slots QQ (F0 m pc ls ((As.reverse ++ st).map (mcV ad)))
  rw [mStkS]
  have hM := hR ad H.size
  have cw : CallB R s args (mN y).cls ix (mN z) (mB z) (mL z) (mT z) (mWs z) (mRm z 1) 1 6 As.length ∧ (Cond.static (mN z)).before args s = true :=
    va_cwS As.length C.2.2.2.2.2.1 (mTBL_good fun w0 h0 => by
      unfold va_wsS at h0
      rcases List.mem_append.mp h0 with h0 | h0
      · simp only [List.mem_cons, List.not_mem_nil, or_false] at h0
        rcases h0 with rfl | rfl | rfl
        · exact hlk
        · exact hz.2
        · exact hz.1.2.1
      · exact mWs_in hz.1 w0 h0) rfl rfl rfl ⟨hz.1.2.2.1.1, hz.1.2.2.1.2, hz.1.2.2.2⟩ ⟨Nat.le_trans hft.1 C.2.2.2.2.2.2.2.1, Nat.le_trans hft.2 C.2.2.2.2.2.2.2.2.1⟩
  have hrun := vx_runS (p := p) (e := e) (below := below) (meth := meth) (H := H) (locs := locs) (cells := cells) (slots := slots) (As := As.map (mcV ad)) (rest := st.map (mcV ad)) (g := F0 m pc ls ((As.map (mcV ad)).reverse ++ st.map (mcV ad))) (mFix C) hM cw
    ⟨mPre.blind, fun U hU hW => ⟨rfl, mPre.of C hw hU hW⟩⟩ rfl (by rw [List.length_map]) hl.1 rfl (mRoom hcat) d ⟨by omega, by omega⟩
  exact mRun_x C hw hrun (fun H1 locs1 q9 ce hd h1 h2 h3 => hT.2 H1 locs1 ls pc _ q9 ce hd h1 h2 h3)
end CALLS
/-- a body that throws -/
theorem Rx.of {E : mEnv} {y : mM} {As : List Value} {w w' : mW} {X : String} (hl : E.1.stackTraces = false) (h0 : mHH y = []) (hy : plainName (mN y).cls = true) (he : (mEnt As).length ≤ mL y) (h : Go E y 1 (0, mEnd As (mL y), [], w) (.inr (.inr (X, w')))) : Rx E y As w X w' := by
  intro ad sz
  refine vx_ofW (cc := mB y) (maxL := mL y) (ret := mT y) hy rfl ?_
  intro p e s m args below meth c s₁ B hml hnt hv
  obtain ⟨rfl, hsz, hP, hD0, hst, had⟩ := hv
  have hts := atoms_spec (ws := mWs y) B.pre
  have hown : s.vm.findClass (mN y).cls = some m.cls := findClass_of_methodNamed B.named
  have hlocks := B.notSynchronized
  subst hsz
  have hD := hD0.self (sz := s.heap.size)
  rw [lg_entry_eq]
  have C : mCx E y ad p (mRm y 1) s m (As.map (mcV ad)).toArray meth c (va_A (mcW E.2.2.1 ad w) s.heap.size) := ⟨B.exec, B.bytes, B.returns, hml, hown, fun w h => hts w (List.mem_cons_of_mem _ h), hlocks, Nat.le_refl _, Nat.le_refl _, fun q hq => Or.inr hq, hst, hl, had, fun h => absurd h0 h⟩
  have hall : ∀ w0 ∈ mTBL, w0.before (As.map (mcV ad)).toArray s = true := C.2.2.2.2.2.1
  refine h ad p e (mRm y 1) s m _ below meth c (va_A (mcW E.2.2.1 ad w) s.heap.size) C 0 0 _ (by show 0 + 1 ≤ 1; omega) (by show 0 + 6 * 1 ≤ 6 * 1; omega) ?_ s.heap [] _ ⟨hP, hD, va_S.rf⟩ (mEnd_ls ad As he)
  refine ⟨fun H locs ls pc st c1 s1 hw hsize hthr hcat h1 h2 => ?_, fun H locs ls pc st q ce hw h1 h2 h3 => ?_⟩
  · obtain ⟨qP, qD, qS⟩ := hw
    obtain ⟨ik, is, ic, text, names, hdec, hX, hnm, hk, hini, hstr, hg1, hg2, hgood, hfr, hlo⟩ := hthr
    obtain ⟨k1, k2, k3, k4, k5, k6, k7, k8, -, -⟩ := hst
    have hat : ∀ w ∈ vx_atS (mN y).cls ic X names, w.before (As.map (mcV ad)).toArray s = true := by
      refine vx_hat (B := (vx_atS (mN y).cls ic X names).filter (fun w => !goodWord w)) (fun w0 h0 => hall _ (hg1 w0 h0)) (fun w0 h0 => h0) (fun w0 h0 => ?_)
      rcases hg2 w0 h0 with ⟨q, hq, rfl⟩ | ⟨q, hq, rfl⟩
      · exact va_Nw.use rfl (k5 q hq)
      · exact va_Nw.use rfl (k6 q hq)
    have hxc : ∀ t : State, s.vm.Alike t.vm → H.size ≤ t.heap.size → (∀ q : Nat, q < H.size → t.heap[q]? = H[q]?) → mXc E ad w s.heap.size X w' X s t := by
      intro t ht hz hk9
      have hkept : va_P E.2.1 vwCl (mcW E.2.2.1 ad w') t.heap := qP.kept fun k q hq => hk9 q.1 (qP k q hq).lt
      exact ⟨rfl, hkept, qD, Nat.le_trans qS.1 hz, fun q g1 g2 => by rw [hk9 q (Nat.lt_of_lt_of_le g1 qS.1)]; exact qS.2.1 q g1 g2⟩
    rcases hdec with ⟨d0, d3, d4, d6, d9⟩ | ⟨d0, d3, d4, d6, d9⟩
    · exact vx_throwS (names := names) B.exec B.bytes hl hown hX hnm (hall _ hk) (hall _ hini) (k3 _ hstr) hat hgood k7 k8 qS (hsize.trans hml.symm) d0 d3 d4 d6 d9 (fun x hx => (hnt x hx).elim) hfr (Nat.le_trans (by omega) hlo) (by show c1 + 1 ≤ 1; omega) (by show s1 + 6 ≤ 6; omega) hlocks hxc qS.2.2 (by omega) (by omega)
    · exact vx_throwSW (names := names) B.exec B.bytes hl hown hX hnm (hall _ hk) (hall _ hini) (k3 _ hstr) hat hgood k7 k8 qS (hsize.trans hml.symm) d0 d3 d4 d6 d9 (fun x hx => (hnt x hx).elim) hfr (Nat.le_trans (by omega) hlo) (by show c1 + 1 ≤ 1; omega) (by show s1 + 6 ≤ 6; omega) hlocks hxc qS.2.2 (by omega) (by omega)
  · obtain ⟨qP, qD, qS⟩ := hw
    exact vx_out (fun x hx => (hnt x hx).elim) hlocks h1 h2 h3 (fun t ht _ => ⟨rfl, by rw [ht]; exact qP, qD, qS.F ht⟩) qS.2.2 (by omega) (by omega)

/-- a body with a table of its own, that answers -/
theorem Rh.of {E : mEnv} {y : mM} {n : Nat} {As : List Value} {w w' : mW} {v : Option Value} (hl : E.1.stackTraces = false) (hy : plainName (mN y).cls = true) (he : (mEnt As).length ≤ mL y) (h : Go E y n (0, mEnd As (mL y), [], w) (.inr (.inl (v, w')))) : Rh E y n As w v w' := by
  intro ad sz
  refine va_MetW (cc := mB y) (maxL := mL y) (ret := mT y) (hh := mHH y) hy rfl ?_
  intro p e s m args below meth c s₁ B hml hv
  obtain ⟨rfl, hsz, hP, hD0, hst, had⟩ := hv
  have hts := atoms_spec (ws := mWh y) B.pre
  have hown : s.vm.findClass (mN y).cls = some m.cls := findClass_of_methodNamed B.named
  have hlocks := B.notSynchronized
  subst hsz
  have hD := hD0.self (sz := s.heap.size)
  rw [lg_entry_eq]
  have C : mCx E y ad p (mRm y n) s m (As.map (mcV ad)).toArray meth c (va_A (mcW E.2.2.1 ad w) s.heap.size) := ⟨B.exec, B.bytes, B.returns, hml, hown, fun w h => hts w (List.mem_cons_of_mem _ h), hlocks, Nat.le_refl _, Nat.le_refl _, fun q hq => Or.inr hq, hst, hl, had, fun _ => vx_table (x := mN y) B (hts _ List.mem_cons_self)⟩
  refine h ad p e (mRm y n) s m _ below meth c (va_A (mcW E.2.2.1 ad w) s.heap.size) C 0 0 _ (by show 0 + n ≤ n; omega) (by show 0 + 6 * n ≤ 6 * n; omega) ?_ s.heap [] _ ⟨hP, hD, va_S.rf⟩ (mEnd_ls ad As he)
  intro H locs ls pc i hw hd hr
  rw [Nat.zero_add, Nat.zero_add]
  obtain ⟨qP, qD, qS⟩ := hw
  have fin : ∀ (t : State) (o : Outcome), t.heap = H → o = .returned (v.map (mcV ad)) → mQv E ad w s.heap.size v w' (As.map (mcV ad)).toArray s o t := fun t o ht ho => ⟨ho, by rw [ht]; exact qP, qD, qS.F ht⟩
  rcases hr with ⟨rfl, ty, x, h1, rfl, h3⟩ | ⟨rfl, h1, x, rfl⟩ | ⟨rfl, h1, rfl⟩
  · exact W.zret B.exec B.bytes (B.returns.trans h1) h3 (fun t ht _ => fin t _ ht rfl) qS.2.2 hd hlocks
  · exact W.lret B.exec B.bytes (B.returns.trans h1) (fun t ht _ => fin t _ ht rfl) qS.2.2 hd hlocks
  · exact W.vret B.exec B.bytes (B.returns.trans h1) (fun t ht _ => fin t _ ht rfl) qS.2.2 hd hlocks
def mPass (y : mM) (X : String) (pc : Nat) (z : ExceptionTableEntry) : Prop := covers z pc = false ∨ (z.catchType ≠ 0 ∧ ∃ nm : String, Cond.classLink (mN y).cls z.catchType nm ∈ mTBL ∧ (X, nm) ∈ mNcs)
/-- a virtual call that throws, caught by the row x of this method's table; the handler's first step puts it away into the local i -/
theorem g_catchV {E : mEnv} {y z : mM} {w w' : mW} {pc n n1 : Nat} {L : List (Option Value)} {st As : List Value} {G : mG} {X : String} {ix r ci : Nat} {fs : List Value} {q : vw_C} (d : decode (mB y) pc = .ok (.invokevirtual ix, 3)) (hz : mOkV z As.length) (hlk : mLk y ix z) (hft : mFit y z) (hR : Rx E z (.ref r :: As) w X w')
    (hm : mget w r = some (.inr (ci, fs))) (hq : vwCl[ci]? = some q) (hcls : q.1 = (mN z).cls) (hcat : Nat.ble ((st.map fun v => v.category).sum) 8 = true) {st9 : List Value} (h9 : As.reverse ++ .ref r :: st = st9)
    (pre : List ExceptionTableEntry) (x : ExceptionTableEntry) (suf : List ExceptionTableEntry) (hhh : mHH y ≠ []) (hsplit : tableOf (mHH y) = pre ++ x :: suf) (hpass : ∀ z ∈ pre, mPass y X pc z) (hx : covers x pc = true) (h0 : x.catchType ≠ 0) (hlink : Cond.classLink (mN y).cls x.catchType X ∈ mTBL) (hcast : (X, X) ∈ mCas)
    {i : Fin 4} (d2 : decode (mB y) x.handlerPc = .ok (.astore_n i, 1)) (hn : Nat.ble ((i : Nat) + 1) L.length = true) {L' : List (Option Value)} (hL' : (mst L (i : Nat) (.int 0)).set (i : Nat) none = L') (k : Go E y n (x.handlerPc + 1, L', [], w') G) (hn1 : 1 + n = n1) : Go E y n1 (pc, L, st9, w) G := by
  intro ad p e R s m args below meth c A C cells slots QQ hc hs hT H locs ls hw hl
  subst h9; subst hn1; subst hL'
  show W p E.1 e R s m args below meth c H locs cells slots QQ (F0 m pc ls ((As.reverse ++ .ref r :: st).map (mcV ad)))
  rw [mStk]
  have hM := hR ad H.size
  have cw : CallW R s args (mN y).cls (mN z).cls ix (mN z) (mB z) (mL z) (mT z) (mWs z) (mRm z 1) 1 6 As.length :=
    cwV As.length C.2.2.2.2.2.1 (mTBL_good fun w0 h0 => by
      unfold wsV at h0
      rcases List.mem_append.mp h0 with h0 | h0
      · simp only [List.mem_cons, List.not_mem_nil, or_false] at h0
        rcases h0 with rfl | rfl | rfl | rfl
        · exact hlk
        · exact hz.2.1
        · exact hz.2.2
        · exact hz.1.2.1
      · exact mWs_in hz.1 w0 h0) rfl rfl rfl ⟨rfl, hz.1.2.2.1.1, hz.1.2.2.1.2, hz.1.2.2.2⟩ ⟨Nat.le_trans hft.1 C.2.2.2.2.2.2.2.1, Nat.le_trans hft.2 C.2.2.2.2.2.2.2.2.1⟩
  have hrun := vx_runV (p := p) (e := e) (below := below) (meth := meth) (H := H) (locs := locs) (cells := cells) (slots := slots) (As := As.map (mcV ad)) (rest := st.map (mcV ad)) (g := F0 m pc ls ((As.map (mcV ad)).reverse ++ .ref (ad r) :: st.map (mcV ad))) (mFix C) hM cw
    ⟨mPre.blind, by rw [← hcls]; exact mRecv C hw hm hq, fun U hU hW => ⟨rfl, mPre.of C hw hU hW⟩⟩ rfl (by rw [List.length_map]) hl.1 rfl (mRoom hcat) d ⟨by omega, by omega⟩
  refine mRun_x C hw hrun (fun H1 locs1 q9 ce hd h1 h2 h3 => ?_)
  obtain ⟨-, -, -, k4, -, k6, -⟩ := C.2.2.2.2.2.2.2.2.2.2.1
  refine vx_catch C.2.2.2.2.1 pre x suf ((C.2.2.2.2.2.2.2.2.2.2.2.2.2 hhh).trans hsplit) (fun z9 hz9 => ?_) hx h0 (C.2.2.2.2.2.1 _ hlink) (va_Nw.use rfl (k6 _ hcast)) h1 h2 h3 ?_
  · rcases hpass z9 hz9 with h | ⟨h4, nm, h5, h6⟩
    · exact Or.inl h
    · exact Or.inr ⟨h4, nm, C.2.2.2.2.2.1 _ h5, k4 _ h6⟩
  · refine lv_astore_n (lv := mLv ad L) C.1 C.2.1 d2 rfl hl.has (by have := Nat.le_of_ble_eq_true hn; have : L.length = mL y := hl.2.2.1; omega) rfl (fun ls' h => ?_)
    have hl' : mLs ad (mL y) ls' ((mst L (i : Nat) (.int 0)).set (i : Nat) none) := by
      refine ⟨h.1, h.2.1, by rw [List.length_set, mst_len]; exact hl.2.2.1, fun j u hj => ?_⟩
      by_cases hji : (i : Nat) = j
      · subst hji
        rw [List.getElem?_set] at hj
        simp only [if_true] at hj
        split at hj <;> simp at hj
      · rw [List.getElem?_set_ne hji] at hj
        rcases mst_get hj with ⟨g1, g2⟩ | ⟨g1, g2, g3, g4⟩
        · exact absurd g1.symm hji
        · refine h.2.2 (j, mcV ad u) (List.mem_cons_of_mem _ (List.mem_filter.mpr ⟨mLv_mem g4, ?_⟩))
          have e1 : (j == (i : Nat)) = false := by simp [g1]
          have e2 : (j + 1 == (i : Nat) && (mcV ad u).category == 2) = false := by
            rw [mcV_cat]
            simp only [Bool.and_eq_false_iff, beq_eq_false_iff_ne]
            by_cases q : j + 1 = (i : Nat)
            · exact Or.inr fun z => g3 ⟨q, z⟩
            · exact Or.inl q
          show (!(j == (i : Nat)) && !(j + 1 == (i : Nat) && (mcV ad u).category == 2)) = true
          rw [e1, e2]; rfl
    refine k ad p e R s m args below meth c A C (cells + 1) (slots + 6) QQ (by omega) (by omega) ?_ H1 locs1 ls' hd hl'
    rw [show cells + 1 + n = cells + (1 + n) by omega, show slots + 6 + 6 * n = slots + 6 * (1 + n) by omega]
    exact hT
end
section
/-! THE METHODS as the plain machine has them, and their links, fields, words (printed by wip/whole/gen/tab.py) -/
theorem tb_all {w : Cond} (h : w ∈ tables_1) : w ∈ lw_tbl := List.mem_append_right _ h
theorem tb_1 : ∀ w ∈ tables_1_1, w ∈ lw_tbl := fun w h => tb_all (List.mem_append_left _ h)
theorem tb_2 : ∀ w ∈ tables_1_2, w ∈ lw_tbl := fun w h => tb_all (List.mem_append_right _ (List.mem_append_left _ h))
theorem tb_3 : ∀ w ∈ tables_1_3, w ∈ lw_tbl := fun w h => tb_all (List.mem_append_right _ (List.mem_append_right _ (List.mem_append_left _ h)))
theorem tb_4 : ∀ w ∈ tables_1_4, w ∈ lw_tbl := fun w h => tb_all (List.mem_append_right _ (List.mem_append_right _ (List.mem_append_right _ (List.mem_append_left _ h))))
theorem tb_5 : ∀ w ∈ tables_1_5, w ∈ lw_tbl := fun w h => tb_all (List.mem_append_right _ (List.mem_append_right _ (List.mem_append_right _ (List.mem_append_right _ (List.mem_append_left _ h)))))
theorem tb_6 : ∀ w ∈ tables_1_6, w ∈ lw_tbl := fun w h => tb_all (List.mem_append_right _ (List.mem_append_right _ (List.mem_append_right _ (List.mem_append_right _ (List.mem_append_right _ (List.mem_append_left _ h))))))
theorem tb_7 : ∀ w ∈ tables_1_7, w ∈ lw_tbl := fun w h => tb_all (List.mem_append_right _ (List.mem_append_right _ (List.mem_append_right _ (List.mem_append_right _ (List.mem_append_right _ (List.mem_append_right _ (List.mem_append_left _ h)))))))
theorem tb_8 : ∀ w ∈ tables_1_8, w ∈ lw_tbl := fun w h => tb_all (List.mem_append_right _ (List.mem_append_right _ (List.mem_append_right _ (List.mem_append_right _ (List.mem_append_right _ (List.mem_append_right _ (List.mem_append_right _ (h))))))))
def M_X11_init : mM := (yX11_init, cX11_init, 1, none, [], 3, 53)
def M_X10_init : mM := (yX10_init, cX10_init, 1, none, [], 1, 12)
def M_X7_init : mM := (yX7_init, cX7_init, 1, none, [], 2, 32)
def M_X7_clear : mM := (yX7_clear, cX7_clear, 1, none, [], 1, 12)
def M_X0_init : mM := (yX0_init, cX0_init, 1, none, [], 2, 33)
def M_X2_init : mM := (yX2_init, cX2_init, 1, none, [], 1, 12)
def M_X6_init : mM := (yX6_init, cX6_init, 2, none, [], 1, 12)
def M_X4_init : mM := (yX4_init, cX4_init, 1, none, [], 1, 12)
def M_X3_init : mM := (yX3_init, cX3_init, 1, none, [], 1, 12)
def M_X1_init : mM := (yX1_init, cX1_init, 2, none, [], 2, 32)
def M_X5_init : mM := (yX5_init, cX5_init, 2, none, [], 1, 12)
def M_X8_init : mM := (yX8_init, cX8_init, 2, none, [], 1, 12)
def M_X9_init : mM := (yX9_init, cX9_init, 1, none, [], 1, 12)
def M_L_feed : mM := (yL_feed, cL_feed, 4, (some .int), [(0, 9, 12, 13), (0, 9, 15, 15)], 7, 111)
def M_X11_feed : mM := (yX11_feed, cX11_feed, 2, (some .int), [], 6, 90)
def M_X10_add : mM := (yX10_add, cX10_add, 2, none, [], 1, 12)
def M_L_readRoom : mM := (yL_readRoom, cL_readRoom, 3, (some .int), [(0, 8, 11, 21)], 11, 244)
def M_X11_readRoom : mM := (yX11_readRoom, cX11_readRoom, 3, (some .int), [], 10, 222)
def M_X10_take : mM := (yX10_take, cX10_take, 2, (some .int), [], 1, 12)
def M_X7_read : mM := (yX7_read, cX7_read, 6, (some .int), [], 9, 197)
def M_X10_at : mM := (yX10_at, cX10_at, 2, (some .char), [], 1, 12)
def M_X7_endRow : mM := (yX7_endRow, cX7_endRow, 1, (some .boolean), [], 1, 12)
def M_X7_addCell : mM := (yX7_addCell, cX7_addCell, 7, (some .boolean), [], 8, 171)
def M_J0_indexOf_0f7a4 : mM := (yJ0_indexOf_0f7a4, cJ0_indexOf_0f7a4, 2, (some .int), [], 7, 150)
def M_J0_indexOf_7cf53 : mM := (yJ0_indexOf_7cf53, cJ0_indexOf_7cf53, 3, (some .int), [], 6, 128)
def M_J0_isLatin1_aae02 : mM := (yJ0_isLatin1_aae02, cJ0_isLatin1_aae02, 1, (some .boolean), [], 1, 12)
def M_J0_length_8abf5 : mM := (yJ0_length_8abf5, cJ0_length_8abf5, 1, (some .int), [], 2, 32)
def M_J0_coder_7d493 : mM := (yJ0_coder_7d493, cJ0_coder_7d493, 1, (some .byte), [], 1, 12)
def M_J1_indexOf_4cfef : mM := (yJ1_indexOf_4cfef, cJ1_indexOf_4cfef, 4, (some .int), [], 2, 37)
def M_J1_canEncode_9a6ad : mM := (yJ1_canEncode_9a6ad, cJ1_canEncode_9a6ad, 1, (some .boolean), [], 1, 12)
def M_J9_max_7cf53 : mM := (yJ9_max_7cf53, cJ9_max_7cf53, 2, (some .int), [], 1, 12)
def M_J9_min_7cf53 : mM := (yJ9_min_7cf53, cJ9_min_7cf53, 2, (some .int), [], 1, 12)
def M_J1_indexOfChar_4cfef : mM := (yJ1_indexOfChar_4cfef, cJ1_indexOfChar_4cfef, 6, (some .int), [], 1, 12)
def M_J0_checkBoundsBeginEnd_23922 : mM := (yJ0_checkBoundsBeginEnd_23922, cJ0_checkBoundsBeginEnd_23922, 3, none, [], 2, 35)
def M_X11_bit : mM := (yX11_bit, cX11_bit, 1, (some .long), [], 1, 12)
def M_X7_isRoom : mM := (yX7_isRoom, cX7_isRoom, 1, (some .boolean), [], 2, 32)
def M_X7_isSide : mM := (yX7_isSide, cX7_isSide, 1, (some .boolean), [], 1, 12)
def M_X0_begin : mM := (yX0_begin, cX0_begin, 2, none, [], 4, 85)
def M_X2_lay : mM := (yX2_lay, cX2_lay, 3, none, [], 3, 63)
def M_X2_pulled : mM := (yX2_pulled, cX2_pulled, 9, (some .long), [], 2, 35)
def M_X11_opposite : mM := (yX11_opposite, cX11_opposite, 1, (some .int), [], 1, 12)
def M_X2_moved : mM := (yX2_moved, cX2_moved, 4, (some .long), [], 1, 12)
def M_X6_put : mM := (yX6_put, cX6_put, 4, none, [], 1, 12)
def M_X0_returnTo : mM := (yX0_returnTo, cX0_returnTo, 5, none, [], 2, 35)
def M_X3_clear : mM := (yX3_clear, cX3_clear, 1, none, [], 1, 12)
def M_J13_bitCount_95d88 : mM := (yJ13_bitCount_95d88, cJ13_bitCount_95d88, 2, (some .int), [], 1, 12)
def M_L_cell : mM := (yL_cell, cL_cell, 5, (some .int), [(0, 10, 13, 15), (0, 10, 17, 27)], 8, 132)
def M_X11_cell : mM := (yX11_cell, cX11_cell, 3, (some .char), [], 7, 110)
def M_X11_requireRoom : mM := (yX11_requireRoom, cX11_requireRoom, 1, none, [], 6, 90)
def M_X2_isLaid : mM := (yX2_isLaid, cX2_isLaid, 1, (some .boolean), [], 1, 12)
def M_X2_hasPlace : mM := (yX2_hasPlace, cX2_hasPlace, 3, (some .boolean), [], 1, 12)
def M_X0_signOf : mM := (yX0_signOf, cX0_signOf, 3, (some .char), [], 3, 54)
def M_X11_has : mM := (yX11_has, cX11_has, 3, (some .boolean), [], 2, 32)
def M_L_cells : mM := (yL_cells, cL_cells, 4, (some .int), [(0, 8, 11, 15), (0, 8, 14, 13)], 8, 134)
def M_X11_cells : mM := (yX11_cells, cX11_cells, 5, (some .long), [], 7, 110)
def M_X6_area : mM := (yX6_area, cX6_area, 1, (some .long), [], 4, 86)
def M_X6_free : mM := (yX6_free, cX6_free, 1, (some .long), [], 1, 12)
def M_X2_spread : mM := (yX2_spread, cX2_spread, 10, (some .long), [], 3, 57)
def M_X2_beside : mM := (yX2_beside, cX2_beside, 3, (some .long), [], 2, 35)
def M_X2_frozen : mM := (yX2_frozen, cX2_frozen, 18, (some .long), [], 2, 35)
def M_X2_tunnelsInRow : mM := (yX2_tunnelsInRow, cX2_tunnelsInRow, 1, (some .long), [], 2, 35)
def M_X2_tunnelsInColumn : mM := (yX2_tunnelsInColumn, cX2_tunnelsInColumn, 1, (some .long), [], 2, 35)
def M_L_count : mM := (yL_count, cL_count, 4, (some .int), [(0, 9, 12, 13)], 7, 156)
def M_X11_count : mM := (yX11_count, cX11_count, 3, (some .int), [], 6, 134)
def M_X0_pushes : mM := (yX0_pushes, cX0_pushes, 3, (some .int), [], 2, 33)
def M_X11_intAt : mM := (yX11_intAt, cX11_intAt, 2, (some .int), [], 1, 12)
def M_X11_isPushCode : mM := (yX11_isPushCode, cX11_isPushCode, 1, (some .boolean), [], 1, 12)
def M_X2_groups : mM := (yX2_groups, cX2_groups, 7, (some .int), [], 4, 86)
def M_X1_howMany : mM := (yX1_howMany, cX1_howMany, 2, (some .int), [], 5, 113)
def M_X1_goalsOf : mM := (yX1_goalsOf, cX1_goalsOf, 8, (some .long), [], 4, 86)
def M_X1_entrances : mM := (yX1_entrances, cX1_entrances, 3, (some .long), [], 3, 57)
def M_X6_isSolved : mM := (yX6_isSolved, cX6_isSolved, 1, (some .boolean), [], 1, 12)
def M_L_distance : mM := (yL_distance, cL_distance, 5, (some .int), [(0, 10, 13, 15), (0, 10, 17, 27), (0, 10, 21, 41)], 8, 134)
def M_X11_distance : mM := (yX11_distance, cX11_distance, 5, (some .int), [], 7, 110)
def M_X2_leastPushes : mM := (yX2_leastPushes, cX2_leastPushes, 10, (some .int), [], 3, 60)
def M_X2_lonePushed : mM := (yX2_lonePushed, cX2_lonePushed, 6, (some .long), [], 2, 35)
def M_L_bound : mM := (yL_bound, cL_bound, 3, (some .int), [(0, 8, 11, 15), (0, 8, 14, 41)], 8, 158)
def M_X11_bound : mM := (yX11_bound, cX11_bound, 2, (some .int), [], 7, 137)
def M_X5_leastSum : mM := (yX5_leastSum, cX5_leastSum, 6, (some .int), [], 5, 112)
def M_X5_measure : mM := (yX5_measure, cX5_measure, 5, (some .int), [], 4, 88)
def M_X5_measureFrom : mM := (yX5_measureFrom, cX5_measureFrom, 9, none, [], 3, 60)
def M_X11_setInt : mM := (yX11_setInt, cX11_setInt, 3, none, [], 1, 12)
def M_X5_offer : mM := (yX5_offer, cX5_offer, 5, none, [], 3, 59)
def M_X5_offerTo : mM := (yX5_offerTo, cX5_offerTo, 6, none, [], 2, 34)
def M_L_stuck : mM := (yL_stuck, cL_stuck, 4, (some .int), [(0, 9, 12, 15)], 8, 134)
def M_X11_stuck : mM := (yX11_stuck, cX11_stuck, 5, (some .int), [], 7, 110)
def M_X2_stuckReason : mM := (yX2_stuckReason, cX2_stuckReason, 3, (some .int), [], 3, 72)
def M_X2_stuckDetail : mM := (yX2_stuckDetail, cX2_stuckDetail, 4, (some .int), [], 3, 72)
def M_X11_lowest : mM := (yX11_lowest, cX11_lowest, 2, (some .int), [], 2, 33)
def M_L_goalRoom : mM := (yL_goalRoom, cL_goalRoom, 5, (some .int), [(0, 10, 13, 15), (0, 10, 17, 41)], 8, 137)
def M_X11_goalRoom : mM := (yX11_goalRoom, cX11_goalRoom, 5, (some .int), [], 7, 113)
def M_X1_goalAt : mM := (yX1_goalAt, cX1_goalAt, 7, (some .int), [], 4, 87)
def M_X4_lay : mM := (yX4_lay, cX4_lay, 11, none, [], 3, 57)
def M_X11_setLong : mM := (yX11_setLong, cX11_setLong, 4, none, [], 1, 12)
def M_X4_at : mM := (yX4_at, cX4_at, 2, (some .long), [], 2, 33)
def M_X11_longAt : mM := (yX11_longAt, cX11_longAt, 2, (some .long), [], 1, 12)
def M_L_step : mM := (yL_step, cL_step, 4, (some .int), [(0, 9, 12, 13), (0, 9, 15, 15), (0, 9, 18, 56)], 8, 133)
def M_X11_step : mM := (yX11_step, cX11_step, 4, (some .int), [], 7, 110)
def M_X11_requireDirection : mM := (yX11_requireDirection, cX11_requireDirection, 1, none, [], 6, 90)
def M_X6_stepReason : mM := (yX6_stepReason, cX6_stepReason, 4, (some .int), [], 3, 60)
def M_X6_ahead : mM := (yX6_ahead, cX6_ahead, 2, (some .long), [], 2, 35)
def M_X6_boxReason : mM := (yX6_boxReason, cX6_boxReason, 6, (some .int), [], 2, 35)
def M_X6_stepDetail : mM := (yX6_stepDetail, cX6_stepDetail, 3, (some .int), [], 3, 56)
def M_X11_keepRefusal : mM := (yX11_keepRefusal, cX11_keepRefusal, 3, none, [], 1, 12)
def M_X3_begin : mM := (yX3_begin, cX3_begin, 2, none, [], 2, 35)
def M_X0_makeStep : mM := (yX0_makeStep, cX0_makeStep, 3, (some .boolean), [], 4, 80)
def M_X6_move : mM := (yX6_move, cX6_move, 5, (some .boolean), [], 3, 56)
def M_X11_codeOf : mM := (yX11_codeOf, cX11_codeOf, 2, (some .int), [], 1, 12)
def M_X3_commit : mM := (yX3_commit, cX3_commit, 1, none, [], 3, 56)
def M_X3_forgetOldest : mM := (yX3_forgetOldest, cX3_forgetOldest, 2, none, [], 2, 35)
def M_L_push : mM := (yL_push, cL_push, 5, (some .int), [(0, 10, 13, 13), (0, 10, 17, 15), (0, 10, 21, 27), (0, 10, 25, 56), (0, 10, 29, 21)], 10, 178)
def M_X11_push : mM := (yX11_push, cX11_push, 4, (some .int), [], 9, 155)
def M_X11_requirePush : mM := (yX11_requirePush, cX11_requirePush, 4, none, [], 8, 132)
def M_X11_requireBox : mM := (yX11_requireBox, cX11_requireBox, 3, none, [], 7, 110)
def M_X6_pushReason : mM := (yX6_pushReason, cX6_pushReason, 3, (some .int), [], 5, 106)
def M_X6_behind : mM := (yX6_behind, cX6_behind, 3, (some .long), [], 2, 35)
def M_X6_pushDetail : mM := (yX6_pushDetail, cX6_pushDetail, 4, (some .int), [], 3, 54)
def M_X0_pushBox : mM := (yX0_pushBox, cX0_pushBox, 3, none, [], 6, 125)
def M_X0_walkTo : mM := (yX0_walkTo, cX0_walkTo, 4, none, [], 5, 102)
def M_X4_find : mM := (yX4_find, cX4_find, 3, (some .int), [], 3, 54)
def M_X0_directionInto : mM := (yX0_directionInto, cX0_directionInto, 4, (some .int), [], 2, 35)
def M_X11_commitOrThrow : mM := (yX11_commitOrThrow, cX11_commitOrThrow, 1, none, [], 6, 90)
def M_X3_rollBack : mM := (yX3_rollBack, cX3_rollBack, 2, none, [], 3, 59)
def M_L_longPush : mM := (yL_longPush, cL_longPush, 5, (some .int), [(0, 10, 13, 13), (0, 10, 17, 15), (0, 10, 21, 27), (0, 10, 25, 56), (0, 10, 29, 21)], 10, 195)
def M_X11_longPush : mM := (yX11_longPush, cX11_longPush, 4, (some .int), [], 9, 172)
def M_X0_pushBoxOn : mM := (yX0_pushBoxOn, cX0_pushBoxOn, 6, (some .int), [], 7, 147)
def M_X2_tunnelsAlong : mM := (yX2_tunnelsAlong, cX2_tunnelsAlong, 2, (some .long), [], 3, 55)
def M_L_play : mM := (yL_play, cL_play, 3, (some .int), [(0, 8, 11, 15), (0, 8, 14, 56), (0, 8, 17, 21)], 10, 219)
def M_X11_play : mM := (yX11_play, cX11_play, 4, (some .int), [], 9, 196)
def M_X10_faultAsSteps : mM := (yX10_faultAsSteps, cX10_faultAsSteps, 5, (some .int), [], 8, 171)
def M_X10_isDigit : mM := (yX10_isDigit, cX10_isDigit, 3, (some .boolean), [], 1, 12)
def M_X11_playElements : mM := (yX11_playElements, cX11_playElements, 6, (some .boolean), [], 8, 171)
def M_X11_playElement : mM := (yX11_playElement, cX11_playElement, 6, (some .boolean), [], 5, 107)
def M_X11_directionOf : mM := (yX11_directionOf, cX11_directionOf, 1, (some .int), [], 1, 12)
def M_X6_letterReason : mM := (yX6_letterReason, cX6_letterReason, 5, (some .int), [], 4, 83)
def M_L_refused : mM := (yL_refused, cL_refused, 3, (some .int), [(0, 8, 11, 41)], 7, 110)
def M_X11_refused : mM := (yX11_refused, cX11_refused, 1, (some .int), [], 6, 90)
def M_L_refusal : mM := (yL_refusal, cL_refusal, 4, (some .int), [(0, 9, 12, 41)], 7, 111)
def M_X11_refusal : mM := (yX11_refusal, cX11_refusal, 2, (some .int), [], 6, 90)
def M_L_refuses : mM := (yL_refuses, cL_refuses, 5, (some .int), [(0, 10, 13, 13), (0, 10, 17, 15), (0, 10, 21, 27)], 9, 154)
def M_X11_refuses : mM := (yX11_refuses, cX11_refuses, 3, (some .int), [], 8, 132)
def M_L_solve : mM := (yL_solve, cL_solve, 5, (some .int), [(0, 10, 13, 13), (0, 10, 17, 15), (0, 10, 21, 21), (0, 10, 25, 41)], 9, 224)
def M_X11_solve : mM := (yX11_solve, cX11_solve, 3, (some .int), [], 8, 202)
def M_X11_searchAndKeep : mM := (yX11_searchAndKeep, cX11_searchAndKeep, 3, none, [], 7, 180)
def M_X8_run : mM := (yX8_run, cX8_run, 5, none, [], 6, 156)
def M_X8_add : mM := (yX8_add, cX8_add, 7, none, [], 3, 60)
def M_X8_slotFor : mM := (yX8_slotFor, cX8_slotFor, 8, (some .int), [], 2, 33)
def M_X8_visit : mM := (yX8_visit, cX8_visit, 8, none, [], 5, 129)
def M_X8_lookAt : mM := (yX8_lookAt, cX8_lookAt, 16, none, [], 4, 94)
def M_X9_keep : mM := (yX9_keep, cX9_keep, 4, none, [], 4, 76)
def M_X9_depthOf : mM := (yX9_depthOf, cX9_depthOf, 3, (some .int), [], 3, 54)
def M_X8_parentOf : mM := (yX8_parentOf, cX8_parentOf, 2, (some .int), [], 2, 33)
def M_X8_pushTo : mM := (yX8_pushTo, cX8_pushTo, 2, (some .int), [], 2, 33)
def M_L_solution : mM := (yL_solution, cL_solution, 5, (some .int), [(0, 10, 13, 41)], 7, 112)
def M_X11_solution : mM := (yX11_solution, cX11_solution, 3, (some .int), [], 6, 90)
def M_X9_directionAt : mM := (yX9_directionAt, cX9_directionAt, 2, (some .int), [], 2, 33)
def M_X9_cellAt : mM := (yX9_cellAt, cX9_cellAt, 2, (some .int), [], 2, 33)
def M_L_finish : mM := (yL_finish, cL_finish, 4, (some .int), [(0, 9, 12, 13), (0, 9, 15, 15), (0, 9, 18, 21), (0, 9, 21, 41)], 9, 225)
def M_X11_finish : mM := (yX11_finish, cX11_finish, 4, (some .int), [], 8, 202)
def M_L_recorded : mM := (yL_recorded, cL_recorded, 4, (some .int), [(0, 9, 12, 27)], 8, 159)
def M_X11_recorded : mM := (yX11_recorded, cX11_recorded, 2, (some .char), [], 7, 138)
def M_X11_letterOf : mM := (yX11_letterOf, cX11_letterOf, 1, (some .char), [], 6, 118)
def M_J0_charAt_5068e : mM := (yJ0_charAt_5068e, cJ0_charAt_5068e, 2, (some .char), [], 5, 97)
def M_J1_charAt_3b067 : mM := (yJ1_charAt_3b067, cJ1_charAt_3b067, 2, (some .char), [], 3, 55)
def M_J0_checkIndex_df160 : mM := (yJ0_checkIndex_df160, cJ0_checkIndex_df160, 2, none, [], 2, 34)
def M_L_isReplayed : mM := (yL_isReplayed, cL_isReplayed, 3, (some .int), [(0, 15, 18, 15)], 8, 149)
def M_X11_isReplayed : mM := (yX11_isReplayed, cX11_isReplayed, 1, (some .boolean), [], 7, 129)
def M_X0_comesOutAgain : mM := (yX0_comesOutAgain, cX0_comesOutAgain, 3, (some .boolean), [], 5, 107)
def M_X6_isLike : mM := (yX6_isLike, cX6_isLike, 2, (some .boolean), [], 1, 12)
def M_L_undo : mM := (yL_undo, cL_undo, 3, (some .int), [(0, 8, 11, 15)], 7, 121)
def M_X11_undo : mM := (yX11_undo, cX11_undo, 1, (some .int), [], 6, 101)
def M_X3_goBack : mM := (yX3_goBack, cX3_goBack, 2, none, [], 4, 80)
def M_L_saveSnapshot : mM := (yL_saveSnapshot, cL_saveSnapshot, 3, (some .int), [(0, 8, 11, 15)], 8, 130)
def M_X11_saveSnapshot : mM := (yX11_saveSnapshot, cX11_saveSnapshot, 1, (some .int), [], 7, 110)
def M_X0_copy : mM := (yX0_copy, cX0_copy, 3, none, [], 3, 59)
def M_X2_copy : mM := (yX2_copy, cX2_copy, 2, none, [], 1, 12)
def M_L_restoreSnapshot : mM := (yL_restoreSnapshot, cL_restoreSnapshot, 3, (some .int), [(0, 8, 11, 15)], 7, 110)
def M_X11_restoreSnapshot : mM := (yX11_restoreSnapshot, cX11_restoreSnapshot, 1, (some .int), [], 6, 90)
def M_X12_init : mM := (yX12_init, cX12_init, 1, none, [], 1, 12)
def M_X12_thrown : mM := (yX12_thrown, cX12_thrown, 1, (some .int), [], 1, 12)
def M_X12_undo : mM := (yX12_undo, cX12_undo, 2, (some .int), [], 1, 12)
def M_X12_saveSnapshot : mM := (yX12_saveSnapshot, cX12_saveSnapshot, 2, (some .int), [], 2, 32)
def M_X12_hasRoom : mM := (yX12_hasRoom, cX12_hasRoom, 1, (some .boolean), [], 1, 12)
def M_X12_restoreSnapshot : mM := (yX12_restoreSnapshot, cX12_restoreSnapshot, 2, (some .int), [], 1, 12)
def M_X12_feed : mM := (yX12_feed, cX12_feed, 2, (some .int), [], 2, 34)
def M_X12_in : mM := (yX12_in, cX12_in, 3, (some .boolean), [], 1, 12)
def M_X12_readRoom : mM := (yX12_readRoom, cX12_readRoom, 8, (some .int), [], 3, 58)
def M_X12_roomFault : mM := (yX12_roomFault, cX12_roomFault, 6, (some .int), [], 2, 32)
def M_X12_isBoxText : mM := (yX12_isBoxText, cX12_isBoxText, 1, (some .boolean), [], 1, 12)
def M_X12_isPlayerText : mM := (yX12_isPlayerText, cX12_isPlayerText, 1, (some .boolean), [], 1, 12)
def M_X12_isCell : mM := (yX12_isCell, cX12_isCell, 1, (some .boolean), [], 1, 12)
def M_X12_fails : mM := (yX12_fails, cX12_fails, 2, (some .int), [], 1, 12)
def M_X12_lays : mM := (yX12_lays, cX12_lays, 7, (some .int), [], 2, 32)
def M_X12_cell : mM := (yX12_cell, cX12_cell, 4, (some .char), [], 2, 34)
def M_X12_isOpen : mM := (yX12_isOpen, cX12_isOpen, 2, (some .boolean), [], 1, 12)
def M_X12_isBox : mM := (yX12_isBox, cX12_isBox, 2, (some .boolean), [], 1, 12)
def M_X12_isGoal : mM := (yX12_isGoal, cX12_isGoal, 2, (some .boolean), [], 1, 12)
def M_X12_cells : mM := (yX12_cells, cX12_cells, 5, (some .long), [], 5, 105)
def M_X12_dies : mM := (yX12_dies, cX12_dies, 3, none, [], 4, 83)
def M_X12_size : mM := (yX12_size, cX12_size, 1, (some .int), [], 1, 12)
def M_X12_pushesTo : mM := (yX12_pushesTo, cX12_pushesTo, 6, none, [], 3, 58)
def M_X12_opposite : mM := (yX12_opposite, cX12_opposite, 1, (some .int), [], 1, 12)
def M_X12_beside : mM := (yX12_beside, cX12_beside, 5, (some .int), [], 2, 34)
def M_X12_walksFrom : mM := (yX12_walksFrom, cX12_walksFrom, 5, none, [], 3, 58)
def M_X12_freezes : mM := (yX12_freezes, cX12_freezes, 3, none, [], 4, 82)
def M_X12_isBlocked : mM := (yX12_isBlocked, cX12_isBlocked, 5, (some .boolean), [], 3, 58)
def M_X12_isIn : mM := (yX12_isIn, cX12_isIn, 3, (some .boolean), [], 4, 80)
def M_X12_isTunnel : mM := (yX12_isTunnel, cX12_isTunnel, 3, (some .boolean), [], 3, 58)
def M_X12_count : mM := (yX12_count, cX12_count, 2, (some .int), [], 5, 106)
def M_X12_counted : mM := (yX12_counted, cX12_counted, 4, (some .int), [], 2, 33)
def M_X12_recordedPushes : mM := (yX12_recordedPushes, cX12_recordedPushes, 3, (some .int), [], 1, 12)
def M_X12_groups : mM := (yX12_groups, cX12_groups, 4, (some .int), [], 4, 82)
def M_X12_goalRooms : mM := (yX12_goalRooms, cX12_goalRooms, 4, (some .int), [], 4, 83)
def M_X12_gathers : mM := (yX12_gathers, cX12_gathers, 6, (some .boolean), [], 3, 58)
def M_X12_isSolved : mM := (yX12_isSolved, cX12_isSolved, 2, (some .boolean), [], 2, 33)
def M_X12_distance : mM := (yX12_distance, cX12_distance, 6, (some .int), [], 4, 83)
def M_X12_bound : mM := (yX12_bound, cX12_bound, 3, (some .int), [], 4, 83)
def M_X12_oneMore : mM := (yX12_oneMore, cX12_oneMore, 7, none, [], 2, 33)
def M_X12_stuck : mM := (yX12_stuck, cX12_stuck, 3, (some .int), [], 6, 126)
def M_X12_stuckFor : mM := (yX12_stuckFor, cX12_stuckFor, 3, (some .int), [], 5, 104)
def M_X12_goalRoom : mM := (yX12_goalRoom, cX12_goalRoom, 3, (some .int), [], 5, 108)
def M_X12_ordered : mM := (yX12_ordered, cX12_ordered, 7, (some .int), [], 4, 82)
def M_X12_plainSteps : mM := (yX12_plainSteps, cX12_plainSteps, 5, none, [], 3, 58)
def M_X12_step : mM := (yX12_step, cX12_step, 3, (some .int), [], 5, 103)
def M_X12_reasonForStep : mM := (yX12_reasonForStep, cX12_reasonForStep, 3, (some .int), [], 4, 81)
def M_X12_reasonForBox : mM := (yX12_reasonForBox, cX12_reasonForBox, 4, (some .int), [], 3, 58)
def M_X12_keeps : mM := (yX12_keeps, cX12_keeps, 3, (some .int), [], 2, 33)
def M_X12_remembers : mM := (yX12_remembers, cX12_remembers, 2, none, [], 1, 12)
def M_X12_commands : mM := (yX12_commands, cX12_commands, 2, none, [], 1, 12)
def M_X12_goes : mM := (yX12_goes, cX12_goes, 4, (some .int), [], 3, 58)
def M_X12_push : mM := (yX12_push, cX12_push, 3, (some .int), [], 6, 132)
def M_X12_pushing : mM := (yX12_pushing, cX12_pushing, 8, (some .int), [], 5, 105)
def M_X12_pushStops : mM := (yX12_pushStops, cX12_pushStops, 3, (some .int), [], 2, 34)
def M_X12_reasonForPush : mM := (yX12_reasonForPush, cX12_reasonForPush, 4, (some .int), [], 4, 82)
def M_X12_walksAndPushes : mM := (yX12_walksAndPushes, cX12_walksAndPushes, 4, none, [], 4, 82)
def M_X12_isNearer : mM := (yX12_isNearer, cX12_isNearer, 3, (some .boolean), [], 3, 58)
def M_X12_goesBack : mM := (yX12_goesBack, cX12_goesBack, 2, none, [], 1, 12)
def M_X12_longPush : mM := (yX12_longPush, cX12_longPush, 3, (some .int), [], 6, 132)
def M_X12_refuses : mM := (yX12_refuses, cX12_refuses, 3, (some .int), [], 5, 105)
def M_X12_play : mM := (yX12_play, cX12_play, 8, (some .int), [], 6, 127)
def M_X12_stepsFault : mM := (yX12_stepsFault, cX12_stepsFault, 2, (some .int), [], 2, 34)
def M_X12_directionOf : mM := (yX12_directionOf, cX12_directionOf, 1, (some .int), [], 1, 12)
def M_X12_reasonForLetter : mM := (yX12_reasonForLetter, cX12_reasonForLetter, 5, (some .int), [], 5, 103)
def M_X12_refused : mM := (yX12_refused, cX12_refused, 1, (some .int), [], 1, 12)
def M_X12_refusal : mM := (yX12_refusal, cX12_refusal, 2, (some .int), [], 1, 12)
def M_X12_solve : mM := (yX12_solve, cX12_solve, 4, (some .int), [], 8, 181)
def M_X12_searches : mM := (yX12_searches, cX12_searches, 7, (some .int), [], 7, 155)
def M_X12_finds : mM := (yX12_finds, cX12_finds, 8, none, [], 5, 103)
def M_X12_boxSet : mM := (yX12_boxSet, cX12_boxSet, 4, (some .long), [], 2, 33)
def M_X12_lowestHere : mM := (yX12_lowestHere, cX12_lowestHere, 2, (some .int), [], 4, 82)
def M_X12_takes : mM := (yX12_takes, cX12_takes, 3, none, [], 2, 32)
def M_X12_visits : mM := (yX12_visits, cX12_visits, 6, none, [], 6, 130)
def M_X12_solution : mM := (yX12_solution, cX12_solution, 3, (some .int), [], 2, 34)
def M_X12_finish : mM := (yX12_finish, cX12_finish, 4, (some .int), [], 9, 204)
def M_X12_recorded : mM := (yX12_recorded, cX12_recorded, 6, (some .char), [], 2, 34)
def M_X12_isReplayed : mM := (yX12_isReplayed, cX12_isReplayed, 1, (some .boolean), [], 2, 32)
def M_L_law : mM := (yL_law, cL_law, 8, (some .boolean), [], 12, 266)
theorem pn_X11 : plainName RX11 = true := by decide +kernel
theorem in_X11 : Cond.initialized RX11 ∈ mTBL := mTBL_of (tb_1 _ (List.mem_of_getElem? (i := 1) rfl)) rfl
theorem pn_X0 : plainName RX0 = true := by decide +kernel
theorem in_X0 : Cond.initialized RX0 ∈ mTBL := mTBL_of (tb_1 _ (List.mem_of_getElem? (i := 4) rfl)) rfl
theorem pn_X1 : plainName RX1 = true := by decide +kernel
theorem in_X1 : Cond.initialized RX1 ∈ mTBL := mTBL_of (tb_1 _ (List.mem_of_getElem? (i := 9) rfl)) rfl
theorem pn_X2 : plainName RX2 = true := by decide +kernel
theorem in_X2 : Cond.initialized RX2 ∈ mTBL := mTBL_of (tb_1 _ (List.mem_of_getElem? (i := 5) rfl)) rfl
theorem pn_X3 : plainName RX3 = true := by decide +kernel
theorem in_X3 : Cond.initialized RX3 ∈ mTBL := mTBL_of (tb_1 _ (List.mem_of_getElem? (i := 8) rfl)) rfl
theorem pn_X4 : plainName RX4 = true := by decide +kernel
theorem in_X4 : Cond.initialized RX4 ∈ mTBL := mTBL_of (tb_1 _ (List.mem_of_getElem? (i := 7) rfl)) rfl
theorem pn_X5 : plainName RX5 = true := by decide +kernel
theorem in_X5 : Cond.initialized RX5 ∈ mTBL := mTBL_of (tb_1 _ (List.mem_of_getElem? (i := 10) rfl)) rfl
theorem pn_X6 : plainName RX6 = true := by decide +kernel
theorem in_X6 : Cond.initialized RX6 ∈ mTBL := mTBL_of (tb_1 _ (List.mem_of_getElem? (i := 6) rfl)) rfl
theorem pn_X7 : plainName RX7 = true := by decide +kernel
theorem in_X7 : Cond.initialized RX7 ∈ mTBL := mTBL_of (tb_1 _ (List.mem_of_getElem? (i := 3) rfl)) rfl
theorem pn_X8 : plainName RX8 = true := by decide +kernel
theorem in_X8 : Cond.initialized RX8 ∈ mTBL := mTBL_of (tb_1 _ (List.mem_of_getElem? (i := 11) rfl)) rfl
theorem pn_X9 : plainName RX9 = true := by decide +kernel
theorem in_X9 : Cond.initialized RX9 ∈ mTBL := mTBL_of (tb_1 _ (List.mem_of_getElem? (i := 12) rfl)) rfl
theorem pn_X10 : plainName RX10 = true := by decide +kernel
theorem in_X10 : Cond.initialized RX10 ∈ mTBL := mTBL_of (tb_1 _ (List.mem_of_getElem? (i := 2) rfl)) rfl
theorem pn_L : plainName RL = true := by decide +kernel
theorem in_L : Cond.initialized RL ∈ mTBL := mTBL_of (tb_1 _ (List.mem_of_getElem? (i := 0) rfl)) rfl
theorem pn_X12 : plainName RX12 = true := by decide +kernel
theorem in_X12 : Cond.initialized RX12 ∈ mTBL := mTBL_of (tb_1 _ (List.mem_of_getElem? (i := 13) rfl)) rfl
theorem pn_J13 : plainName RJ13 = true := by decide +kernel
theorem in_J13 : Cond.initialized RJ13 ∈ mTBL := mTBL_of (tb_1 _ (List.mem_of_getElem? (i := 26) rfl)) rfl
theorem pn_J0 : plainName RJ0 = true := by decide +kernel
theorem in_J0 : Cond.initialized RJ0 ∈ mTBL := mTBL_of (tb_1 _ (List.mem_of_getElem? (i := 19) rfl)) rfl
theorem pn_J1 : plainName RJ1 = true := by decide +kernel
theorem in_J1 : Cond.initialized RJ1 ∈ mTBL := mTBL_of (tb_1 _ (List.mem_of_getElem? (i := 20) rfl)) rfl
theorem uw_X0 : u_ws RX0 TX0 7 = [.laysFinal "PusherRoom$Game" "PusherRoom$Game" "grid" "LPusherRoom$Grid;", .laysFinal "PusherRoom$Game" "PusherRoom$Game" "now" "LPusherRoom$Position;", .laysFinal "PusherRoom$Game" "PusherRoom$Game" "start" "LPusherRoom$Position;", .laysFinal "PusherRoom$Game" "PusherRoom$Game" "again" "LPusherRoom$Position;", .laysFinal "PusherRoom$Game" "PusherRoom$Game" "layers" "LPusherRoom$Layers;", .laysFinal "PusherRoom$Game" "PusherRoom$Game" "record" "[I", .lays "PusherRoom$Game" "PusherRoom$Game" "steps" "I"] := rfl
theorem iw_X0 : ∀ wd ∈ u_ws RX0 TX0 7, wd ∈ mTBL := by
  rw [uw_X0]
  exact List.forall_mem_cons.mpr ⟨mTBL_of (tb_1 _ (List.mem_of_getElem? (i := 198) rfl)) rfl, List.forall_mem_cons.mpr ⟨mTBL_of (tb_1 _ (List.mem_of_getElem? (i := 200) rfl)) rfl, List.forall_mem_cons.mpr ⟨mTBL_of (tb_1 _ (List.mem_of_getElem? (i := 202) rfl)) rfl, List.forall_mem_cons.mpr ⟨mTBL_of (tb_1 _ (List.mem_of_getElem? (i := 204) rfl)) rfl, List.forall_mem_cons.mpr ⟨mTBL_of (tb_1 _ (List.mem_of_getElem? (i := 206) rfl)) rfl, List.forall_mem_cons.mpr ⟨mTBL_of (tb_1 _ (List.mem_of_getElem? (i := 208) rfl)) rfl, List.forall_mem_cons.mpr ⟨mTBL_of (tb_1 _ (List.mem_of_getElem? (i := 210) rfl)) rfl, fun _ h => absurd h List.not_mem_nil⟩⟩⟩⟩⟩⟩⟩
theorem uw_X1 : u_ws RX1 TX1 2 = [.laysFinal "PusherRoom$GoalRooms" "PusherRoom$GoalRooms" "grid" "LPusherRoom$Grid;", .laysFinal "PusherRoom$GoalRooms" "PusherRoom$GoalRooms" "layers" "LPusherRoom$Layers;"] := rfl
theorem iw_X1 : ∀ wd ∈ u_ws RX1 TX1 2, wd ∈ mTBL := by
  rw [uw_X1]
  exact List.forall_mem_cons.mpr ⟨mTBL_of (tb_2 _ (List.mem_of_getElem? (i := 4) rfl)) rfl, List.forall_mem_cons.mpr ⟨mTBL_of (tb_2 _ (List.mem_of_getElem? (i := 6) rfl)) rfl, fun _ h => absurd h List.not_mem_nil⟩⟩
theorem uw_X2 : u_ws RX2 TX2 7 = [.lays "PusherRoom$Grid" "PusherRoom$Grid" "rows" "I", .lays "PusherRoom$Grid" "PusherRoom$Grid" "columns" "I", .lays "PusherRoom$Grid" "PusherRoom$Grid" "open" "J", .lays "PusherRoom$Grid" "PusherRoom$Grid" "goals" "J", .lays "PusherRoom$Grid" "PusherRoom$Grid" "dead" "J", .lays "PusherRoom$Grid" "PusherRoom$Grid" "firstColumn" "J", .lays "PusherRoom$Grid" "PusherRoom$Grid" "lastColumn" "J"] := rfl
theorem iw_X2 : ∀ wd ∈ u_ws RX2 TX2 7, wd ∈ mTBL := by
  rw [uw_X2]
  exact List.forall_mem_cons.mpr ⟨mTBL_of (tb_1 _ (List.mem_of_getElem? (i := 132) rfl)) rfl, List.forall_mem_cons.mpr ⟨mTBL_of (tb_1 _ (List.mem_of_getElem? (i := 134) rfl)) rfl, List.forall_mem_cons.mpr ⟨mTBL_of (tb_1 _ (List.mem_of_getElem? (i := 136) rfl)) rfl, List.forall_mem_cons.mpr ⟨mTBL_of (tb_1 _ (List.mem_of_getElem? (i := 138) rfl)) rfl, List.forall_mem_cons.mpr ⟨mTBL_of (tb_1 _ (List.mem_of_getElem? (i := 140) rfl)) rfl, List.forall_mem_cons.mpr ⟨mTBL_of (tb_1 _ (List.mem_of_getElem? (i := 142) rfl)) rfl, List.forall_mem_cons.mpr ⟨mTBL_of (tb_1 _ (List.mem_of_getElem? (i := 144) rfl)) rfl, fun _ h => absurd h List.not_mem_nil⟩⟩⟩⟩⟩⟩⟩
theorem uw_X3 : u_ws RX3 TX3 4 = [.laysFinal "PusherRoom$History" "PusherRoom$History" "boxes" "[J", .laysFinal "PusherRoom$History" "PusherRoom$History" "players" "[I", .laysFinal "PusherRoom$History" "PusherRoom$History" "steps" "[I", .lays "PusherRoom$History" "PusherRoom$History" "size" "I"] := rfl
theorem iw_X3 : ∀ wd ∈ u_ws RX3 TX3 4, wd ∈ mTBL := by
  rw [uw_X3]
  exact List.forall_mem_cons.mpr ⟨mTBL_of (tb_1 _ (List.mem_of_getElem? (i := 225) rfl)) rfl, List.forall_mem_cons.mpr ⟨mTBL_of (tb_1 _ (List.mem_of_getElem? (i := 227) rfl)) rfl, List.forall_mem_cons.mpr ⟨mTBL_of (tb_1 _ (List.mem_of_getElem? (i := 229) rfl)) rfl, List.forall_mem_cons.mpr ⟨mTBL_of (tb_1 _ (List.mem_of_getElem? (i := 231) rfl)) rfl, fun _ h => absurd h List.not_mem_nil⟩⟩⟩⟩
theorem uw_X4 : u_ws RX4 TX4 2 = [.laysFinal "PusherRoom$Layers" "PusherRoom$Layers" "sets" "[J", .lays "PusherRoom$Layers" "PusherRoom$Layers" "size" "I"] := rfl
theorem iw_X4 : ∀ wd ∈ u_ws RX4 TX4 2, wd ∈ mTBL := by
  rw [uw_X4]
  exact List.forall_mem_cons.mpr ⟨mTBL_of (tb_1 _ (List.mem_of_getElem? (i := 179) rfl)) rfl, List.forall_mem_cons.mpr ⟨mTBL_of (tb_1 _ (List.mem_of_getElem? (i := 181) rfl)) rfl, fun _ h => absurd h List.not_mem_nil⟩⟩
theorem uw_X5 : u_ws RX5 TX5 3 = [.laysFinal "PusherRoom$Matching" "PusherRoom$Matching" "grid" "LPusherRoom$Grid;", .laysFinal "PusherRoom$Matching" "PusherRoom$Matching" "distances" "[I", .laysFinal "PusherRoom$Matching" "PusherRoom$Matching" "sums" "[I"] := rfl
theorem iw_X5 : ∀ wd ∈ u_ws RX5 TX5 3, wd ∈ mTBL := by
  rw [uw_X5]
  exact List.forall_mem_cons.mpr ⟨mTBL_of (tb_2 _ (List.mem_of_getElem? (i := 18) rfl)) rfl, List.forall_mem_cons.mpr ⟨mTBL_of (tb_2 _ (List.mem_of_getElem? (i := 20) rfl)) rfl, List.forall_mem_cons.mpr ⟨mTBL_of (tb_2 _ (List.mem_of_getElem? (i := 22) rfl)) rfl, fun _ h => absurd h List.not_mem_nil⟩⟩⟩
theorem uw_X6 : u_ws RX6 TX6 3 = [.laysFinal "PusherRoom$Position" "PusherRoom$Position" "grid" "LPusherRoom$Grid;", .lays "PusherRoom$Position" "PusherRoom$Position" "boxes" "J", .lays "PusherRoom$Position" "PusherRoom$Position" "player" "I"] := rfl
theorem iw_X6 : ∀ wd ∈ u_ws RX6 TX6 3, wd ∈ mTBL := by
  rw [uw_X6]
  exact List.forall_mem_cons.mpr ⟨mTBL_of (tb_1 _ (List.mem_of_getElem? (i := 163) rfl)) rfl, List.forall_mem_cons.mpr ⟨mTBL_of (tb_1 _ (List.mem_of_getElem? (i := 165) rfl)) rfl, List.forall_mem_cons.mpr ⟨mTBL_of (tb_1 _ (List.mem_of_getElem? (i := 167) rfl)) rfl, fun _ h => absurd h List.not_mem_nil⟩⟩⟩
theorem uw_X7 : u_ws RX7 TX7 10 = [.lays "PusherRoom$RoomText" "PusherRoom$RoomText" "rows" "I", .lays "PusherRoom$RoomText" "PusherRoom$RoomText" "columns" "I", .lays "PusherRoom$RoomText" "PusherRoom$RoomText" "open" "J", .lays "PusherRoom$RoomText" "PusherRoom$RoomText" "goals" "J", .lays "PusherRoom$RoomText" "PusherRoom$RoomText" "boxes" "J", .lays "PusherRoom$RoomText" "PusherRoom$RoomText" "player" "I", .lays "PusherRoom$RoomText" "PusherRoom$RoomText" "width" "I", .lays "PusherRoom$RoomText" "PusherRoom$RoomText" "cellsRead" "I", .lays "PusherRoom$RoomText" "PusherRoom$RoomText" "goalCount" "I", .lays "PusherRoom$RoomText" "PusherRoom$RoomText" "boxCount" "I"] := rfl
theorem iw_X7 : ∀ wd ∈ u_ws RX7 TX7 10, wd ∈ mTBL := by
  rw [uw_X7]
  exact List.forall_mem_cons.mpr ⟨mTBL_of (tb_1 _ (List.mem_of_getElem? (i := 79) rfl)) rfl, List.forall_mem_cons.mpr ⟨mTBL_of (tb_1 _ (List.mem_of_getElem? (i := 81) rfl)) rfl, List.forall_mem_cons.mpr ⟨mTBL_of (tb_1 _ (List.mem_of_getElem? (i := 83) rfl)) rfl, List.forall_mem_cons.mpr ⟨mTBL_of (tb_1 _ (List.mem_of_getElem? (i := 85) rfl)) rfl, List.forall_mem_cons.mpr ⟨mTBL_of (tb_1 _ (List.mem_of_getElem? (i := 87) rfl)) rfl, List.forall_mem_cons.mpr ⟨mTBL_of (tb_1 _ (List.mem_of_getElem? (i := 89) rfl)) rfl, List.forall_mem_cons.mpr ⟨mTBL_of (tb_1 _ (List.mem_of_getElem? (i := 91) rfl)) rfl, List.forall_mem_cons.mpr ⟨mTBL_of (tb_1 _ (List.mem_of_getElem? (i := 93) rfl)) rfl, List.forall_mem_cons.mpr ⟨mTBL_of (tb_1 _ (List.mem_of_getElem? (i := 95) rfl)) rfl, List.forall_mem_cons.mpr ⟨mTBL_of (tb_1 _ (List.mem_of_getElem? (i := 97) rfl)) rfl, fun _ h => absurd h List.not_mem_nil⟩⟩⟩⟩⟩⟩⟩⟩⟩⟩
theorem uw_X8 : u_ws RX8 TX8 11 = [.laysFinal "PusherRoom$Search" "PusherRoom$Search" "grid" "LPusherRoom$Grid;", .laysFinal "PusherRoom$Search" "PusherRoom$Search" "boxes" "[J", .laysFinal "PusherRoom$Search" "PusherRoom$Search" "players" "[I", .laysFinal "PusherRoom$Search" "PusherRoom$Search" "parents" "[I", .laysFinal "PusherRoom$Search" "PusherRoom$Search" "pushes" "[I", .laysFinal "PusherRoom$Search" "PusherRoom$Search" "slots" "[I", .lays "PusherRoom$Search" "PusherRoom$Search" "limit" "I", .lays "PusherRoom$Search" "PusherRoom$Search" "withTables" "Z", .lays "PusherRoom$Search" "PusherRoom$Search" "found" "I", .lays "PusherRoom$Search" "PusherRoom$Search" "solved" "I", .lays "PusherRoom$Search" "PusherRoom$Search" "hasGivenUp" "Z"] := rfl
theorem iw_X8 : ∀ wd ∈ u_ws RX8 TX8 11, wd ∈ mTBL := by
  rw [uw_X8]
  exact List.forall_mem_cons.mpr ⟨mTBL_of (tb_2 _ (List.mem_of_getElem? (i := 46) rfl)) rfl, List.forall_mem_cons.mpr ⟨mTBL_of (tb_2 _ (List.mem_of_getElem? (i := 48) rfl)) rfl, List.forall_mem_cons.mpr ⟨mTBL_of (tb_2 _ (List.mem_of_getElem? (i := 50) rfl)) rfl, List.forall_mem_cons.mpr ⟨mTBL_of (tb_2 _ (List.mem_of_getElem? (i := 52) rfl)) rfl, List.forall_mem_cons.mpr ⟨mTBL_of (tb_2 _ (List.mem_of_getElem? (i := 54) rfl)) rfl, List.forall_mem_cons.mpr ⟨mTBL_of (tb_2 _ (List.mem_of_getElem? (i := 56) rfl)) rfl, List.forall_mem_cons.mpr ⟨mTBL_of (tb_2 _ (List.mem_of_getElem? (i := 58) rfl)) rfl, List.forall_mem_cons.mpr ⟨mTBL_of (tb_2 _ (List.mem_of_getElem? (i := 60) rfl)) rfl, List.forall_mem_cons.mpr ⟨mTBL_of (tb_2 _ (List.mem_of_getElem? (i := 62) rfl)) rfl, List.forall_mem_cons.mpr ⟨mTBL_of (tb_2 _ (List.mem_of_getElem? (i := 64) rfl)) rfl, List.forall_mem_cons.mpr ⟨mTBL_of (tb_2 _ (List.mem_of_getElem? (i := 66) rfl)) rfl, fun _ h => absurd h List.not_mem_nil⟩⟩⟩⟩⟩⟩⟩⟩⟩⟩⟩
theorem uw_X9 : u_ws RX9 TX9 3 = [.laysFinal "PusherRoom$Solution" "PusherRoom$Solution" "parts" "[I", .lays "PusherRoom$Solution" "PusherRoom$Solution" "pushes" "I", .lays "PusherRoom$Solution" "PusherRoom$Solution" "positions" "I"] := rfl
theorem iw_X9 : ∀ wd ∈ u_ws RX9 TX9 3, wd ∈ mTBL := by
  rw [uw_X9]
  exact List.forall_mem_cons.mpr ⟨mTBL_of (tb_2 _ (List.mem_of_getElem? (i := 80) rfl)) rfl, List.forall_mem_cons.mpr ⟨mTBL_of (tb_2 _ (List.mem_of_getElem? (i := 82) rfl)) rfl, List.forall_mem_cons.mpr ⟨mTBL_of (tb_2 _ (List.mem_of_getElem? (i := 84) rfl)) rfl, fun _ h => absurd h List.not_mem_nil⟩⟩⟩
theorem uw_X10 : u_ws RX10 TX10 2 = [.laysFinal "PusherRoom$TextInput" "PusherRoom$TextInput" "signs" "[C", .lays "PusherRoom$TextInput" "PusherRoom$TextInput" "length" "I"] := rfl
theorem iw_X10 : ∀ wd ∈ u_ws RX10 TX10 2, wd ∈ mTBL := by
  rw [uw_X10]
  exact List.forall_mem_cons.mpr ⟨mTBL_of (tb_1 _ (List.mem_of_getElem? (i := 47) rfl)) rfl, List.forall_mem_cons.mpr ⟨mTBL_of (tb_1 _ (List.mem_of_getElem? (i := 49) rfl)) rfl, fun _ h => absurd h List.not_mem_nil⟩⟩
theorem uw_X11 : u_ws RX11 TX11 12 = [.laysFinal "PusherRoom" "PusherRoom" "input" "LPusherRoom$TextInput;", .laysFinal "PusherRoom" "PusherRoom" "roomText" "LPusherRoom$RoomText;", .laysFinal "PusherRoom" "PusherRoom" "game" "LPusherRoom$Game;", .laysFinal "PusherRoom" "PusherRoom" "saved" "LPusherRoom$Game;", .laysFinal "PusherRoom" "PusherRoom" "history" "LPusherRoom$History;", .laysFinal "PusherRoom" "PusherRoom" "goalRooms" "LPusherRoom$GoalRooms;", .laysFinal "PusherRoom" "PusherRoom" "matching" "LPusherRoom$Matching;", .laysFinal "PusherRoom" "PusherRoom" "search" "LPusherRoom$Search;", .laysFinal "PusherRoom" "PusherRoom" "solution" "LPusherRoom$Solution;", .lays "PusherRoom" "PusherRoom" "keptReason" "I", .lays "PusherRoom" "PusherRoom" "keptDetail" "I", .lays "PusherRoom" "PusherRoom" "refusedStep" "I"] := rfl
theorem iw_X11 : ∀ wd ∈ u_ws RX11 TX11 12, wd ∈ mTBL := by
  rw [uw_X11]
  exact List.forall_mem_cons.mpr ⟨mTBL_of (tb_2 _ (List.mem_of_getElem? (i := 99) rfl)) rfl, List.forall_mem_cons.mpr ⟨mTBL_of (tb_2 _ (List.mem_of_getElem? (i := 101) rfl)) rfl, List.forall_mem_cons.mpr ⟨mTBL_of (tb_2 _ (List.mem_of_getElem? (i := 103) rfl)) rfl, List.forall_mem_cons.mpr ⟨mTBL_of (tb_2 _ (List.mem_of_getElem? (i := 105) rfl)) rfl, List.forall_mem_cons.mpr ⟨mTBL_of (tb_2 _ (List.mem_of_getElem? (i := 107) rfl)) rfl, List.forall_mem_cons.mpr ⟨mTBL_of (tb_2 _ (List.mem_of_getElem? (i := 109) rfl)) rfl, List.forall_mem_cons.mpr ⟨mTBL_of (tb_2 _ (List.mem_of_getElem? (i := 111) rfl)) rfl, List.forall_mem_cons.mpr ⟨mTBL_of (tb_2 _ (List.mem_of_getElem? (i := 113) rfl)) rfl, List.forall_mem_cons.mpr ⟨mTBL_of (tb_2 _ (List.mem_of_getElem? (i := 115) rfl)) rfl, List.forall_mem_cons.mpr ⟨mTBL_of (tb_2 _ (List.mem_of_getElem? (i := 117) rfl)) rfl, List.forall_mem_cons.mpr ⟨mTBL_of (tb_2 _ (List.mem_of_getElem? (i := 119) rfl)) rfl, List.forall_mem_cons.mpr ⟨mTBL_of (tb_2 _ (List.mem_of_getElem? (i := 121) rfl)) rfl, fun _ h => absurd h List.not_mem_nil⟩⟩⟩⟩⟩⟩⟩⟩⟩⟩⟩⟩
theorem uw_X12 : u_ws RX12 TX12 36 = [.laysFinal "PusherRoomModel" "PusherRoomModel" "g" "[I", .laysFinal "PusherRoomModel" "PusherRoomModel" "kept" "[I", .laysFinal "PusherRoomModel" "PusherRoomModel" "spare" "[I", .lays "PusherRoomModel" "PusherRoomModel" "hasKept" "Z", .laysFinal "PusherRoomModel" "PusherRoomModel" "past" "[I", .lays "PusherRoomModel" "PusherRoomModel" "pasts" "I", .lays "PusherRoomModel" "PusherRoomModel" "reason" "I", .lays "PusherRoomModel" "PusherRoomModel" "detail" "I", .lays "PusherRoomModel" "PusherRoomModel" "refusedStep" "I", .lays "PusherRoomModel" "PusherRoomModel" "thrown" "I", .laysFinal "PusherRoomModel" "PusherRoomModel" "text" "[I", .lays "PusherRoomModel" "PusherRoomModel" "length" "I", .lays "PusherRoomModel" "PusherRoomModel" "spot" "I", .lays "PusherRoomModel" "PusherRoomModel" "wide" "I", .lays "PusherRoomModel" "PusherRoomModel" "many" "I", .laysFinal "PusherRoomModel" "PusherRoomModel" "queue" "[I", .lays "PusherRoomModel" "PusherRoomModel" "queued" "I", .laysFinal "PusherRoomModel" "PusherRoomModel" "steps" "[I", .laysFinal "PusherRoomModel" "PusherRoomModel" "pushes" "[I", .laysFinal "PusherRoomModel" "PusherRoomModel" "isDead" "[Z", .laysFinal "PusherRoomModel" "PusherRoomModel" "isFrozen" "[Z", .lays "PusherRoomModel" "PusherRoomModel" "stuckAt" "I", .laysFinal "PusherRoomModel" "PusherRoomModel" "met" "[Z", .laysFinal "PusherRoomModel" "PusherRoomModel" "sums" "[I", .lays "PusherRoomModel" "PusherRoomModel" "entrance" "I", .laysFinal "PusherRoomModel" "PusherRoomModel" "members" "[I", .lays "PusherRoomModel" "PusherRoomModel" "detailHere" "I", .laysFinal "PusherRoomModel" "PusherRoomModel" "boxes" "[J", .laysFinal "PusherRoomModel" "PusherRoomModel" "lowest" "[I", .laysFinal "PusherRoomModel" "PusherRoomModel" "cameFrom" "[I", .laysFinal "PusherRoomModel" "PusherRoomModel" "byPush" "[I", .lays "PusherRoomModel" "PusherRoomModel" "found" "I", .laysFinal "PusherRoomModel" "PusherRoomModel" "solution" "[I", .lays "PusherRoomModel" "PusherRoomModel" "solutionPushes" "I", .lays "PusherRoomModel" "PusherRoomModel" "solutionFound" "I", .lays "PusherRoomModel" "PusherRoomModel" "gaveUp" "I"] := rfl
theorem iw_X12 : ∀ wd ∈ u_ws RX12 TX12 36, wd ∈ mTBL := by
  rw [uw_X12]
  exact List.forall_mem_cons.mpr ⟨mTBL_of (tb_6 _ (List.mem_of_getElem? (i := 135) rfl)) rfl, List.forall_mem_cons.mpr ⟨mTBL_of (tb_6 _ (List.mem_of_getElem? (i := 137) rfl)) rfl, List.forall_mem_cons.mpr ⟨mTBL_of (tb_6 _ (List.mem_of_getElem? (i := 139) rfl)) rfl, List.forall_mem_cons.mpr ⟨mTBL_of (tb_6 _ (List.mem_of_getElem? (i := 141) rfl)) rfl, List.forall_mem_cons.mpr ⟨mTBL_of (tb_6 _ (List.mem_of_getElem? (i := 143) rfl)) rfl, List.forall_mem_cons.mpr ⟨mTBL_of (tb_6 _ (List.mem_of_getElem? (i := 145) rfl)) rfl, List.forall_mem_cons.mpr ⟨mTBL_of (tb_6 _ (List.mem_of_getElem? (i := 147) rfl)) rfl, List.forall_mem_cons.mpr ⟨mTBL_of (tb_6 _ (List.mem_of_getElem? (i := 149) rfl)) rfl, List.forall_mem_cons.mpr ⟨mTBL_of (tb_6 _ (List.mem_of_getElem? (i := 151) rfl)) rfl, List.forall_mem_cons.mpr ⟨mTBL_of (tb_6 _ (List.mem_of_getElem? (i := 153) rfl)) rfl, List.forall_mem_cons.mpr ⟨mTBL_of (tb_6 _ (List.mem_of_getElem? (i := 155) rfl)) rfl, List.forall_mem_cons.mpr ⟨mTBL_of (tb_6 _ (List.mem_of_getElem? (i := 157) rfl)) rfl, List.forall_mem_cons.mpr ⟨mTBL_of (tb_6 _ (List.mem_of_getElem? (i := 159) rfl)) rfl, List.forall_mem_cons.mpr ⟨mTBL_of (tb_6 _ (List.mem_of_getElem? (i := 161) rfl)) rfl, List.forall_mem_cons.mpr ⟨mTBL_of (tb_6 _ (List.mem_of_getElem? (i := 163) rfl)) rfl, List.forall_mem_cons.mpr ⟨mTBL_of (tb_6 _ (List.mem_of_getElem? (i := 165) rfl)) rfl, List.forall_mem_cons.mpr ⟨mTBL_of (tb_6 _ (List.mem_of_getElem? (i := 167) rfl)) rfl, List.forall_mem_cons.mpr ⟨mTBL_of (tb_6 _ (List.mem_of_getElem? (i := 169) rfl)) rfl, List.forall_mem_cons.mpr ⟨mTBL_of (tb_6 _ (List.mem_of_getElem? (i := 171) rfl)) rfl, List.forall_mem_cons.mpr ⟨mTBL_of (tb_6 _ (List.mem_of_getElem? (i := 173) rfl)) rfl, List.forall_mem_cons.mpr ⟨mTBL_of (tb_6 _ (List.mem_of_getElem? (i := 175) rfl)) rfl, List.forall_mem_cons.mpr ⟨mTBL_of (tb_6 _ (List.mem_of_getElem? (i := 177) rfl)) rfl, List.forall_mem_cons.mpr ⟨mTBL_of (tb_6 _ (List.mem_of_getElem? (i := 179) rfl)) rfl, List.forall_mem_cons.mpr ⟨mTBL_of (tb_6 _ (List.mem_of_getElem? (i := 181) rfl)) rfl, List.forall_mem_cons.mpr ⟨mTBL_of (tb_6 _ (List.mem_of_getElem? (i := 183) rfl)) rfl, List.forall_mem_cons.mpr ⟨mTBL_of (tb_6 _ (List.mem_of_getElem? (i := 185) rfl)) rfl, List.forall_mem_cons.mpr ⟨mTBL_of (tb_6 _ (List.mem_of_getElem? (i := 187) rfl)) rfl, List.forall_mem_cons.mpr ⟨mTBL_of (tb_6 _ (List.mem_of_getElem? (i := 189) rfl)) rfl, List.forall_mem_cons.mpr ⟨mTBL_of (tb_6 _ (List.mem_of_getElem? (i := 191) rfl)) rfl, List.forall_mem_cons.mpr ⟨mTBL_of (tb_6 _ (List.mem_of_getElem? (i := 193) rfl)) rfl, List.forall_mem_cons.mpr ⟨mTBL_of (tb_6 _ (List.mem_of_getElem? (i := 195) rfl)) rfl, List.forall_mem_cons.mpr ⟨mTBL_of (tb_6 _ (List.mem_of_getElem? (i := 197) rfl)) rfl, List.forall_mem_cons.mpr ⟨mTBL_of (tb_6 _ (List.mem_of_getElem? (i := 199) rfl)) rfl, List.forall_mem_cons.mpr ⟨mTBL_of (tb_6 _ (List.mem_of_getElem? (i := 201) rfl)) rfl, List.forall_mem_cons.mpr ⟨mTBL_of (tb_6 _ (List.mem_of_getElem? (i := 203) rfl)) rfl, List.forall_mem_cons.mpr ⟨mTBL_of (tb_6 _ (List.mem_of_getElem? (i := 205) rfl)) rfl, fun _ h => absurd h List.not_mem_nil⟩⟩⟩⟩⟩⟩⟩⟩⟩⟩⟩⟩⟩⟩⟩⟩⟩⟩⟩⟩⟩⟩⟩⟩⟩⟩⟩⟩⟩⟩⟩⟩⟩⟩⟩⟩
theorem f_X11_10 : mFld RX11 10 11 0 := ⟨RX11, TX11, 12, rfl, by decide, iw_X11, mTBL_of (tb_2 _ (List.mem_of_getElem? (i := 87) rfl)) rfl⟩
theorem f_X11_19 : mFld RX11 19 11 1 := ⟨RX11, TX11, 12, rfl, by decide, iw_X11, mTBL_of (tb_2 _ (List.mem_of_getElem? (i := 88) rfl)) rfl⟩
theorem f_X11_26 : mFld RX11 26 11 2 := ⟨RX11, TX11, 12, rfl, by decide, iw_X11, mTBL_of (tb_2 _ (List.mem_of_getElem? (i := 89) rfl)) rfl⟩
theorem f_X11_30 : mFld RX11 30 11 3 := ⟨RX11, TX11, 12, rfl, by decide, iw_X11, mTBL_of (tb_2 _ (List.mem_of_getElem? (i := 90) rfl)) rfl⟩
theorem f_X11_36 : mFld RX11 36 11 4 := ⟨RX11, TX11, 12, rfl, by decide, iw_X11, mTBL_of (tb_2 _ (List.mem_of_getElem? (i := 91) rfl)) rfl⟩
theorem f_X11_42 : mFld RX11 42 0 0 := ⟨RX0, TX0, 7, rfl, by decide, iw_X0, mTBL_of (tb_1 _ (List.mem_of_getElem? (i := 186) rfl)) rfl⟩
theorem f_X11_49 : mFld RX11 49 11 5 := ⟨RX11, TX11, 12, rfl, by decide, iw_X11, mTBL_of (tb_2 _ (List.mem_of_getElem? (i := 92) rfl)) rfl⟩
theorem f_X11_56 : mFld RX11 56 11 6 := ⟨RX11, TX11, 12, rfl, by decide, iw_X11, mTBL_of (tb_2 _ (List.mem_of_getElem? (i := 93) rfl)) rfl⟩
theorem f_X11_63 : mFld RX11 63 11 7 := ⟨RX11, TX11, 12, rfl, by decide, iw_X11, mTBL_of (tb_2 _ (List.mem_of_getElem? (i := 94) rfl)) rfl⟩
theorem f_X11_70 : mFld RX11 70 11 8 := ⟨RX11, TX11, 12, rfl, by decide, iw_X11, mTBL_of (tb_2 _ (List.mem_of_getElem? (i := 95) rfl)) rfl⟩
theorem f_X11_74 : mFld RX11 74 11 9 := ⟨RX11, TX11, 12, rfl, by decide, iw_X11, mTBL_of (tb_2 _ (List.mem_of_getElem? (i := 96) rfl)) rfl⟩
theorem p_X11_74 : mPut RX11 74 11 9 .int := ⟨RX11, TX11, 12, tyX11, rfl, by decide, iw_X11, mTBL_of (tb_2 _ (List.mem_of_getElem? (i := 96) rfl)) rfl, tyX11_ok, nmX11, rfl, rfl⟩
theorem f_X11_78 : mFld RX11 78 11 10 := ⟨RX11, TX11, 12, rfl, by decide, iw_X11, mTBL_of (tb_2 _ (List.mem_of_getElem? (i := 97) rfl)) rfl⟩
theorem p_X11_78 : mPut RX11 78 11 10 .int := ⟨RX11, TX11, 12, tyX11, rfl, by decide, iw_X11, mTBL_of (tb_2 _ (List.mem_of_getElem? (i := 97) rfl)) rfl, tyX11_ok, nmX11, rfl, rfl⟩
theorem f_X11_81 : mFld RX11 81 11 11 := ⟨RX11, TX11, 12, rfl, by decide, iw_X11, mTBL_of (tb_2 _ (List.mem_of_getElem? (i := 98) rfl)) rfl⟩
theorem p_X11_81 : mPut RX11 81 11 11 .int := ⟨RX11, TX11, 12, tyX11, rfl, by decide, iw_X11, mTBL_of (tb_2 _ (List.mem_of_getElem? (i := 98) rfl)) rfl, tyX11_ok, nmX11, rfl, rfl⟩
theorem f_X11_91 : mFld RX11 91 10 1 := ⟨RX10, TX10, 2, rfl, by decide, iw_X10, mTBL_of (tb_1 _ (List.mem_of_getElem? (i := 46) rfl)) rfl⟩
theorem f_X11_127 : mFld RX11 127 2 2 := ⟨RX2, TX2, 7, rfl, by decide, iw_X2, mTBL_of (tb_1 _ (List.mem_of_getElem? (i := 118) rfl)) rfl⟩
theorem f_X11_151 : mFld RX11 151 2 1 := ⟨RX2, TX2, 7, rfl, by decide, iw_X2, mTBL_of (tb_1 _ (List.mem_of_getElem? (i := 115) rfl)) rfl⟩
theorem f_X11_158 : mFld RX11 158 0 1 := ⟨RX0, TX0, 7, rfl, by decide, iw_X0, mTBL_of (tb_1 _ (List.mem_of_getElem? (i := 189) rfl)) rfl⟩
theorem f_X11_162 : mFld RX11 162 6 1 := ⟨RX6, TX6, 3, rfl, by decide, iw_X6, mTBL_of (tb_1 _ (List.mem_of_getElem? (i := 158) rfl)) rfl⟩
theorem f_X11_167 : mFld RX11 167 2 3 := ⟨RX2, TX2, 7, rfl, by decide, iw_X2, mTBL_of (tb_1 _ (List.mem_of_getElem? (i := 127) rfl)) rfl⟩
theorem f_X11_174 : mFld RX11 174 2 4 := ⟨RX2, TX2, 7, rfl, by decide, iw_X2, mTBL_of (tb_1 _ (List.mem_of_getElem? (i := 129) rfl)) rfl⟩
theorem f_X11_189 : mFld RX11 189 2 0 := ⟨RX2, TX2, 7, rfl, by decide, iw_X2, mTBL_of (tb_1 _ (List.mem_of_getElem? (i := 113) rfl)) rfl⟩
theorem f_X11_192 : mFld RX11 192 6 2 := ⟨RX6, TX6, 3, rfl, by decide, iw_X6, mTBL_of (tb_1 _ (List.mem_of_getElem? (i := 162) rfl)) rfl⟩
theorem f_X11_195 : mFld RX11 195 0 6 := ⟨RX0, TX0, 7, rfl, by decide, iw_X0, mTBL_of (tb_1 _ (List.mem_of_getElem? (i := 197) rfl)) rfl⟩
theorem f_X11_201 : mFld RX11 201 3 3 := ⟨RX3, TX3, 4, rfl, by decide, iw_X3, mTBL_of (tb_1 _ (List.mem_of_getElem? (i := 224) rfl)) rfl⟩
theorem f_X11_340 : mFld RX11 340 9 1 := ⟨RX9, TX9, 3, rfl, by decide, iw_X9, mTBL_of (tb_2 _ (List.mem_of_getElem? (i := 77) rfl)) rfl⟩
theorem f_X11_344 : mFld RX11 344 9 2 := ⟨RX9, TX9, 3, rfl, by decide, iw_X9, mTBL_of (tb_2 _ (List.mem_of_getElem? (i := 79) rfl)) rfl⟩
theorem f_X11_355 : mFld RX11 355 0 5 := ⟨RX0, TX0, 7, rfl, by decide, iw_X0, mTBL_of (tb_1 _ (List.mem_of_getElem? (i := 194) rfl)) rfl⟩
theorem f_X11_399 : mFld RX11 399 8 10 := ⟨RX8, TX8, 11, rfl, by decide, iw_X8, mTBL_of (tb_2 _ (List.mem_of_getElem? (i := 45) rfl)) rfl⟩
theorem f_X11_405 : mFld RX11 405 8 9 := ⟨RX8, TX8, 11, rfl, by decide, iw_X8, mTBL_of (tb_2 _ (List.mem_of_getElem? (i := 43) rfl)) rfl⟩
theorem f_X0_12 : mFld RX0 12 0 0 := ⟨RX0, TX0, 7, rfl, by decide, iw_X0, mTBL_of (tb_1 _ (List.mem_of_getElem? (i := 185) rfl)) rfl⟩
theorem f_X0_23 : mFld RX0 23 0 1 := ⟨RX0, TX0, 7, rfl, by decide, iw_X0, mTBL_of (tb_1 _ (List.mem_of_getElem? (i := 187) rfl)) rfl⟩
theorem f_X0_27 : mFld RX0 27 0 2 := ⟨RX0, TX0, 7, rfl, by decide, iw_X0, mTBL_of (tb_1 _ (List.mem_of_getElem? (i := 190) rfl)) rfl⟩
theorem f_X0_30 : mFld RX0 30 0 3 := ⟨RX0, TX0, 7, rfl, by decide, iw_X0, mTBL_of (tb_1 _ (List.mem_of_getElem? (i := 191) rfl)) rfl⟩
theorem f_X0_36 : mFld RX0 36 0 4 := ⟨RX0, TX0, 7, rfl, by decide, iw_X0, mTBL_of (tb_1 _ (List.mem_of_getElem? (i := 192) rfl)) rfl⟩
theorem f_X0_40 : mFld RX0 40 0 5 := ⟨RX0, TX0, 7, rfl, by decide, iw_X0, mTBL_of (tb_1 _ (List.mem_of_getElem? (i := 193) rfl)) rfl⟩
theorem f_X0_44 : mFld RX0 44 0 6 := ⟨RX0, TX0, 7, rfl, by decide, iw_X0, mTBL_of (tb_1 _ (List.mem_of_getElem? (i := 195) rfl)) rfl⟩
theorem p_X0_44 : mPut RX0 44 0 6 .int := ⟨RX0, TX0, 7, tyX0, rfl, by decide, iw_X0, mTBL_of (tb_1 _ (List.mem_of_getElem? (i := 195) rfl)) rfl, tyX0_ok, nmX0, rfl, rfl⟩
theorem f_X0_52 : mFld RX0 52 7 4 := ⟨RX7, TX7, 10, rfl, by decide, iw_X7, mTBL_of (tb_1 _ (List.mem_of_getElem? (i := 71) rfl)) rfl⟩
theorem f_X0_58 : mFld RX0 58 7 5 := ⟨RX7, TX7, 10, rfl, by decide, iw_X7, mTBL_of (tb_1 _ (List.mem_of_getElem? (i := 73) rfl)) rfl⟩
theorem f_X0_72 : mFld RX0 72 6 1 := ⟨RX6, TX6, 3, rfl, by decide, iw_X6, mTBL_of (tb_1 _ (List.mem_of_getElem? (i := 157) rfl)) rfl⟩
theorem f_X0_73 : mFld RX0 73 6 2 := ⟨RX6, TX6, 3, rfl, by decide, iw_X6, mTBL_of (tb_1 _ (List.mem_of_getElem? (i := 160) rfl)) rfl⟩
theorem f_X0_82 : mFld RX0 82 2 3 := ⟨RX2, TX2, 7, rfl, by decide, iw_X2, mTBL_of (tb_1 _ (List.mem_of_getElem? (i := 126) rfl)) rfl⟩
theorem f_X0_89 : mFld RX0 89 2 2 := ⟨RX2, TX2, 7, rfl, by decide, iw_X2, mTBL_of (tb_1 _ (List.mem_of_getElem? (i := 120) rfl)) rfl⟩
theorem f_X1_9 : mFld RX1 9 1 0 := ⟨RX1, TX1, 2, rfl, by decide, iw_X1, mTBL_of (tb_2 _ (List.mem_of_getElem? (i := 2) rfl)) rfl⟩
theorem f_X1_18 : mFld RX1 18 1 1 := ⟨RX1, TX1, 2, rfl, by decide, iw_X1, mTBL_of (tb_2 _ (List.mem_of_getElem? (i := 3) rfl)) rfl⟩
theorem f_X1_26 : mFld RX1 26 2 3 := ⟨RX2, TX2, 7, rfl, by decide, iw_X2, mTBL_of (tb_1 _ (List.mem_of_getElem? (i := 123) rfl)) rfl⟩
theorem f_X1_55 : mFld RX1 55 4 1 := ⟨RX4, TX4, 2, rfl, by decide, iw_X4, mTBL_of (tb_1 _ (List.mem_of_getElem? (i := 178) rfl)) rfl⟩
theorem f_X2_9 : mFld RX2 9 2 0 := ⟨RX2, TX2, 7, rfl, by decide, iw_X2, mTBL_of (tb_1 _ (List.mem_of_getElem? (i := 112) rfl)) rfl⟩
theorem p_X2_9 : mPut RX2 9 2 0 .int := ⟨RX2, TX2, 7, tyX2, rfl, by decide, iw_X2, mTBL_of (tb_1 _ (List.mem_of_getElem? (i := 112) rfl)) rfl, tyX2_ok, nmX2, rfl, rfl⟩
theorem f_X2_15 : mFld RX2 15 2 1 := ⟨RX2, TX2, 7, rfl, by decide, iw_X2, mTBL_of (tb_1 _ (List.mem_of_getElem? (i := 114) rfl)) rfl⟩
theorem p_X2_15 : mPut RX2 15 2 1 .int := ⟨RX2, TX2, 7, tyX2, rfl, by decide, iw_X2, mTBL_of (tb_1 _ (List.mem_of_getElem? (i := 114) rfl)) rfl, tyX2_ok, nmX2, rfl, rfl⟩
theorem f_X2_18 : mFld RX2 18 2 2 := ⟨RX2, TX2, 7, rfl, by decide, iw_X2, mTBL_of (tb_1 _ (List.mem_of_getElem? (i := 116) rfl)) rfl⟩
theorem p_X2_18 : mPut RX2 18 2 2 .long := ⟨RX2, TX2, 7, tyX2, rfl, by decide, iw_X2, mTBL_of (tb_1 _ (List.mem_of_getElem? (i := 116) rfl)) rfl, tyX2_ok, nmX2, rfl, rfl⟩
theorem f_X2_22 : mFld RX2 22 2 3 := ⟨RX2, TX2, 7, rfl, by decide, iw_X2, mTBL_of (tb_1 _ (List.mem_of_getElem? (i := 121) rfl)) rfl⟩
theorem p_X2_22 : mPut RX2 22 2 3 .long := ⟨RX2, TX2, 7, tyX2, rfl, by decide, iw_X2, mTBL_of (tb_1 _ (List.mem_of_getElem? (i := 121) rfl)) rfl, tyX2_ok, nmX2, rfl, rfl⟩
theorem f_X2_25 : mFld RX2 25 2 4 := ⟨RX2, TX2, 7, rfl, by decide, iw_X2, mTBL_of (tb_1 _ (List.mem_of_getElem? (i := 128) rfl)) rfl⟩
theorem p_X2_25 : mPut RX2 25 2 4 .long := ⟨RX2, TX2, 7, tyX2, rfl, by decide, iw_X2, mTBL_of (tb_1 _ (List.mem_of_getElem? (i := 128) rfl)) rfl, tyX2_ok, nmX2, rfl, rfl⟩
theorem f_X2_28 : mFld RX2 28 2 5 := ⟨RX2, TX2, 7, rfl, by decide, iw_X2, mTBL_of (tb_1 _ (List.mem_of_getElem? (i := 130) rfl)) rfl⟩
theorem p_X2_28 : mPut RX2 28 2 5 .long := ⟨RX2, TX2, 7, tyX2, rfl, by decide, iw_X2, mTBL_of (tb_1 _ (List.mem_of_getElem? (i := 130) rfl)) rfl, tyX2_ok, nmX2, rfl, rfl⟩
theorem f_X2_31 : mFld RX2 31 2 6 := ⟨RX2, TX2, 7, rfl, by decide, iw_X2, mTBL_of (tb_1 _ (List.mem_of_getElem? (i := 131) rfl)) rfl⟩
theorem p_X2_31 : mPut RX2 31 2 6 .long := ⟨RX2, TX2, 7, tyX2, rfl, by decide, iw_X2, mTBL_of (tb_1 _ (List.mem_of_getElem? (i := 131) rfl)) rfl, tyX2_ok, nmX2, rfl, rfl⟩
theorem f_X2_34 : mFld RX2 34 7 0 := ⟨RX7, TX7, 10, rfl, by decide, iw_X7, mTBL_of (tb_1 _ (List.mem_of_getElem? (i := 64) rfl)) rfl⟩
theorem f_X2_37 : mFld RX2 37 7 1 := ⟨RX7, TX7, 10, rfl, by decide, iw_X7, mTBL_of (tb_1 _ (List.mem_of_getElem? (i := 66) rfl)) rfl⟩
theorem f_X2_38 : mFld RX2 38 7 2 := ⟨RX7, TX7, 10, rfl, by decide, iw_X7, mTBL_of (tb_1 _ (List.mem_of_getElem? (i := 68) rfl)) rfl⟩
theorem f_X2_39 : mFld RX2 39 7 3 := ⟨RX7, TX7, 10, rfl, by decide, iw_X7, mTBL_of (tb_1 _ (List.mem_of_getElem? (i := 70) rfl)) rfl⟩
theorem f_X3_9 : mFld RX3 9 3 0 := ⟨RX3, TX3, 4, rfl, by decide, iw_X3, mTBL_of (tb_1 _ (List.mem_of_getElem? (i := 220) rfl)) rfl⟩
theorem f_X3_15 : mFld RX3 15 3 1 := ⟨RX3, TX3, 4, rfl, by decide, iw_X3, mTBL_of (tb_1 _ (List.mem_of_getElem? (i := 221) rfl)) rfl⟩
theorem f_X3_19 : mFld RX3 19 3 2 := ⟨RX3, TX3, 4, rfl, by decide, iw_X3, mTBL_of (tb_1 _ (List.mem_of_getElem? (i := 222) rfl)) rfl⟩
theorem f_X3_22 : mFld RX3 22 3 3 := ⟨RX3, TX3, 4, rfl, by decide, iw_X3, mTBL_of (tb_1 _ (List.mem_of_getElem? (i := 223) rfl)) rfl⟩
theorem p_X3_22 : mPut RX3 22 3 3 .int := ⟨RX3, TX3, 4, tyX3, rfl, by decide, iw_X3, mTBL_of (tb_1 _ (List.mem_of_getElem? (i := 223) rfl)) rfl, tyX3_ok, nmX3, rfl, rfl⟩
theorem f_X3_26 : mFld RX3 26 0 1 := ⟨RX0, TX0, 7, rfl, by decide, iw_X0, mTBL_of (tb_1 _ (List.mem_of_getElem? (i := 188) rfl)) rfl⟩
theorem f_X3_32 : mFld RX3 32 6 1 := ⟨RX6, TX6, 3, rfl, by decide, iw_X6, mTBL_of (tb_1 _ (List.mem_of_getElem? (i := 156) rfl)) rfl⟩
theorem f_X3_41 : mFld RX3 41 6 2 := ⟨RX6, TX6, 3, rfl, by decide, iw_X6, mTBL_of (tb_1 _ (List.mem_of_getElem? (i := 161) rfl)) rfl⟩
theorem f_X3_48 : mFld RX3 48 0 6 := ⟨RX0, TX0, 7, rfl, by decide, iw_X0, mTBL_of (tb_1 _ (List.mem_of_getElem? (i := 196) rfl)) rfl⟩
theorem f_X4_9 : mFld RX4 9 4 0 := ⟨RX4, TX4, 2, rfl, by decide, iw_X4, mTBL_of (tb_1 _ (List.mem_of_getElem? (i := 176) rfl)) rfl⟩
theorem f_X4_15 : mFld RX4 15 4 1 := ⟨RX4, TX4, 2, rfl, by decide, iw_X4, mTBL_of (tb_1 _ (List.mem_of_getElem? (i := 177) rfl)) rfl⟩
theorem p_X4_15 : mPut RX4 15 4 1 .int := ⟨RX4, TX4, 2, tyX4, rfl, by decide, iw_X4, mTBL_of (tb_1 _ (List.mem_of_getElem? (i := 177) rfl)) rfl, tyX4_ok, nmX4, rfl, rfl⟩
theorem f_X5_9 : mFld RX5 9 5 0 := ⟨RX5, TX5, 3, rfl, by decide, iw_X5, mTBL_of (tb_2 _ (List.mem_of_getElem? (i := 15) rfl)) rfl⟩
theorem f_X5_15 : mFld RX5 15 5 1 := ⟨RX5, TX5, 3, rfl, by decide, iw_X5, mTBL_of (tb_2 _ (List.mem_of_getElem? (i := 16) rfl)) rfl⟩
theorem f_X5_19 : mFld RX5 19 5 2 := ⟨RX5, TX5, 3, rfl, by decide, iw_X5, mTBL_of (tb_2 _ (List.mem_of_getElem? (i := 17) rfl)) rfl⟩
theorem f_X5_30 : mFld RX5 30 2 3 := ⟨RX2, TX2, 7, rfl, by decide, iw_X2, mTBL_of (tb_1 _ (List.mem_of_getElem? (i := 122) rfl)) rfl⟩
theorem f_X6_9 : mFld RX6 9 6 0 := ⟨RX6, TX6, 3, rfl, by decide, iw_X6, mTBL_of (tb_1 _ (List.mem_of_getElem? (i := 153) rfl)) rfl⟩
theorem f_X6_15 : mFld RX6 15 6 1 := ⟨RX6, TX6, 3, rfl, by decide, iw_X6, mTBL_of (tb_1 _ (List.mem_of_getElem? (i := 154) rfl)) rfl⟩
theorem p_X6_15 : mPut RX6 15 6 1 .long := ⟨RX6, TX6, 3, tyX6, rfl, by decide, iw_X6, mTBL_of (tb_1 _ (List.mem_of_getElem? (i := 154) rfl)) rfl, tyX6_ok, nmX6, rfl, rfl⟩
theorem f_X6_19 : mFld RX6 19 6 2 := ⟨RX6, TX6, 3, rfl, by decide, iw_X6, mTBL_of (tb_1 _ (List.mem_of_getElem? (i := 159) rfl)) rfl⟩
theorem p_X6_19 : mPut RX6 19 6 2 .int := ⟨RX6, TX6, 3, tyX6, rfl, by decide, iw_X6, mTBL_of (tb_1 _ (List.mem_of_getElem? (i := 159) rfl)) rfl, tyX6_ok, nmX6, rfl, rfl⟩
theorem f_X6_23 : mFld RX6 23 2 3 := ⟨RX2, TX2, 7, rfl, by decide, iw_X2, mTBL_of (tb_1 _ (List.mem_of_getElem? (i := 125) rfl)) rfl⟩
theorem f_X6_30 : mFld RX6 30 2 2 := ⟨RX2, TX2, 7, rfl, by decide, iw_X2, mTBL_of (tb_1 _ (List.mem_of_getElem? (i := 119) rfl)) rfl⟩
theorem f_X7_14 : mFld RX7 14 7 0 := ⟨RX7, TX7, 10, rfl, by decide, iw_X7, mTBL_of (tb_1 _ (List.mem_of_getElem? (i := 63) rfl)) rfl⟩
theorem p_X7_14 : mPut RX7 14 7 0 .int := ⟨RX7, TX7, 10, tyX7, rfl, by decide, iw_X7, mTBL_of (tb_1 _ (List.mem_of_getElem? (i := 63) rfl)) rfl, tyX7_ok, nmX7, rfl, rfl⟩
theorem f_X7_18 : mFld RX7 18 7 1 := ⟨RX7, TX7, 10, rfl, by decide, iw_X7, mTBL_of (tb_1 _ (List.mem_of_getElem? (i := 65) rfl)) rfl⟩
theorem p_X7_18 : mPut RX7 18 7 1 .int := ⟨RX7, TX7, 10, tyX7, rfl, by decide, iw_X7, mTBL_of (tb_1 _ (List.mem_of_getElem? (i := 65) rfl)) rfl, tyX7_ok, nmX7, rfl, rfl⟩
theorem f_X7_21 : mFld RX7 21 7 2 := ⟨RX7, TX7, 10, rfl, by decide, iw_X7, mTBL_of (tb_1 _ (List.mem_of_getElem? (i := 67) rfl)) rfl⟩
theorem p_X7_21 : mPut RX7 21 7 2 .long := ⟨RX7, TX7, 10, tyX7, rfl, by decide, iw_X7, mTBL_of (tb_1 _ (List.mem_of_getElem? (i := 67) rfl)) rfl, tyX7_ok, nmX7, rfl, rfl⟩
theorem f_X7_25 : mFld RX7 25 7 3 := ⟨RX7, TX7, 10, rfl, by decide, iw_X7, mTBL_of (tb_1 _ (List.mem_of_getElem? (i := 69) rfl)) rfl⟩
theorem p_X7_25 : mPut RX7 25 7 3 .long := ⟨RX7, TX7, 10, tyX7, rfl, by decide, iw_X7, mTBL_of (tb_1 _ (List.mem_of_getElem? (i := 69) rfl)) rfl, tyX7_ok, nmX7, rfl, rfl⟩
theorem f_X7_28 : mFld RX7 28 7 4 := ⟨RX7, TX7, 10, rfl, by decide, iw_X7, mTBL_of (tb_1 _ (List.mem_of_getElem? (i := 72) rfl)) rfl⟩
theorem p_X7_28 : mPut RX7 28 7 4 .long := ⟨RX7, TX7, 10, tyX7, rfl, by decide, iw_X7, mTBL_of (tb_1 _ (List.mem_of_getElem? (i := 72) rfl)) rfl, tyX7_ok, nmX7, rfl, rfl⟩
theorem f_X7_31 : mFld RX7 31 7 5 := ⟨RX7, TX7, 10, rfl, by decide, iw_X7, mTBL_of (tb_1 _ (List.mem_of_getElem? (i := 74) rfl)) rfl⟩
theorem p_X7_31 : mPut RX7 31 7 5 .int := ⟨RX7, TX7, 10, tyX7, rfl, by decide, iw_X7, mTBL_of (tb_1 _ (List.mem_of_getElem? (i := 74) rfl)) rfl, tyX7_ok, nmX7, rfl, rfl⟩
theorem f_X7_34 : mFld RX7 34 7 6 := ⟨RX7, TX7, 10, rfl, by decide, iw_X7, mTBL_of (tb_1 _ (List.mem_of_getElem? (i := 75) rfl)) rfl⟩
theorem p_X7_34 : mPut RX7 34 7 6 .int := ⟨RX7, TX7, 10, tyX7, rfl, by decide, iw_X7, mTBL_of (tb_1 _ (List.mem_of_getElem? (i := 75) rfl)) rfl, tyX7_ok, nmX7, rfl, rfl⟩
theorem f_X7_37 : mFld RX7 37 7 7 := ⟨RX7, TX7, 10, rfl, by decide, iw_X7, mTBL_of (tb_1 _ (List.mem_of_getElem? (i := 76) rfl)) rfl⟩
theorem p_X7_37 : mPut RX7 37 7 7 .int := ⟨RX7, TX7, 10, tyX7, rfl, by decide, iw_X7, mTBL_of (tb_1 _ (List.mem_of_getElem? (i := 76) rfl)) rfl, tyX7_ok, nmX7, rfl, rfl⟩
theorem f_X7_40 : mFld RX7 40 7 8 := ⟨RX7, TX7, 10, rfl, by decide, iw_X7, mTBL_of (tb_1 _ (List.mem_of_getElem? (i := 77) rfl)) rfl⟩
theorem p_X7_40 : mPut RX7 40 7 8 .int := ⟨RX7, TX7, 10, tyX7, rfl, by decide, iw_X7, mTBL_of (tb_1 _ (List.mem_of_getElem? (i := 77) rfl)) rfl, tyX7_ok, nmX7, rfl, rfl⟩
theorem f_X7_43 : mFld RX7 43 7 9 := ⟨RX7, TX7, 10, rfl, by decide, iw_X7, mTBL_of (tb_1 _ (List.mem_of_getElem? (i := 78) rfl)) rfl⟩
theorem p_X7_43 : mPut RX7 43 7 9 .int := ⟨RX7, TX7, 10, tyX7, rfl, by decide, iw_X7, mTBL_of (tb_1 _ (List.mem_of_getElem? (i := 78) rfl)) rfl, tyX7_ok, nmX7, rfl, rfl⟩
theorem f_X8_9 : mFld RX8 9 8 0 := ⟨RX8, TX8, 11, rfl, by decide, iw_X8, mTBL_of (tb_2 _ (List.mem_of_getElem? (i := 31) rfl)) rfl⟩
theorem f_X8_15 : mFld RX8 15 8 1 := ⟨RX8, TX8, 11, rfl, by decide, iw_X8, mTBL_of (tb_2 _ (List.mem_of_getElem? (i := 32) rfl)) rfl⟩
theorem f_X8_19 : mFld RX8 19 8 2 := ⟨RX8, TX8, 11, rfl, by decide, iw_X8, mTBL_of (tb_2 _ (List.mem_of_getElem? (i := 33) rfl)) rfl⟩
theorem f_X8_23 : mFld RX8 23 8 3 := ⟨RX8, TX8, 11, rfl, by decide, iw_X8, mTBL_of (tb_2 _ (List.mem_of_getElem? (i := 34) rfl)) rfl⟩
theorem f_X8_26 : mFld RX8 26 8 4 := ⟨RX8, TX8, 11, rfl, by decide, iw_X8, mTBL_of (tb_2 _ (List.mem_of_getElem? (i := 35) rfl)) rfl⟩
theorem f_X8_29 : mFld RX8 29 8 5 := ⟨RX8, TX8, 11, rfl, by decide, iw_X8, mTBL_of (tb_2 _ (List.mem_of_getElem? (i := 36) rfl)) rfl⟩
theorem f_X8_32 : mFld RX8 32 8 6 := ⟨RX8, TX8, 11, rfl, by decide, iw_X8, mTBL_of (tb_2 _ (List.mem_of_getElem? (i := 37) rfl)) rfl⟩
theorem p_X8_32 : mPut RX8 32 8 6 .int := ⟨RX8, TX8, 11, tyX8, rfl, by decide, iw_X8, mTBL_of (tb_2 _ (List.mem_of_getElem? (i := 37) rfl)) rfl, tyX8_ok, nmX8, rfl, rfl⟩
theorem f_X8_36 : mFld RX8 36 8 7 := ⟨RX8, TX8, 11, rfl, by decide, iw_X8, mTBL_of (tb_2 _ (List.mem_of_getElem? (i := 38) rfl)) rfl⟩
theorem p_X8_36 : mPut RX8 36 8 7 .boolean := ⟨RX8, TX8, 11, tyX8, rfl, by decide, iw_X8, mTBL_of (tb_2 _ (List.mem_of_getElem? (i := 38) rfl)) rfl, tyX8_ok, nmX8, rfl, rfl⟩
theorem f_X8_40 : mFld RX8 40 8 8 := ⟨RX8, TX8, 11, rfl, by decide, iw_X8, mTBL_of (tb_2 _ (List.mem_of_getElem? (i := 39) rfl)) rfl⟩
theorem p_X8_40 : mPut RX8 40 8 8 .int := ⟨RX8, TX8, 11, tyX8, rfl, by decide, iw_X8, mTBL_of (tb_2 _ (List.mem_of_getElem? (i := 39) rfl)) rfl, tyX8_ok, nmX8, rfl, rfl⟩
theorem f_X8_43 : mFld RX8 43 8 9 := ⟨RX8, TX8, 11, rfl, by decide, iw_X8, mTBL_of (tb_2 _ (List.mem_of_getElem? (i := 41) rfl)) rfl⟩
theorem p_X8_43 : mPut RX8 43 8 9 .int := ⟨RX8, TX8, 11, tyX8, rfl, by decide, iw_X8, mTBL_of (tb_2 _ (List.mem_of_getElem? (i := 41) rfl)) rfl, tyX8_ok, nmX8, rfl, rfl⟩
theorem f_X8_46 : mFld RX8 46 8 10 := ⟨RX8, TX8, 11, rfl, by decide, iw_X8, mTBL_of (tb_2 _ (List.mem_of_getElem? (i := 44) rfl)) rfl⟩
theorem p_X8_46 : mPut RX8 46 8 10 .boolean := ⟨RX8, TX8, 11, tyX8, rfl, by decide, iw_X8, mTBL_of (tb_2 _ (List.mem_of_getElem? (i := 44) rfl)) rfl, tyX8_ok, nmX8, rfl, rfl⟩
theorem f_X8_53 : mFld RX8 53 6 1 := ⟨RX6, TX6, 3, rfl, by decide, iw_X6, mTBL_of (tb_1 _ (List.mem_of_getElem? (i := 155) rfl)) rfl⟩
theorem f_X8_78 : mFld RX8 78 2 3 := ⟨RX2, TX2, 7, rfl, by decide, iw_X2, mTBL_of (tb_1 _ (List.mem_of_getElem? (i := 124) rfl)) rfl⟩
theorem f_X8_93 : mFld RX8 93 2 2 := ⟨RX2, TX2, 7, rfl, by decide, iw_X2, mTBL_of (tb_1 _ (List.mem_of_getElem? (i := 117) rfl)) rfl⟩
theorem f_X9_9 : mFld RX9 9 9 0 := ⟨RX9, TX9, 3, rfl, by decide, iw_X9, mTBL_of (tb_2 _ (List.mem_of_getElem? (i := 75) rfl)) rfl⟩
theorem f_X9_15 : mFld RX9 15 9 1 := ⟨RX9, TX9, 3, rfl, by decide, iw_X9, mTBL_of (tb_2 _ (List.mem_of_getElem? (i := 76) rfl)) rfl⟩
theorem p_X9_15 : mPut RX9 15 9 1 .int := ⟨RX9, TX9, 3, tyX9, rfl, by decide, iw_X9, mTBL_of (tb_2 _ (List.mem_of_getElem? (i := 76) rfl)) rfl, tyX9_ok, nmX9, rfl, rfl⟩
theorem f_X9_19 : mFld RX9 19 9 2 := ⟨RX9, TX9, 3, rfl, by decide, iw_X9, mTBL_of (tb_2 _ (List.mem_of_getElem? (i := 78) rfl)) rfl⟩
theorem p_X9_19 : mPut RX9 19 9 2 .int := ⟨RX9, TX9, 3, tyX9, rfl, by decide, iw_X9, mTBL_of (tb_2 _ (List.mem_of_getElem? (i := 78) rfl)) rfl, tyX9_ok, nmX9, rfl, rfl⟩
theorem f_X9_22 : mFld RX9 22 8 8 := ⟨RX8, TX8, 11, rfl, by decide, iw_X8, mTBL_of (tb_2 _ (List.mem_of_getElem? (i := 40) rfl)) rfl⟩
theorem f_X9_31 : mFld RX9 31 8 9 := ⟨RX8, TX8, 11, rfl, by decide, iw_X8, mTBL_of (tb_2 _ (List.mem_of_getElem? (i := 42) rfl)) rfl⟩
theorem f_X10_9 : mFld RX10 9 10 0 := ⟨RX10, TX10, 2, rfl, by decide, iw_X10, mTBL_of (tb_1 _ (List.mem_of_getElem? (i := 44) rfl)) rfl⟩
theorem f_X10_15 : mFld RX10 15 10 1 := ⟨RX10, TX10, 2, rfl, by decide, iw_X10, mTBL_of (tb_1 _ (List.mem_of_getElem? (i := 45) rfl)) rfl⟩
theorem p_X10_15 : mPut RX10 15 10 1 .int := ⟨RX10, TX10, 2, tyX10, rfl, by decide, iw_X10, mTBL_of (tb_1 _ (List.mem_of_getElem? (i := 45) rfl)) rfl, tyX10_ok, nmX10, rfl, rfl⟩
theorem f_X12_7 : mFld RX12 7 12 0 := ⟨RX12, TX12, 36, rfl, by decide, iw_X12, mTBL_of (tb_6 _ (List.mem_of_getElem? (i := 100) rfl)) rfl⟩
theorem f_X12_13 : mFld RX12 13 12 1 := ⟨RX12, TX12, 36, rfl, by decide, iw_X12, mTBL_of (tb_6 _ (List.mem_of_getElem? (i := 101) rfl)) rfl⟩
theorem f_X12_16 : mFld RX12 16 12 2 := ⟨RX12, TX12, 36, rfl, by decide, iw_X12, mTBL_of (tb_6 _ (List.mem_of_getElem? (i := 102) rfl)) rfl⟩
theorem f_X12_19 : mFld RX12 19 12 4 := ⟨RX12, TX12, 36, rfl, by decide, iw_X12, mTBL_of (tb_6 _ (List.mem_of_getElem? (i := 104) rfl)) rfl⟩
theorem f_X12_22 : mFld RX12 22 12 8 := ⟨RX12, TX12, 36, rfl, by decide, iw_X12, mTBL_of (tb_6 _ (List.mem_of_getElem? (i := 108) rfl)) rfl⟩
theorem p_X12_22 : mPut RX12 22 12 8 .int := ⟨RX12, TX12, 36, tyX12, rfl, by decide, iw_X12, mTBL_of (tb_6 _ (List.mem_of_getElem? (i := 108) rfl)) rfl, tyX12_ok, nmX12, rfl, rfl⟩
theorem f_X12_26 : mFld RX12 26 12 10 := ⟨RX12, TX12, 36, rfl, by decide, iw_X12, mTBL_of (tb_6 _ (List.mem_of_getElem? (i := 110) rfl)) rfl⟩
theorem f_X12_29 : mFld RX12 29 12 15 := ⟨RX12, TX12, 36, rfl, by decide, iw_X12, mTBL_of (tb_6 _ (List.mem_of_getElem? (i := 114) rfl)) rfl⟩
theorem f_X12_32 : mFld RX12 32 12 17 := ⟨RX12, TX12, 36, rfl, by decide, iw_X12, mTBL_of (tb_6 _ (List.mem_of_getElem? (i := 116) rfl)) rfl⟩
theorem f_X12_35 : mFld RX12 35 12 18 := ⟨RX12, TX12, 36, rfl, by decide, iw_X12, mTBL_of (tb_6 _ (List.mem_of_getElem? (i := 117) rfl)) rfl⟩
theorem f_X12_38 : mFld RX12 38 12 19 := ⟨RX12, TX12, 36, rfl, by decide, iw_X12, mTBL_of (tb_6 _ (List.mem_of_getElem? (i := 118) rfl)) rfl⟩
theorem f_X12_42 : mFld RX12 42 12 20 := ⟨RX12, TX12, 36, rfl, by decide, iw_X12, mTBL_of (tb_6 _ (List.mem_of_getElem? (i := 119) rfl)) rfl⟩
theorem f_X12_45 : mFld RX12 45 12 22 := ⟨RX12, TX12, 36, rfl, by decide, iw_X12, mTBL_of (tb_6 _ (List.mem_of_getElem? (i := 121) rfl)) rfl⟩
theorem f_X12_48 : mFld RX12 48 12 23 := ⟨RX12, TX12, 36, rfl, by decide, iw_X12, mTBL_of (tb_6 _ (List.mem_of_getElem? (i := 122) rfl)) rfl⟩
theorem f_X12_51 : mFld RX12 51 12 25 := ⟨RX12, TX12, 36, rfl, by decide, iw_X12, mTBL_of (tb_6 _ (List.mem_of_getElem? (i := 124) rfl)) rfl⟩
theorem f_X12_54 : mFld RX12 54 12 27 := ⟨RX12, TX12, 36, rfl, by decide, iw_X12, mTBL_of (tb_6 _ (List.mem_of_getElem? (i := 126) rfl)) rfl⟩
theorem f_X12_58 : mFld RX12 58 12 28 := ⟨RX12, TX12, 36, rfl, by decide, iw_X12, mTBL_of (tb_6 _ (List.mem_of_getElem? (i := 127) rfl)) rfl⟩
theorem f_X12_61 : mFld RX12 61 12 29 := ⟨RX12, TX12, 36, rfl, by decide, iw_X12, mTBL_of (tb_6 _ (List.mem_of_getElem? (i := 128) rfl)) rfl⟩
theorem f_X12_64 : mFld RX12 64 12 30 := ⟨RX12, TX12, 36, rfl, by decide, iw_X12, mTBL_of (tb_6 _ (List.mem_of_getElem? (i := 129) rfl)) rfl⟩
theorem f_X12_67 : mFld RX12 67 12 32 := ⟨RX12, TX12, 36, rfl, by decide, iw_X12, mTBL_of (tb_6 _ (List.mem_of_getElem? (i := 131) rfl)) rfl⟩
theorem f_X12_70 : mFld RX12 70 12 33 := ⟨RX12, TX12, 36, rfl, by decide, iw_X12, mTBL_of (tb_6 _ (List.mem_of_getElem? (i := 132) rfl)) rfl⟩
theorem p_X12_70 : mPut RX12 70 12 33 .int := ⟨RX12, TX12, 36, tyX12, rfl, by decide, iw_X12, mTBL_of (tb_6 _ (List.mem_of_getElem? (i := 132) rfl)) rfl, tyX12_ok, nmX12, rfl, rfl⟩
theorem f_X12_73 : mFld RX12 73 12 9 := ⟨RX12, TX12, 36, rfl, by decide, iw_X12, mTBL_of (tb_6 _ (List.mem_of_getElem? (i := 109) rfl)) rfl⟩
theorem p_X12_73 : mPut RX12 73 12 9 .int := ⟨RX12, TX12, 36, tyX12, rfl, by decide, iw_X12, mTBL_of (tb_6 _ (List.mem_of_getElem? (i := 109) rfl)) rfl, tyX12_ok, nmX12, rfl, rfl⟩
theorem f_X12_80 : mFld RX12 80 12 5 := ⟨RX12, TX12, 36, rfl, by decide, iw_X12, mTBL_of (tb_6 _ (List.mem_of_getElem? (i := 105) rfl)) rfl⟩
theorem p_X12_80 : mPut RX12 80 12 5 .int := ⟨RX12, TX12, 36, tyX12, rfl, by decide, iw_X12, mTBL_of (tb_6 _ (List.mem_of_getElem? (i := 105) rfl)) rfl, tyX12_ok, nmX12, rfl, rfl⟩
theorem f_X12_87 : mFld RX12 87 12 3 := ⟨RX12, TX12, 36, rfl, by decide, iw_X12, mTBL_of (tb_6 _ (List.mem_of_getElem? (i := 103) rfl)) rfl⟩
theorem p_X12_87 : mPut RX12 87 12 3 .boolean := ⟨RX12, TX12, 36, tyX12, rfl, by decide, iw_X12, mTBL_of (tb_6 _ (List.mem_of_getElem? (i := 103) rfl)) rfl, tyX12_ok, nmX12, rfl, rfl⟩
theorem f_X12_91 : mFld RX12 91 12 11 := ⟨RX12, TX12, 36, rfl, by decide, iw_X12, mTBL_of (tb_6 _ (List.mem_of_getElem? (i := 111) rfl)) rfl⟩
theorem p_X12_91 : mPut RX12 91 12 11 .int := ⟨RX12, TX12, 36, tyX12, rfl, by decide, iw_X12, mTBL_of (tb_6 _ (List.mem_of_getElem? (i := 111) rfl)) rfl, tyX12_ok, nmX12, rfl, rfl⟩
theorem f_X12_94 : mFld RX12 94 12 13 := ⟨RX12, TX12, 36, rfl, by decide, iw_X12, mTBL_of (tb_6 _ (List.mem_of_getElem? (i := 112) rfl)) rfl⟩
theorem p_X12_94 : mPut RX12 94 12 13 .int := ⟨RX12, TX12, 36, tyX12, rfl, by decide, iw_X12, mTBL_of (tb_6 _ (List.mem_of_getElem? (i := 112) rfl)) rfl, tyX12_ok, nmX12, rfl, rfl⟩
theorem f_X12_97 : mFld RX12 97 12 14 := ⟨RX12, TX12, 36, rfl, by decide, iw_X12, mTBL_of (tb_6 _ (List.mem_of_getElem? (i := 113) rfl)) rfl⟩
theorem p_X12_97 : mPut RX12 97 12 14 .int := ⟨RX12, TX12, 36, tyX12, rfl, by decide, iw_X12, mTBL_of (tb_6 _ (List.mem_of_getElem? (i := 113) rfl)) rfl, tyX12_ok, nmX12, rfl, rfl⟩
theorem f_X12_133 : mFld RX12 133 12 16 := ⟨RX12, TX12, 36, rfl, by decide, iw_X12, mTBL_of (tb_6 _ (List.mem_of_getElem? (i := 115) rfl)) rfl⟩
theorem p_X12_133 : mPut RX12 133 12 16 .int := ⟨RX12, TX12, 36, tyX12, rfl, by decide, iw_X12, mTBL_of (tb_6 _ (List.mem_of_getElem? (i := 115) rfl)) rfl, tyX12_ok, nmX12, rfl, rfl⟩
theorem f_X12_154 : mFld RX12 154 12 21 := ⟨RX12, TX12, 36, rfl, by decide, iw_X12, mTBL_of (tb_6 _ (List.mem_of_getElem? (i := 120) rfl)) rfl⟩
theorem p_X12_154 : mPut RX12 154 12 21 .int := ⟨RX12, TX12, 36, tyX12, rfl, by decide, iw_X12, mTBL_of (tb_6 _ (List.mem_of_getElem? (i := 120) rfl)) rfl, tyX12_ok, nmX12, rfl, rfl⟩
theorem f_X12_191 : mFld RX12 191 12 24 := ⟨RX12, TX12, 36, rfl, by decide, iw_X12, mTBL_of (tb_6 _ (List.mem_of_getElem? (i := 123) rfl)) rfl⟩
theorem p_X12_191 : mPut RX12 191 12 24 .int := ⟨RX12, TX12, 36, tyX12, rfl, by decide, iw_X12, mTBL_of (tb_6 _ (List.mem_of_getElem? (i := 123) rfl)) rfl, tyX12_ok, nmX12, rfl, rfl⟩
theorem f_X12_203 : mFld RX12 203 12 26 := ⟨RX12, TX12, 36, rfl, by decide, iw_X12, mTBL_of (tb_6 _ (List.mem_of_getElem? (i := 125) rfl)) rfl⟩
theorem p_X12_203 : mPut RX12 203 12 26 .int := ⟨RX12, TX12, 36, tyX12, rfl, by decide, iw_X12, mTBL_of (tb_6 _ (List.mem_of_getElem? (i := 125) rfl)) rfl, tyX12_ok, nmX12, rfl, rfl⟩
theorem f_X12_209 : mFld RX12 209 12 6 := ⟨RX12, TX12, 36, rfl, by decide, iw_X12, mTBL_of (tb_6 _ (List.mem_of_getElem? (i := 106) rfl)) rfl⟩
theorem p_X12_209 : mPut RX12 209 12 6 .int := ⟨RX12, TX12, 36, tyX12, rfl, by decide, iw_X12, mTBL_of (tb_6 _ (List.mem_of_getElem? (i := 106) rfl)) rfl, tyX12_ok, nmX12, rfl, rfl⟩
theorem f_X12_212 : mFld RX12 212 12 7 := ⟨RX12, TX12, 36, rfl, by decide, iw_X12, mTBL_of (tb_6 _ (List.mem_of_getElem? (i := 107) rfl)) rfl⟩
theorem p_X12_212 : mPut RX12 212 12 7 .int := ⟨RX12, TX12, 36, tyX12, rfl, by decide, iw_X12, mTBL_of (tb_6 _ (List.mem_of_getElem? (i := 107) rfl)) rfl, tyX12_ok, nmX12, rfl, rfl⟩
theorem f_X12_266 : mFld RX12 266 12 31 := ⟨RX12, TX12, 36, rfl, by decide, iw_X12, mTBL_of (tb_6 _ (List.mem_of_getElem? (i := 130) rfl)) rfl⟩
theorem p_X12_266 : mPut RX12 266 12 31 .int := ⟨RX12, TX12, 36, tyX12, rfl, by decide, iw_X12, mTBL_of (tb_6 _ (List.mem_of_getElem? (i := 130) rfl)) rfl, tyX12_ok, nmX12, rfl, rfl⟩
theorem f_X12_269 : mFld RX12 269 12 35 := ⟨RX12, TX12, 36, rfl, by decide, iw_X12, mTBL_of (tb_6 _ (List.mem_of_getElem? (i := 134) rfl)) rfl⟩
theorem p_X12_269 : mPut RX12 269 12 35 .int := ⟨RX12, TX12, 36, tyX12, rfl, by decide, iw_X12, mTBL_of (tb_6 _ (List.mem_of_getElem? (i := 134) rfl)) rfl, tyX12_ok, nmX12, rfl, rfl⟩
theorem f_X12_283 : mFld RX12 283 12 34 := ⟨RX12, TX12, 36, rfl, by decide, iw_X12, mTBL_of (tb_6 _ (List.mem_of_getElem? (i := 133) rfl)) rfl⟩
theorem p_X12_283 : mPut RX12 283 12 34 .int := ⟨RX12, TX12, 36, tyX12, rfl, by decide, iw_X12, mTBL_of (tb_6 _ (List.mem_of_getElem? (i := 133) rfl)) rfl, tyX12_ok, nmX12, rfl, rfl⟩
theorem o_J0_charAt_5068e : mOkV M_J0_charAt_5068e 1 := ⟨⟨mTBL_of (tb_6 _ (List.mem_of_getElem? (i := 24) rfl)) rfl, in_J0, ⟨by decide, by decide⟩, by decide +kernel⟩, mTBL_of (tb_6 _ (List.mem_of_getElem? (i := 22) rfl)) rfl, mTBL_of (tb_6 _ (List.mem_of_getElem? (i := 23) rfl)) rfl⟩
theorem o_J0_checkIndex_df160 : mOkS M_J0_checkIndex_df160 2 := ⟨⟨mTBL_of (tb_6 _ (List.mem_of_getElem? (i := 30) rfl)) rfl, in_J0, ⟨by decide, by decide⟩, by decide +kernel⟩, mTBL_of (tb_6 _ (List.mem_of_getElem? (i := 29) rfl)) rfl⟩
theorem o_J0_coder_7d493 : mOkV M_J0_coder_7d493 0 := ⟨⟨mTBL_of (tb_3 _ (List.mem_of_getElem? (i := 34) rfl)) rfl, in_J0, ⟨by decide, by decide⟩, by decide +kernel⟩, mTBL_of (tb_3 _ (List.mem_of_getElem? (i := 32) rfl)) rfl, mTBL_of (tb_3 _ (List.mem_of_getElem? (i := 33) rfl)) rfl⟩
theorem o_J0_indexOf_0f7a4 : mOkV M_J0_indexOf_0f7a4 1 := ⟨⟨mTBL_of (tb_3 _ (List.mem_of_getElem? (i := 16) rfl)) rfl, in_J0, ⟨by decide, by decide⟩, by decide +kernel⟩, mTBL_of (tb_3 _ (List.mem_of_getElem? (i := 14) rfl)) rfl, mTBL_of (tb_3 _ (List.mem_of_getElem? (i := 15) rfl)) rfl⟩
theorem o_J0_indexOf_7cf53 : mOkV M_J0_indexOf_7cf53 2 := ⟨⟨mTBL_of (tb_3 _ (List.mem_of_getElem? (i := 20) rfl)) rfl, in_J0, ⟨by decide, by decide⟩, by decide +kernel⟩, mTBL_of (tb_3 _ (List.mem_of_getElem? (i := 18) rfl)) rfl, mTBL_of (tb_3 _ (List.mem_of_getElem? (i := 19) rfl)) rfl⟩
theorem o_J0_isLatin1_aae02 : mOkV M_J0_isLatin1_aae02 0 := ⟨⟨mTBL_of (tb_3 _ (List.mem_of_getElem? (i := 24) rfl)) rfl, in_J0, ⟨by decide, by decide⟩, by decide +kernel⟩, mTBL_of (tb_3 _ (List.mem_of_getElem? (i := 22) rfl)) rfl, mTBL_of (tb_3 _ (List.mem_of_getElem? (i := 23) rfl)) rfl⟩
theorem o_J0_length_8abf5 : mOkV M_J0_length_8abf5 0 := ⟨⟨mTBL_of (tb_3 _ (List.mem_of_getElem? (i := 30) rfl)) rfl, in_J0, ⟨by decide, by decide⟩, by decide +kernel⟩, mTBL_of (tb_3 _ (List.mem_of_getElem? (i := 28) rfl)) rfl, mTBL_of (tb_3 _ (List.mem_of_getElem? (i := 29) rfl)) rfl⟩
theorem o_J13_bitCount_95d88 : mOkS M_J13_bitCount_95d88 1 := ⟨⟨mTBL_of (tb_3 _ (List.mem_of_getElem? (i := 160) rfl)) rfl, in_J13, ⟨by decide, by decide⟩, by decide +kernel⟩, mTBL_of (tb_3 _ (List.mem_of_getElem? (i := 159) rfl)) rfl⟩
theorem o_J1_canEncode_9a6ad : mOkS M_J1_canEncode_9a6ad 1 := ⟨⟨mTBL_of (tb_3 _ (List.mem_of_getElem? (i := 40) rfl)) rfl, in_J1, ⟨by decide, by decide⟩, by decide +kernel⟩, mTBL_of (tb_3 _ (List.mem_of_getElem? (i := 39) rfl)) rfl⟩
theorem o_J1_charAt_3b067 : mOkS M_J1_charAt_3b067 2 := ⟨⟨mTBL_of (tb_6 _ (List.mem_of_getElem? (i := 27) rfl)) rfl, in_J1, ⟨by decide, by decide⟩, by decide +kernel⟩, mTBL_of (tb_6 _ (List.mem_of_getElem? (i := 26) rfl)) rfl⟩
theorem o_J1_indexOfChar_4cfef : mOkS M_J1_indexOfChar_4cfef 4 := ⟨⟨mTBL_of (tb_3 _ (List.mem_of_getElem? (i := 49) rfl)) rfl, in_J1, ⟨by decide, by decide⟩, by decide +kernel⟩, mTBL_of (tb_3 _ (List.mem_of_getElem? (i := 48) rfl)) rfl⟩
theorem o_J1_indexOf_4cfef : mOkS M_J1_indexOf_4cfef 4 := ⟨⟨mTBL_of (tb_3 _ (List.mem_of_getElem? (i := 37) rfl)) rfl, in_J1, ⟨by decide, by decide⟩, by decide +kernel⟩, mTBL_of (tb_3 _ (List.mem_of_getElem? (i := 36) rfl)) rfl⟩
theorem o_L_bound : mOkH M_L_bound 2 := ⟨mTBL_of (tb_4 _ (List.mem_of_getElem? (i := 88) rfl)) rfl, in_L, ⟨by decide, by decide⟩, by decide +kernel, mTBL_of (tb_4 _ (List.mem_of_getElem? (i := 87) rfl)) rfl⟩
theorem o_L_cell : mOkH M_L_cell 4 := ⟨mTBL_of (tb_3 _ (List.mem_of_getElem? (i := 166) rfl)) rfl, in_L, ⟨by decide, by decide⟩, by decide +kernel, mTBL_of (tb_3 _ (List.mem_of_getElem? (i := 165) rfl)) rfl⟩
theorem o_L_cells : mOkH M_L_cells 3 := ⟨mTBL_of (tb_3 _ (List.mem_of_getElem? (i := 211) rfl)) rfl, in_L, ⟨by decide, by decide⟩, by decide +kernel, mTBL_of (tb_3 _ (List.mem_of_getElem? (i := 210) rfl)) rfl⟩
theorem o_L_count : mOkH M_L_count 3 := ⟨mTBL_of (tb_4 _ (List.mem_of_getElem? (i := 9) rfl)) rfl, in_L, ⟨by decide, by decide⟩, by decide +kernel, mTBL_of (tb_4 _ (List.mem_of_getElem? (i := 8) rfl)) rfl⟩
theorem o_L_distance : mOkH M_L_distance 4 := ⟨mTBL_of (tb_4 _ (List.mem_of_getElem? (i := 53) rfl)) rfl, in_L, ⟨by decide, by decide⟩, by decide +kernel, mTBL_of (tb_4 _ (List.mem_of_getElem? (i := 52) rfl)) rfl⟩
theorem o_L_feed : mOkH M_L_feed 3 := ⟨mTBL_of (tb_2 _ (List.mem_of_getElem? (i := 126) rfl)) rfl, in_L, ⟨by decide, by decide⟩, by decide +kernel, mTBL_of (tb_2 _ (List.mem_of_getElem? (i := 125) rfl)) rfl⟩
theorem o_L_finish : mOkH M_L_finish 3 := ⟨mTBL_of (tb_6 _ (List.mem_of_getElem? (i := 3) rfl)) rfl, in_L, ⟨by decide, by decide⟩, by decide +kernel, mTBL_of (tb_6 _ (List.mem_of_getElem? (i := 2) rfl)) rfl⟩
theorem o_L_goalRoom : mOkH M_L_goalRoom 4 := ⟨mTBL_of (tb_4 _ (List.mem_of_getElem? (i := 144) rfl)) rfl, in_L, ⟨by decide, by decide⟩, by decide +kernel, mTBL_of (tb_4 _ (List.mem_of_getElem? (i := 143) rfl)) rfl⟩
theorem o_L_isReplayed : mOkH M_L_isReplayed 2 := ⟨mTBL_of (tb_6 _ (List.mem_of_getElem? (i := 43) rfl)) rfl, in_L, ⟨by decide, by decide⟩, by decide +kernel, mTBL_of (tb_6 _ (List.mem_of_getElem? (i := 42) rfl)) rfl⟩
theorem o_L_longPush : mOkH M_L_longPush 4 := ⟨mTBL_of (tb_5 _ (List.mem_of_getElem? (i := 81) rfl)) rfl, in_L, ⟨by decide, by decide⟩, by decide +kernel, mTBL_of (tb_5 _ (List.mem_of_getElem? (i := 80) rfl)) rfl⟩
theorem o_L_play : mOkH M_L_play 2 := ⟨mTBL_of (tb_5 _ (List.mem_of_getElem? (i := 100) rfl)) rfl, in_L, ⟨by decide, by decide⟩, by decide +kernel, mTBL_of (tb_5 _ (List.mem_of_getElem? (i := 99) rfl)) rfl⟩
theorem o_L_push : mOkH M_L_push 4 := ⟨mTBL_of (tb_5 _ (List.mem_of_getElem? (i := 15) rfl)) rfl, in_L, ⟨by decide, by decide⟩, by decide +kernel, mTBL_of (tb_5 _ (List.mem_of_getElem? (i := 14) rfl)) rfl⟩
theorem o_L_readRoom : mOkH M_L_readRoom 2 := ⟨mTBL_of (tb_2 _ (List.mem_of_getElem? (i := 226) rfl)) rfl, in_L, ⟨by decide, by decide⟩, by decide +kernel, mTBL_of (tb_2 _ (List.mem_of_getElem? (i := 225) rfl)) rfl⟩
theorem o_L_recorded : mOkH M_L_recorded 3 := ⟨mTBL_of (tb_6 _ (List.mem_of_getElem? (i := 10) rfl)) rfl, in_L, ⟨by decide, by decide⟩, by decide +kernel, mTBL_of (tb_6 _ (List.mem_of_getElem? (i := 9) rfl)) rfl⟩
theorem o_L_refusal : mOkH M_L_refusal 3 := ⟨mTBL_of (tb_5 _ (List.mem_of_getElem? (i := 147) rfl)) rfl, in_L, ⟨by decide, by decide⟩, by decide +kernel, mTBL_of (tb_5 _ (List.mem_of_getElem? (i := 146) rfl)) rfl⟩
theorem o_L_refused : mOkH M_L_refused 2 := ⟨mTBL_of (tb_5 _ (List.mem_of_getElem? (i := 139) rfl)) rfl, in_L, ⟨by decide, by decide⟩, by decide +kernel, mTBL_of (tb_5 _ (List.mem_of_getElem? (i := 138) rfl)) rfl⟩
theorem o_L_refuses : mOkH M_L_refuses 4 := ⟨mTBL_of (tb_5 _ (List.mem_of_getElem? (i := 155) rfl)) rfl, in_L, ⟨by decide, by decide⟩, by decide +kernel, mTBL_of (tb_5 _ (List.mem_of_getElem? (i := 154) rfl)) rfl⟩
theorem o_L_restoreSnapshot : mOkH M_L_restoreSnapshot 2 := ⟨mTBL_of (tb_6 _ (List.mem_of_getElem? (i := 88) rfl)) rfl, in_L, ⟨by decide, by decide⟩, by decide +kernel, mTBL_of (tb_6 _ (List.mem_of_getElem? (i := 87) rfl)) rfl⟩
theorem o_L_saveSnapshot : mOkH M_L_saveSnapshot 2 := ⟨mTBL_of (tb_6 _ (List.mem_of_getElem? (i := 73) rfl)) rfl, in_L, ⟨by decide, by decide⟩, by decide +kernel, mTBL_of (tb_6 _ (List.mem_of_getElem? (i := 72) rfl)) rfl⟩
theorem o_L_solution : mOkH M_L_solution 4 := ⟨mTBL_of (tb_5 _ (List.mem_of_getElem? (i := 226) rfl)) rfl, in_L, ⟨by decide, by decide⟩, by decide +kernel, mTBL_of (tb_5 _ (List.mem_of_getElem? (i := 225) rfl)) rfl⟩
theorem o_L_solve : mOkH M_L_solve 4 := ⟨mTBL_of (tb_5 _ (List.mem_of_getElem? (i := 162) rfl)) rfl, in_L, ⟨by decide, by decide⟩, by decide +kernel, mTBL_of (tb_5 _ (List.mem_of_getElem? (i := 161) rfl)) rfl⟩
theorem o_L_step : mOkH M_L_step 3 := ⟨mTBL_of (tb_4 _ (List.mem_of_getElem? (i := 176) rfl)) rfl, in_L, ⟨by decide, by decide⟩, by decide +kernel, mTBL_of (tb_4 _ (List.mem_of_getElem? (i := 175) rfl)) rfl⟩
theorem o_L_stuck : mOkH M_L_stuck 3 := ⟨mTBL_of (tb_4 _ (List.mem_of_getElem? (i := 124) rfl)) rfl, in_L, ⟨by decide, by decide⟩, by decide +kernel, mTBL_of (tb_4 _ (List.mem_of_getElem? (i := 123) rfl)) rfl⟩
theorem o_L_undo : mOkH M_L_undo 2 := ⟨mTBL_of (tb_6 _ (List.mem_of_getElem? (i := 60) rfl)) rfl, in_L, ⟨by decide, by decide⟩, by decide +kernel, mTBL_of (tb_6 _ (List.mem_of_getElem? (i := 59) rfl)) rfl⟩
theorem o_X0_begin : mOkV M_X0_begin 1 := ⟨⟨mTBL_of (tb_3 _ (List.mem_of_getElem? (i := 128) rfl)) rfl, in_X0, ⟨by decide, by decide⟩, by decide +kernel⟩, mTBL_of (tb_3 _ (List.mem_of_getElem? (i := 126) rfl)) rfl, mTBL_of (tb_3 _ (List.mem_of_getElem? (i := 127) rfl)) rfl⟩
theorem o_X0_comesOutAgain : mOkV M_X0_comesOutAgain 0 := ⟨⟨mTBL_of (tb_6 _ (List.mem_of_getElem? (i := 51) rfl)) rfl, in_X0, ⟨by decide, by decide⟩, by decide +kernel⟩, mTBL_of (tb_6 _ (List.mem_of_getElem? (i := 49) rfl)) rfl, mTBL_of (tb_6 _ (List.mem_of_getElem? (i := 50) rfl)) rfl⟩
theorem o_X0_copy : mOkV M_X0_copy 1 := ⟨⟨mTBL_of (tb_6 _ (List.mem_of_getElem? (i := 81) rfl)) rfl, in_X0, ⟨by decide, by decide⟩, by decide +kernel⟩, mTBL_of (tb_6 _ (List.mem_of_getElem? (i := 79) rfl)) rfl, mTBL_of (tb_6 _ (List.mem_of_getElem? (i := 80) rfl)) rfl⟩
theorem o_X0_directionInto : mOkV M_X0_directionInto 1 := ⟨⟨mTBL_of (tb_5 _ (List.mem_of_getElem? (i := 65) rfl)) rfl, in_X0, ⟨by decide, by decide⟩, by decide +kernel⟩, mTBL_of (tb_5 _ (List.mem_of_getElem? (i := 64) rfl)) rfl, mTBL_of (List.mem_append_left _ (List.mem_of_getElem? (i := 17) rfl)) rfl⟩
theorem o_X0_makeStep : mOkV M_X0_makeStep 1 := ⟨⟨mTBL_of (tb_4 _ (List.mem_of_getElem? (i := 234) rfl)) rfl, in_X0, ⟨by decide, by decide⟩, by decide +kernel⟩, mTBL_of (tb_4 _ (List.mem_of_getElem? (i := 232) rfl)) rfl, mTBL_of (tb_4 _ (List.mem_of_getElem? (i := 233) rfl)) rfl⟩
theorem o_X0_pushBox : mOkV M_X0_pushBox 2 := ⟨⟨mTBL_of (tb_5 _ (List.mem_of_getElem? (i := 47) rfl)) rfl, in_X0, ⟨by decide, by decide⟩, by decide +kernel⟩, mTBL_of (tb_5 _ (List.mem_of_getElem? (i := 45) rfl)) rfl, mTBL_of (tb_5 _ (List.mem_of_getElem? (i := 46) rfl)) rfl⟩
theorem o_X0_pushBoxOn : mOkV M_X0_pushBoxOn 2 := ⟨⟨mTBL_of (tb_5 _ (List.mem_of_getElem? (i := 89) rfl)) rfl, in_X0, ⟨by decide, by decide⟩, by decide +kernel⟩, mTBL_of (tb_5 _ (List.mem_of_getElem? (i := 87) rfl)) rfl, mTBL_of (tb_5 _ (List.mem_of_getElem? (i := 88) rfl)) rfl⟩
theorem o_X0_pushes : mOkV M_X0_pushes 0 := ⟨⟨mTBL_of (tb_4 _ (List.mem_of_getElem? (i := 17) rfl)) rfl, in_X0, ⟨by decide, by decide⟩, by decide +kernel⟩, mTBL_of (tb_4 _ (List.mem_of_getElem? (i := 15) rfl)) rfl, mTBL_of (tb_4 _ (List.mem_of_getElem? (i := 16) rfl)) rfl⟩
theorem o_X0_returnTo : mOkV M_X0_returnTo 3 := ⟨⟨mTBL_of (tb_3 _ (List.mem_of_getElem? (i := 153) rfl)) rfl, in_X0, ⟨by decide, by decide⟩, by decide +kernel⟩, mTBL_of (tb_3 _ (List.mem_of_getElem? (i := 151) rfl)) rfl, mTBL_of (tb_3 _ (List.mem_of_getElem? (i := 152) rfl)) rfl⟩
theorem o_X0_signOf : mOkV M_X0_signOf 1 := ⟨⟨mTBL_of (tb_3 _ (List.mem_of_getElem? (i := 204) rfl)) rfl, in_X0, ⟨by decide, by decide⟩, by decide +kernel⟩, mTBL_of (tb_3 _ (List.mem_of_getElem? (i := 202) rfl)) rfl, mTBL_of (tb_3 _ (List.mem_of_getElem? (i := 203) rfl)) rfl⟩
theorem o_X0_walkTo : mOkV M_X0_walkTo 1 := ⟨⟨mTBL_of (tb_5 _ (List.mem_of_getElem? (i := 52) rfl)) rfl, in_X0, ⟨by decide, by decide⟩, by decide +kernel⟩, mTBL_of (tb_5 _ (List.mem_of_getElem? (i := 51) rfl)) rfl, mTBL_of (List.mem_append_left _ (List.mem_of_getElem? (i := 16) rfl)) rfl⟩
theorem o_X10_add : mOkV M_X10_add 1 := ⟨⟨mTBL_of (tb_2 _ (List.mem_of_getElem? (i := 223) rfl)) rfl, in_X10, ⟨by decide, by decide⟩, by decide +kernel⟩, mTBL_of (tb_2 _ (List.mem_of_getElem? (i := 221) rfl)) rfl, mTBL_of (tb_2 _ (List.mem_of_getElem? (i := 222) rfl)) rfl⟩
theorem o_X10_at : mOkV M_X10_at 1 := ⟨⟨mTBL_of (tb_3 _ (List.mem_of_getElem? (i := 3) rfl)) rfl, in_X10, ⟨by decide, by decide⟩, by decide +kernel⟩, mTBL_of (tb_3 _ (List.mem_of_getElem? (i := 1) rfl)) rfl, mTBL_of (tb_3 _ (List.mem_of_getElem? (i := 2) rfl)) rfl⟩
theorem o_X10_faultAsSteps : mOkV M_X10_faultAsSteps 1 := ⟨⟨mTBL_of (tb_5 _ (List.mem_of_getElem? (i := 108) rfl)) rfl, in_X10, ⟨by decide, by decide⟩, by decide +kernel⟩, mTBL_of (tb_5 _ (List.mem_of_getElem? (i := 106) rfl)) rfl, mTBL_of (tb_5 _ (List.mem_of_getElem? (i := 107) rfl)) rfl⟩
theorem o_X10_isDigit : mOkS M_X10_isDigit 2 := ⟨⟨mTBL_of (tb_5 _ (List.mem_of_getElem? (i := 114) rfl)) rfl, in_X10, ⟨by decide, by decide⟩, by decide +kernel⟩, mTBL_of (tb_5 _ (List.mem_of_getElem? (i := 113) rfl)) rfl⟩
theorem o_X10_take : mOkV M_X10_take 0 := ⟨⟨mTBL_of (tb_2 _ (List.mem_of_getElem? (i := 235) rfl)) rfl, in_X10, ⟨by decide, by decide⟩, by decide +kernel⟩, mTBL_of (tb_2 _ (List.mem_of_getElem? (i := 233) rfl)) rfl, mTBL_of (tb_2 _ (List.mem_of_getElem? (i := 234) rfl)) rfl⟩
theorem o_X11_bit : mOkS M_X11_bit 1 := ⟨⟨mTBL_of (tb_3 _ (List.mem_of_getElem? (i := 101) rfl)) rfl, in_X11, ⟨by decide, by decide⟩, by decide +kernel⟩, mTBL_of (tb_3 _ (List.mem_of_getElem? (i := 100) rfl)) rfl⟩
theorem o_X11_bound : mOkV M_X11_bound 0 := ⟨⟨mTBL_of (tb_4 _ (List.mem_of_getElem? (i := 92) rfl)) rfl, in_X11, ⟨by decide, by decide⟩, by decide +kernel⟩, mTBL_of (tb_4 _ (List.mem_of_getElem? (i := 90) rfl)) rfl, mTBL_of (tb_4 _ (List.mem_of_getElem? (i := 91) rfl)) rfl⟩
theorem o_X11_cell : mOkV M_X11_cell 2 := ⟨⟨mTBL_of (tb_3 _ (List.mem_of_getElem? (i := 171) rfl)) rfl, in_X11, ⟨by decide, by decide⟩, by decide +kernel⟩, mTBL_of (tb_3 _ (List.mem_of_getElem? (i := 169) rfl)) rfl, mTBL_of (tb_3 _ (List.mem_of_getElem? (i := 170) rfl)) rfl⟩
theorem o_X11_cells : mOkV M_X11_cells 1 := ⟨⟨mTBL_of (tb_3 _ (List.mem_of_getElem? (i := 215) rfl)) rfl, in_X11, ⟨by decide, by decide⟩, by decide +kernel⟩, mTBL_of (tb_3 _ (List.mem_of_getElem? (i := 213) rfl)) rfl, mTBL_of (tb_3 _ (List.mem_of_getElem? (i := 214) rfl)) rfl⟩
theorem o_X11_codeOf : mOkS M_X11_codeOf 2 := ⟨⟨mTBL_of (tb_5 _ (List.mem_of_getElem? (i := 1) rfl)) rfl, in_X11, ⟨by decide, by decide⟩, by decide +kernel⟩, mTBL_of (tb_5 _ (List.mem_of_getElem? (i := 0) rfl)) rfl⟩
theorem o_X11_commitOrThrow : mOkV M_X11_commitOrThrow 0 := ⟨⟨mTBL_of (tb_5 _ (List.mem_of_getElem? (i := 72) rfl)) rfl, in_X11, ⟨by decide, by decide⟩, by decide +kernel⟩, mTBL_of (tb_5 _ (List.mem_of_getElem? (i := 71) rfl)) rfl, mTBL_of (List.mem_append_left _ (List.mem_of_getElem? (i := 18) rfl)) rfl⟩
theorem o_X11_count : mOkV M_X11_count 1 := ⟨⟨mTBL_of (tb_4 _ (List.mem_of_getElem? (i := 13) rfl)) rfl, in_X11, ⟨by decide, by decide⟩, by decide +kernel⟩, mTBL_of (tb_4 _ (List.mem_of_getElem? (i := 11) rfl)) rfl, mTBL_of (tb_4 _ (List.mem_of_getElem? (i := 12) rfl)) rfl⟩
theorem o_X11_directionOf : mOkS M_X11_directionOf 1 := ⟨⟨mTBL_of (tb_5 _ (List.mem_of_getElem? (i := 129) rfl)) rfl, in_X11, ⟨by decide, by decide⟩, by decide +kernel⟩, mTBL_of (tb_5 _ (List.mem_of_getElem? (i := 128) rfl)) rfl⟩
theorem o_X11_distance : mOkV M_X11_distance 2 := ⟨⟨mTBL_of (tb_4 _ (List.mem_of_getElem? (i := 58) rfl)) rfl, in_X11, ⟨by decide, by decide⟩, by decide +kernel⟩, mTBL_of (tb_4 _ (List.mem_of_getElem? (i := 56) rfl)) rfl, mTBL_of (tb_4 _ (List.mem_of_getElem? (i := 57) rfl)) rfl⟩
theorem o_X11_feed : mOkV M_X11_feed 1 := ⟨⟨mTBL_of (tb_2 _ (List.mem_of_getElem? (i := 132) rfl)) rfl, in_X11, ⟨by decide, by decide⟩, by decide +kernel⟩, mTBL_of (tb_2 _ (List.mem_of_getElem? (i := 130) rfl)) rfl, mTBL_of (tb_2 _ (List.mem_of_getElem? (i := 131) rfl)) rfl⟩
theorem o_X11_finish : mOkV M_X11_finish 1 := ⟨⟨mTBL_of (tb_6 _ (List.mem_of_getElem? (i := 7) rfl)) rfl, in_X11, ⟨by decide, by decide⟩, by decide +kernel⟩, mTBL_of (tb_6 _ (List.mem_of_getElem? (i := 5) rfl)) rfl, mTBL_of (tb_6 _ (List.mem_of_getElem? (i := 6) rfl)) rfl⟩
theorem o_X11_goalRoom : mOkV M_X11_goalRoom 2 := ⟨⟨mTBL_of (tb_4 _ (List.mem_of_getElem? (i := 148) rfl)) rfl, in_X11, ⟨by decide, by decide⟩, by decide +kernel⟩, mTBL_of (tb_4 _ (List.mem_of_getElem? (i := 146) rfl)) rfl, mTBL_of (tb_4 _ (List.mem_of_getElem? (i := 147) rfl)) rfl⟩
theorem o_X11_has : mOkS M_X11_has 2 := ⟨⟨mTBL_of (tb_3 _ (List.mem_of_getElem? (i := 207) rfl)) rfl, in_X11, ⟨by decide, by decide⟩, by decide +kernel⟩, mTBL_of (tb_3 _ (List.mem_of_getElem? (i := 206) rfl)) rfl⟩
theorem o_X11_intAt : mOkS M_X11_intAt 2 := ⟨⟨mTBL_of (tb_4 _ (List.mem_of_getElem? (i := 20) rfl)) rfl, in_X11, ⟨by decide, by decide⟩, by decide +kernel⟩, mTBL_of (tb_4 _ (List.mem_of_getElem? (i := 19) rfl)) rfl⟩
theorem o_X11_isPushCode : mOkS M_X11_isPushCode 1 := ⟨⟨mTBL_of (tb_4 _ (List.mem_of_getElem? (i := 23) rfl)) rfl, in_X11, ⟨by decide, by decide⟩, by decide +kernel⟩, mTBL_of (tb_4 _ (List.mem_of_getElem? (i := 22) rfl)) rfl⟩
theorem o_X11_isReplayed : mOkV M_X11_isReplayed 0 := ⟨⟨mTBL_of (tb_6 _ (List.mem_of_getElem? (i := 47) rfl)) rfl, in_X11, ⟨by decide, by decide⟩, by decide +kernel⟩, mTBL_of (tb_6 _ (List.mem_of_getElem? (i := 45) rfl)) rfl, mTBL_of (tb_6 _ (List.mem_of_getElem? (i := 46) rfl)) rfl⟩
theorem o_X11_keepRefusal : mOkV M_X11_keepRefusal 2 := ⟨⟨mTBL_of (tb_4 _ (List.mem_of_getElem? (i := 208) rfl)) rfl, in_X11, ⟨by decide, by decide⟩, by decide +kernel⟩, mTBL_of (tb_4 _ (List.mem_of_getElem? (i := 207) rfl)) rfl, mTBL_of (List.mem_append_left _ (List.mem_of_getElem? (i := 12) rfl)) rfl⟩
theorem o_X11_letterOf : mOkS M_X11_letterOf 1 := ⟨⟨mTBL_of (tb_6 _ (List.mem_of_getElem? (i := 19) rfl)) rfl, in_X11, ⟨by decide, by decide⟩, by decide +kernel⟩, mTBL_of (tb_6 _ (List.mem_of_getElem? (i := 18) rfl)) rfl⟩
theorem o_X11_longAt : mOkS M_X11_longAt 2 := ⟨⟨mTBL_of (tb_4 _ (List.mem_of_getElem? (i := 172) rfl)) rfl, in_X11, ⟨by decide, by decide⟩, by decide +kernel⟩, mTBL_of (tb_4 _ (List.mem_of_getElem? (i := 171) rfl)) rfl⟩
theorem o_X11_longPush : mOkV M_X11_longPush 2 := ⟨⟨mTBL_of (tb_5 _ (List.mem_of_getElem? (i := 85) rfl)) rfl, in_X11, ⟨by decide, by decide⟩, by decide +kernel⟩, mTBL_of (tb_5 _ (List.mem_of_getElem? (i := 83) rfl)) rfl, mTBL_of (tb_5 _ (List.mem_of_getElem? (i := 84) rfl)) rfl⟩
theorem o_X11_lowest : mOkS M_X11_lowest 1 := ⟨⟨mTBL_of (tb_4 _ (List.mem_of_getElem? (i := 141) rfl)) rfl, in_X11, ⟨by decide, by decide⟩, by decide +kernel⟩, mTBL_of (tb_4 _ (List.mem_of_getElem? (i := 140) rfl)) rfl⟩
theorem o_X11_opposite : mOkS M_X11_opposite 1 := ⟨⟨mTBL_of (tb_3 _ (List.mem_of_getElem? (i := 140) rfl)) rfl, in_X11, ⟨by decide, by decide⟩, by decide +kernel⟩, mTBL_of (tb_3 _ (List.mem_of_getElem? (i := 139) rfl)) rfl⟩
theorem o_X11_play : mOkV M_X11_play 0 := ⟨⟨mTBL_of (tb_5 _ (List.mem_of_getElem? (i := 104) rfl)) rfl, in_X11, ⟨by decide, by decide⟩, by decide +kernel⟩, mTBL_of (tb_5 _ (List.mem_of_getElem? (i := 102) rfl)) rfl, mTBL_of (tb_5 _ (List.mem_of_getElem? (i := 103) rfl)) rfl⟩
theorem o_X11_playElement : mOkV M_X11_playElement 2 := ⟨⟨mTBL_of (tb_5 _ (List.mem_of_getElem? (i := 126) rfl)) rfl, in_X11, ⟨by decide, by decide⟩, by decide +kernel⟩, mTBL_of (tb_5 _ (List.mem_of_getElem? (i := 125) rfl)) rfl, mTBL_of (List.mem_append_left _ (List.mem_of_getElem? (i := 20) rfl)) rfl⟩
theorem o_X11_playElements : mOkV M_X11_playElements 1 := ⟨⟨mTBL_of (tb_5 _ (List.mem_of_getElem? (i := 118) rfl)) rfl, in_X11, ⟨by decide, by decide⟩, by decide +kernel⟩, mTBL_of (tb_5 _ (List.mem_of_getElem? (i := 117) rfl)) rfl, mTBL_of (List.mem_append_left _ (List.mem_of_getElem? (i := 19) rfl)) rfl⟩
theorem o_X11_push : mOkV M_X11_push 2 := ⟨⟨mTBL_of (tb_5 _ (List.mem_of_getElem? (i := 19) rfl)) rfl, in_X11, ⟨by decide, by decide⟩, by decide +kernel⟩, mTBL_of (tb_5 _ (List.mem_of_getElem? (i := 17) rfl)) rfl, mTBL_of (tb_5 _ (List.mem_of_getElem? (i := 18) rfl)) rfl⟩
theorem o_X11_readRoom : mOkV M_X11_readRoom 0 := ⟨⟨mTBL_of (tb_2 _ (List.mem_of_getElem? (i := 231) rfl)) rfl, in_X11, ⟨by decide, by decide⟩, by decide +kernel⟩, mTBL_of (tb_2 _ (List.mem_of_getElem? (i := 229) rfl)) rfl, mTBL_of (tb_2 _ (List.mem_of_getElem? (i := 230) rfl)) rfl⟩
theorem o_X11_recorded : mOkV M_X11_recorded 1 := ⟨⟨mTBL_of (tb_6 _ (List.mem_of_getElem? (i := 14) rfl)) rfl, in_X11, ⟨by decide, by decide⟩, by decide +kernel⟩, mTBL_of (tb_6 _ (List.mem_of_getElem? (i := 12) rfl)) rfl, mTBL_of (tb_6 _ (List.mem_of_getElem? (i := 13) rfl)) rfl⟩
theorem o_X11_refusal : mOkV M_X11_refusal 1 := ⟨⟨mTBL_of (tb_5 _ (List.mem_of_getElem? (i := 151) rfl)) rfl, in_X11, ⟨by decide, by decide⟩, by decide +kernel⟩, mTBL_of (tb_5 _ (List.mem_of_getElem? (i := 149) rfl)) rfl, mTBL_of (tb_5 _ (List.mem_of_getElem? (i := 150) rfl)) rfl⟩
theorem o_X11_refused : mOkV M_X11_refused 0 := ⟨⟨mTBL_of (tb_5 _ (List.mem_of_getElem? (i := 143) rfl)) rfl, in_X11, ⟨by decide, by decide⟩, by decide +kernel⟩, mTBL_of (tb_5 _ (List.mem_of_getElem? (i := 141) rfl)) rfl, mTBL_of (tb_5 _ (List.mem_of_getElem? (i := 142) rfl)) rfl⟩
theorem o_X11_refuses : mOkV M_X11_refuses 2 := ⟨⟨mTBL_of (tb_5 _ (List.mem_of_getElem? (i := 159) rfl)) rfl, in_X11, ⟨by decide, by decide⟩, by decide +kernel⟩, mTBL_of (tb_5 _ (List.mem_of_getElem? (i := 157) rfl)) rfl, mTBL_of (tb_5 _ (List.mem_of_getElem? (i := 158) rfl)) rfl⟩
theorem o_X11_requireBox : mOkV M_X11_requireBox 2 := ⟨⟨mTBL_of (tb_5 _ (List.mem_of_getElem? (i := 27) rfl)) rfl, in_X11, ⟨by decide, by decide⟩, by decide +kernel⟩, mTBL_of (tb_5 _ (List.mem_of_getElem? (i := 26) rfl)) rfl, mTBL_of (List.mem_append_left _ (List.mem_of_getElem? (i := 15) rfl)) rfl⟩
theorem o_X11_requireDirection : mOkS M_X11_requireDirection 1 := ⟨⟨mTBL_of (tb_4 _ (List.mem_of_getElem? (i := 184) rfl)) rfl, in_X11, ⟨by decide, by decide⟩, by decide +kernel⟩, mTBL_of (tb_4 _ (List.mem_of_getElem? (i := 183) rfl)) rfl⟩
theorem o_X11_requirePush : mOkV M_X11_requirePush 2 := ⟨⟨mTBL_of (tb_5 _ (List.mem_of_getElem? (i := 23) rfl)) rfl, in_X11, ⟨by decide, by decide⟩, by decide +kernel⟩, mTBL_of (tb_5 _ (List.mem_of_getElem? (i := 22) rfl)) rfl, mTBL_of (List.mem_append_left _ (List.mem_of_getElem? (i := 14) rfl)) rfl⟩
theorem o_X11_requireRoom : mOkV M_X11_requireRoom 0 := ⟨⟨mTBL_of (tb_3 _ (List.mem_of_getElem? (i := 175) rfl)) rfl, in_X11, ⟨by decide, by decide⟩, by decide +kernel⟩, mTBL_of (tb_3 _ (List.mem_of_getElem? (i := 174) rfl)) rfl, mTBL_of (List.mem_append_left _ (List.mem_of_getElem? (i := 5) rfl)) rfl⟩
theorem o_X11_restoreSnapshot : mOkV M_X11_restoreSnapshot 0 := ⟨⟨mTBL_of (tb_6 _ (List.mem_of_getElem? (i := 92) rfl)) rfl, in_X11, ⟨by decide, by decide⟩, by decide +kernel⟩, mTBL_of (tb_6 _ (List.mem_of_getElem? (i := 90) rfl)) rfl, mTBL_of (tb_6 _ (List.mem_of_getElem? (i := 91) rfl)) rfl⟩
theorem o_X11_saveSnapshot : mOkV M_X11_saveSnapshot 0 := ⟨⟨mTBL_of (tb_6 _ (List.mem_of_getElem? (i := 77) rfl)) rfl, in_X11, ⟨by decide, by decide⟩, by decide +kernel⟩, mTBL_of (tb_6 _ (List.mem_of_getElem? (i := 75) rfl)) rfl, mTBL_of (tb_6 _ (List.mem_of_getElem? (i := 76) rfl)) rfl⟩
theorem o_X11_searchAndKeep : mOkV M_X11_searchAndKeep 2 := ⟨⟨mTBL_of (tb_5 _ (List.mem_of_getElem? (i := 170) rfl)) rfl, in_X11, ⟨by decide, by decide⟩, by decide +kernel⟩, mTBL_of (tb_5 _ (List.mem_of_getElem? (i := 169) rfl)) rfl, mTBL_of (List.mem_append_left _ (List.mem_of_getElem? (i := 21) rfl)) rfl⟩
theorem o_X11_setInt : mOkS M_X11_setInt 3 := ⟨⟨mTBL_of (tb_4 _ (List.mem_of_getElem? (i := 108) rfl)) rfl, in_X11, ⟨by decide, by decide⟩, by decide +kernel⟩, mTBL_of (tb_4 _ (List.mem_of_getElem? (i := 107) rfl)) rfl⟩
theorem o_X11_setLong : mOkS M_X11_setLong 3 := ⟨⟨mTBL_of (tb_4 _ (List.mem_of_getElem? (i := 163) rfl)) rfl, in_X11, ⟨by decide, by decide⟩, by decide +kernel⟩, mTBL_of (tb_4 _ (List.mem_of_getElem? (i := 162) rfl)) rfl⟩
theorem o_X11_solution : mOkV M_X11_solution 2 := ⟨⟨mTBL_of (tb_5 _ (List.mem_of_getElem? (i := 230) rfl)) rfl, in_X11, ⟨by decide, by decide⟩, by decide +kernel⟩, mTBL_of (tb_5 _ (List.mem_of_getElem? (i := 228) rfl)) rfl, mTBL_of (tb_5 _ (List.mem_of_getElem? (i := 229) rfl)) rfl⟩
theorem o_X11_solve : mOkV M_X11_solve 2 := ⟨⟨mTBL_of (tb_5 _ (List.mem_of_getElem? (i := 166) rfl)) rfl, in_X11, ⟨by decide, by decide⟩, by decide +kernel⟩, mTBL_of (tb_5 _ (List.mem_of_getElem? (i := 164) rfl)) rfl, mTBL_of (tb_5 _ (List.mem_of_getElem? (i := 165) rfl)) rfl⟩
theorem o_X11_step : mOkV M_X11_step 1 := ⟨⟨mTBL_of (tb_4 _ (List.mem_of_getElem? (i := 181) rfl)) rfl, in_X11, ⟨by decide, by decide⟩, by decide +kernel⟩, mTBL_of (tb_4 _ (List.mem_of_getElem? (i := 179) rfl)) rfl, mTBL_of (tb_4 _ (List.mem_of_getElem? (i := 180) rfl)) rfl⟩
theorem o_X11_stuck : mOkV M_X11_stuck 1 := ⟨⟨mTBL_of (tb_4 _ (List.mem_of_getElem? (i := 128) rfl)) rfl, in_X11, ⟨by decide, by decide⟩, by decide +kernel⟩, mTBL_of (tb_4 _ (List.mem_of_getElem? (i := 126) rfl)) rfl, mTBL_of (tb_4 _ (List.mem_of_getElem? (i := 127) rfl)) rfl⟩
theorem o_X11_undo : mOkV M_X11_undo 0 := ⟨⟨mTBL_of (tb_6 _ (List.mem_of_getElem? (i := 64) rfl)) rfl, in_X11, ⟨by decide, by decide⟩, by decide +kernel⟩, mTBL_of (tb_6 _ (List.mem_of_getElem? (i := 62) rfl)) rfl, mTBL_of (tb_6 _ (List.mem_of_getElem? (i := 63) rfl)) rfl⟩
theorem o_X12_beside : mOkV M_X12_beside 2 := ⟨⟨mTBL_of (tb_7 _ (List.mem_of_getElem? (i := 59) rfl)) rfl, in_X12, ⟨by decide, by decide⟩, by decide +kernel⟩, mTBL_of (tb_7 _ (List.mem_of_getElem? (i := 58) rfl)) rfl, mTBL_of (List.mem_append_left _ (List.mem_of_getElem? (i := 36) rfl)) rfl⟩
theorem o_X12_bound : mOkV M_X12_bound 0 := ⟨⟨mTBL_of (tb_7 _ (List.mem_of_getElem? (i := 115) rfl)) rfl, in_X12, ⟨by decide, by decide⟩, by decide +kernel⟩, mTBL_of (tb_7 _ (List.mem_of_getElem? (i := 113) rfl)) rfl, mTBL_of (tb_7 _ (List.mem_of_getElem? (i := 114) rfl)) rfl⟩
theorem o_X12_boxSet : mOkV M_X12_boxSet 0 := ⟨⟨mTBL_of (tb_8 _ (List.mem_of_getElem? (i := 2) rfl)) rfl, in_X12, ⟨by decide, by decide⟩, by decide +kernel⟩, mTBL_of (tb_8 _ (List.mem_of_getElem? (i := 1) rfl)) rfl, mTBL_of (List.mem_append_left _ (List.mem_of_getElem? (i := 68) rfl)) rfl⟩
theorem o_X12_cell : mOkV M_X12_cell 2 := ⟨⟨mTBL_of (tb_7 _ (List.mem_of_getElem? (i := 24) rfl)) rfl, in_X12, ⟨by decide, by decide⟩, by decide +kernel⟩, mTBL_of (tb_7 _ (List.mem_of_getElem? (i := 22) rfl)) rfl, mTBL_of (tb_7 _ (List.mem_of_getElem? (i := 23) rfl)) rfl⟩
theorem o_X12_cells : mOkV M_X12_cells 1 := ⟨⟨mTBL_of (tb_7 _ (List.mem_of_getElem? (i := 40) rfl)) rfl, in_X12, ⟨by decide, by decide⟩, by decide +kernel⟩, mTBL_of (tb_7 _ (List.mem_of_getElem? (i := 38) rfl)) rfl, mTBL_of (tb_7 _ (List.mem_of_getElem? (i := 39) rfl)) rfl⟩
theorem o_X12_commands : mOkV M_X12_commands 0 := ⟨⟨mTBL_of (tb_7 _ (List.mem_of_getElem? (i := 163) rfl)) rfl, in_X12, ⟨by decide, by decide⟩, by decide +kernel⟩, mTBL_of (tb_7 _ (List.mem_of_getElem? (i := 162) rfl)) rfl, mTBL_of (List.mem_append_left _ (List.mem_of_getElem? (i := 56) rfl)) rfl⟩
theorem o_X12_count : mOkV M_X12_count 1 := ⟨⟨mTBL_of (tb_7 _ (List.mem_of_getElem? (i := 83) rfl)) rfl, in_X12, ⟨by decide, by decide⟩, by decide +kernel⟩, mTBL_of (tb_7 _ (List.mem_of_getElem? (i := 81) rfl)) rfl, mTBL_of (tb_7 _ (List.mem_of_getElem? (i := 82) rfl)) rfl⟩
theorem o_X12_counted : mOkV M_X12_counted 1 := ⟨⟨mTBL_of (tb_7 _ (List.mem_of_getElem? (i := 87) rfl)) rfl, in_X12, ⟨by decide, by decide⟩, by decide +kernel⟩, mTBL_of (tb_7 _ (List.mem_of_getElem? (i := 86) rfl)) rfl, mTBL_of (List.mem_append_left _ (List.mem_of_getElem? (i := 42) rfl)) rfl⟩
theorem o_X12_dies : mOkV M_X12_dies 0 := ⟨⟨mTBL_of (tb_7 _ (List.mem_of_getElem? (i := 44) rfl)) rfl, in_X12, ⟨by decide, by decide⟩, by decide +kernel⟩, mTBL_of (tb_7 _ (List.mem_of_getElem? (i := 43) rfl)) rfl, mTBL_of (List.mem_append_left _ (List.mem_of_getElem? (i := 33) rfl)) rfl⟩
theorem o_X12_directionOf : mOkS M_X12_directionOf 1 := ⟨⟨mTBL_of (tb_7 _ (List.mem_of_getElem? (i := 214) rfl)) rfl, in_X12, ⟨by decide, by decide⟩, by decide +kernel⟩, mTBL_of (tb_7 _ (List.mem_of_getElem? (i := 213) rfl)) rfl⟩
theorem o_X12_distance : mOkV M_X12_distance 2 := ⟨⟨mTBL_of (tb_7 _ (List.mem_of_getElem? (i := 111) rfl)) rfl, in_X12, ⟨by decide, by decide⟩, by decide +kernel⟩, mTBL_of (tb_7 _ (List.mem_of_getElem? (i := 109) rfl)) rfl, mTBL_of (tb_7 _ (List.mem_of_getElem? (i := 110) rfl)) rfl⟩
theorem o_X12_fails : mOkV M_X12_fails 1 := ⟨⟨mTBL_of (tb_7 _ (List.mem_of_getElem? (i := 16) rfl)) rfl, in_X12, ⟨by decide, by decide⟩, by decide +kernel⟩, mTBL_of (tb_7 _ (List.mem_of_getElem? (i := 15) rfl)) rfl, mTBL_of (List.mem_append_left _ (List.mem_of_getElem? (i := 28) rfl)) rfl⟩
theorem o_X12_feed : mOkV M_X12_feed 1 := ⟨⟨mTBL_of (tb_6 _ (List.mem_of_getElem? (i := 232) rfl)) rfl, in_X12, ⟨by decide, by decide⟩, by decide +kernel⟩, mTBL_of (tb_6 _ (List.mem_of_getElem? (i := 230) rfl)) rfl, mTBL_of (tb_6 _ (List.mem_of_getElem? (i := 231) rfl)) rfl⟩
theorem o_X12_finds : mOkV M_X12_finds 3 := ⟨⟨mTBL_of (tb_7 _ (List.mem_of_getElem? (i := 238) rfl)) rfl, in_X12, ⟨by decide, by decide⟩, by decide +kernel⟩, mTBL_of (tb_7 _ (List.mem_of_getElem? (i := 237) rfl)) rfl, mTBL_of (List.mem_append_left _ (List.mem_of_getElem? (i := 67) rfl)) rfl⟩
theorem o_X12_finish : mOkV M_X12_finish 1 := ⟨⟨mTBL_of (tb_8 _ (List.mem_of_getElem? (i := 22) rfl)) rfl, in_X12, ⟨by decide, by decide⟩, by decide +kernel⟩, mTBL_of (tb_8 _ (List.mem_of_getElem? (i := 20) rfl)) rfl, mTBL_of (tb_8 _ (List.mem_of_getElem? (i := 21) rfl)) rfl⟩
theorem o_X12_freezes : mOkV M_X12_freezes 0 := ⟨⟨mTBL_of (tb_7 _ (List.mem_of_getElem? (i := 67) rfl)) rfl, in_X12, ⟨by decide, by decide⟩, by decide +kernel⟩, mTBL_of (tb_7 _ (List.mem_of_getElem? (i := 66) rfl)) rfl, mTBL_of (List.mem_append_left _ (List.mem_of_getElem? (i := 38) rfl)) rfl⟩
theorem o_X12_gathers : mOkV M_X12_gathers 1 := ⟨⟨mTBL_of (tb_7 _ (List.mem_of_getElem? (i := 103) rfl)) rfl, in_X12, ⟨by decide, by decide⟩, by decide +kernel⟩, mTBL_of (tb_7 _ (List.mem_of_getElem? (i := 102) rfl)) rfl, mTBL_of (List.mem_append_left _ (List.mem_of_getElem? (i := 46) rfl)) rfl⟩
theorem o_X12_goalRoom : mOkV M_X12_goalRoom 2 := ⟨⟨mTBL_of (tb_7 _ (List.mem_of_getElem? (i := 131) rfl)) rfl, in_X12, ⟨by decide, by decide⟩, by decide +kernel⟩, mTBL_of (tb_7 _ (List.mem_of_getElem? (i := 129) rfl)) rfl, mTBL_of (tb_7 _ (List.mem_of_getElem? (i := 130) rfl)) rfl⟩
theorem o_X12_goalRooms : mOkV M_X12_goalRooms 1 := ⟨⟨mTBL_of (tb_7 _ (List.mem_of_getElem? (i := 99) rfl)) rfl, in_X12, ⟨by decide, by decide⟩, by decide +kernel⟩, mTBL_of (tb_7 _ (List.mem_of_getElem? (i := 98) rfl)) rfl, mTBL_of (List.mem_append_left _ (List.mem_of_getElem? (i := 45) rfl)) rfl⟩
theorem o_X12_goes : mOkV M_X12_goes 1 := ⟨⟨mTBL_of (tb_7 _ (List.mem_of_getElem? (i := 167) rfl)) rfl, in_X12, ⟨by decide, by decide⟩, by decide +kernel⟩, mTBL_of (tb_7 _ (List.mem_of_getElem? (i := 166) rfl)) rfl, mTBL_of (List.mem_append_left _ (List.mem_of_getElem? (i := 57) rfl)) rfl⟩
theorem o_X12_goesBack : mOkV M_X12_goesBack 0 := ⟨⟨mTBL_of (tb_7 _ (List.mem_of_getElem? (i := 195) rfl)) rfl, in_X12, ⟨by decide, by decide⟩, by decide +kernel⟩, mTBL_of (tb_7 _ (List.mem_of_getElem? (i := 194) rfl)) rfl, mTBL_of (List.mem_append_left _ (List.mem_of_getElem? (i := 63) rfl)) rfl⟩
theorem o_X12_groups : mOkV M_X12_groups 0 := ⟨⟨mTBL_of (tb_7 _ (List.mem_of_getElem? (i := 95) rfl)) rfl, in_X12, ⟨by decide, by decide⟩, by decide +kernel⟩, mTBL_of (tb_7 _ (List.mem_of_getElem? (i := 94) rfl)) rfl, mTBL_of (List.mem_append_left _ (List.mem_of_getElem? (i := 44) rfl)) rfl⟩
theorem o_X12_hasRoom : mOkV M_X12_hasRoom 0 := ⟨⟨mTBL_of (tb_6 _ (List.mem_of_getElem? (i := 224) rfl)) rfl, in_X12, ⟨by decide, by decide⟩, by decide +kernel⟩, mTBL_of (tb_6 _ (List.mem_of_getElem? (i := 223) rfl)) rfl, mTBL_of (List.mem_append_left _ (List.mem_of_getElem? (i := 26) rfl)) rfl⟩
theorem o_X12_in : mOkS M_X12_in 3 := ⟨⟨mTBL_of (tb_6 _ (List.mem_of_getElem? (i := 235) rfl)) rfl, in_X12, ⟨by decide, by decide⟩, by decide +kernel⟩, mTBL_of (tb_6 _ (List.mem_of_getElem? (i := 234) rfl)) rfl⟩
theorem o_X12_isBlocked : mOkV M_X12_isBlocked 2 := ⟨⟨mTBL_of (tb_7 _ (List.mem_of_getElem? (i := 71) rfl)) rfl, in_X12, ⟨by decide, by decide⟩, by decide +kernel⟩, mTBL_of (tb_7 _ (List.mem_of_getElem? (i := 70) rfl)) rfl, mTBL_of (List.mem_append_left _ (List.mem_of_getElem? (i := 39) rfl)) rfl⟩
theorem o_X12_isBox : mOkV M_X12_isBox 1 := ⟨⟨mTBL_of (tb_7 _ (List.mem_of_getElem? (i := 32) rfl)) rfl, in_X12, ⟨by decide, by decide⟩, by decide +kernel⟩, mTBL_of (tb_7 _ (List.mem_of_getElem? (i := 31) rfl)) rfl, mTBL_of (List.mem_append_left _ (List.mem_of_getElem? (i := 31) rfl)) rfl⟩
theorem o_X12_isBoxText : mOkS M_X12_isBoxText 1 := ⟨⟨mTBL_of (tb_7 _ (List.mem_of_getElem? (i := 6) rfl)) rfl, in_X12, ⟨by decide, by decide⟩, by decide +kernel⟩, mTBL_of (tb_7 _ (List.mem_of_getElem? (i := 5) rfl)) rfl⟩
theorem o_X12_isCell : mOkS M_X12_isCell 1 := ⟨⟨mTBL_of (tb_7 _ (List.mem_of_getElem? (i := 12) rfl)) rfl, in_X12, ⟨by decide, by decide⟩, by decide +kernel⟩, mTBL_of (tb_7 _ (List.mem_of_getElem? (i := 11) rfl)) rfl⟩
theorem o_X12_isGoal : mOkV M_X12_isGoal 1 := ⟨⟨mTBL_of (tb_7 _ (List.mem_of_getElem? (i := 36) rfl)) rfl, in_X12, ⟨by decide, by decide⟩, by decide +kernel⟩, mTBL_of (tb_7 _ (List.mem_of_getElem? (i := 35) rfl)) rfl, mTBL_of (List.mem_append_left _ (List.mem_of_getElem? (i := 32) rfl)) rfl⟩
theorem o_X12_isIn : mOkV M_X12_isIn 2 := ⟨⟨mTBL_of (tb_7 _ (List.mem_of_getElem? (i := 75) rfl)) rfl, in_X12, ⟨by decide, by decide⟩, by decide +kernel⟩, mTBL_of (tb_7 _ (List.mem_of_getElem? (i := 74) rfl)) rfl, mTBL_of (List.mem_append_left _ (List.mem_of_getElem? (i := 40) rfl)) rfl⟩
theorem o_X12_isNearer : mOkV M_X12_isNearer 1 := ⟨⟨mTBL_of (tb_7 _ (List.mem_of_getElem? (i := 191) rfl)) rfl, in_X12, ⟨by decide, by decide⟩, by decide +kernel⟩, mTBL_of (tb_7 _ (List.mem_of_getElem? (i := 190) rfl)) rfl, mTBL_of (List.mem_append_left _ (List.mem_of_getElem? (i := 62) rfl)) rfl⟩
theorem o_X12_isOpen : mOkV M_X12_isOpen 1 := ⟨⟨mTBL_of (tb_7 _ (List.mem_of_getElem? (i := 28) rfl)) rfl, in_X12, ⟨by decide, by decide⟩, by decide +kernel⟩, mTBL_of (tb_7 _ (List.mem_of_getElem? (i := 27) rfl)) rfl, mTBL_of (List.mem_append_left _ (List.mem_of_getElem? (i := 30) rfl)) rfl⟩
theorem o_X12_isPlayerText : mOkS M_X12_isPlayerText 1 := ⟨⟨mTBL_of (tb_7 _ (List.mem_of_getElem? (i := 9) rfl)) rfl, in_X12, ⟨by decide, by decide⟩, by decide +kernel⟩, mTBL_of (tb_7 _ (List.mem_of_getElem? (i := 8) rfl)) rfl⟩
theorem o_X12_isReplayed : mOkV M_X12_isReplayed 0 := ⟨⟨mTBL_of (tb_8 _ (List.mem_of_getElem? (i := 31) rfl)) rfl, in_X12, ⟨by decide, by decide⟩, by decide +kernel⟩, mTBL_of (tb_8 _ (List.mem_of_getElem? (i := 29) rfl)) rfl, mTBL_of (tb_8 _ (List.mem_of_getElem? (i := 30) rfl)) rfl⟩
theorem o_X12_isSolved : mOkV M_X12_isSolved 0 := ⟨⟨mTBL_of (tb_7 _ (List.mem_of_getElem? (i := 107) rfl)) rfl, in_X12, ⟨by decide, by decide⟩, by decide +kernel⟩, mTBL_of (tb_7 _ (List.mem_of_getElem? (i := 106) rfl)) rfl, mTBL_of (List.mem_append_left _ (List.mem_of_getElem? (i := 47) rfl)) rfl⟩
theorem o_X12_isTunnel : mOkV M_X12_isTunnel 2 := ⟨⟨mTBL_of (tb_7 _ (List.mem_of_getElem? (i := 79) rfl)) rfl, in_X12, ⟨by decide, by decide⟩, by decide +kernel⟩, mTBL_of (tb_7 _ (List.mem_of_getElem? (i := 78) rfl)) rfl, mTBL_of (List.mem_append_left _ (List.mem_of_getElem? (i := 41) rfl)) rfl⟩
theorem o_X12_keeps : mOkV M_X12_keeps 2 := ⟨⟨mTBL_of (tb_7 _ (List.mem_of_getElem? (i := 155) rfl)) rfl, in_X12, ⟨by decide, by decide⟩, by decide +kernel⟩, mTBL_of (tb_7 _ (List.mem_of_getElem? (i := 154) rfl)) rfl, mTBL_of (List.mem_append_left _ (List.mem_of_getElem? (i := 54) rfl)) rfl⟩
theorem o_X12_lays : mOkV M_X12_lays 1 := ⟨⟨mTBL_of (tb_7 _ (List.mem_of_getElem? (i := 20) rfl)) rfl, in_X12, ⟨by decide, by decide⟩, by decide +kernel⟩, mTBL_of (tb_7 _ (List.mem_of_getElem? (i := 19) rfl)) rfl, mTBL_of (List.mem_append_left _ (List.mem_of_getElem? (i := 29) rfl)) rfl⟩
theorem o_X12_longPush : mOkV M_X12_longPush 2 := ⟨⟨mTBL_of (tb_7 _ (List.mem_of_getElem? (i := 199) rfl)) rfl, in_X12, ⟨by decide, by decide⟩, by decide +kernel⟩, mTBL_of (tb_7 _ (List.mem_of_getElem? (i := 197) rfl)) rfl, mTBL_of (tb_7 _ (List.mem_of_getElem? (i := 198) rfl)) rfl⟩
theorem o_X12_lowestHere : mOkV M_X12_lowestHere 0 := ⟨⟨mTBL_of (tb_8 _ (List.mem_of_getElem? (i := 6) rfl)) rfl, in_X12, ⟨by decide, by decide⟩, by decide +kernel⟩, mTBL_of (tb_8 _ (List.mem_of_getElem? (i := 5) rfl)) rfl, mTBL_of (List.mem_append_left _ (List.mem_of_getElem? (i := 69) rfl)) rfl⟩
theorem o_X12_oneMore : mOkV M_X12_oneMore 1 := ⟨⟨mTBL_of (tb_7 _ (List.mem_of_getElem? (i := 119) rfl)) rfl, in_X12, ⟨by decide, by decide⟩, by decide +kernel⟩, mTBL_of (tb_7 _ (List.mem_of_getElem? (i := 118) rfl)) rfl, mTBL_of (List.mem_append_left _ (List.mem_of_getElem? (i := 48) rfl)) rfl⟩
theorem o_X12_opposite : mOkS M_X12_opposite 1 := ⟨⟨mTBL_of (tb_7 _ (List.mem_of_getElem? (i := 55) rfl)) rfl, in_X12, ⟨by decide, by decide⟩, by decide +kernel⟩, mTBL_of (tb_7 _ (List.mem_of_getElem? (i := 54) rfl)) rfl⟩
theorem o_X12_ordered : mOkV M_X12_ordered 1 := ⟨⟨mTBL_of (tb_7 _ (List.mem_of_getElem? (i := 135) rfl)) rfl, in_X12, ⟨by decide, by decide⟩, by decide +kernel⟩, mTBL_of (tb_7 _ (List.mem_of_getElem? (i := 134) rfl)) rfl, mTBL_of (List.mem_append_left _ (List.mem_of_getElem? (i := 50) rfl)) rfl⟩
theorem o_X12_plainSteps : mOkV M_X12_plainSteps 1 := ⟨⟨mTBL_of (tb_7 _ (List.mem_of_getElem? (i := 139) rfl)) rfl, in_X12, ⟨by decide, by decide⟩, by decide +kernel⟩, mTBL_of (tb_7 _ (List.mem_of_getElem? (i := 138) rfl)) rfl, mTBL_of (List.mem_append_left _ (List.mem_of_getElem? (i := 51) rfl)) rfl⟩
theorem o_X12_play : mOkV M_X12_play 0 := ⟨⟨mTBL_of (tb_7 _ (List.mem_of_getElem? (i := 207) rfl)) rfl, in_X12, ⟨by decide, by decide⟩, by decide +kernel⟩, mTBL_of (tb_7 _ (List.mem_of_getElem? (i := 205) rfl)) rfl, mTBL_of (tb_7 _ (List.mem_of_getElem? (i := 206) rfl)) rfl⟩
theorem o_X12_push : mOkV M_X12_push 2 := ⟨⟨mTBL_of (tb_7 _ (List.mem_of_getElem? (i := 171) rfl)) rfl, in_X12, ⟨by decide, by decide⟩, by decide +kernel⟩, mTBL_of (tb_7 _ (List.mem_of_getElem? (i := 169) rfl)) rfl, mTBL_of (tb_7 _ (List.mem_of_getElem? (i := 170) rfl)) rfl⟩
theorem o_X12_pushStops : mOkV M_X12_pushStops 2 := ⟨⟨mTBL_of (tb_7 _ (List.mem_of_getElem? (i := 179) rfl)) rfl, in_X12, ⟨by decide, by decide⟩, by decide +kernel⟩, mTBL_of (tb_7 _ (List.mem_of_getElem? (i := 178) rfl)) rfl, mTBL_of (List.mem_append_left _ (List.mem_of_getElem? (i := 59) rfl)) rfl⟩
theorem o_X12_pushesTo : mOkV M_X12_pushesTo 1 := ⟨⟨mTBL_of (tb_7 _ (List.mem_of_getElem? (i := 52) rfl)) rfl, in_X12, ⟨by decide, by decide⟩, by decide +kernel⟩, mTBL_of (tb_7 _ (List.mem_of_getElem? (i := 51) rfl)) rfl, mTBL_of (List.mem_append_left _ (List.mem_of_getElem? (i := 35) rfl)) rfl⟩
theorem o_X12_pushing : mOkV M_X12_pushing 3 := ⟨⟨mTBL_of (tb_7 _ (List.mem_of_getElem? (i := 175) rfl)) rfl, in_X12, ⟨by decide, by decide⟩, by decide +kernel⟩, mTBL_of (tb_7 _ (List.mem_of_getElem? (i := 174) rfl)) rfl, mTBL_of (List.mem_append_left _ (List.mem_of_getElem? (i := 58) rfl)) rfl⟩
theorem o_X12_readRoom : mOkV M_X12_readRoom 0 := ⟨⟨mTBL_of (tb_6 _ (List.mem_of_getElem? (i := 239) rfl)) rfl, in_X12, ⟨by decide, by decide⟩, by decide +kernel⟩, mTBL_of (tb_6 _ (List.mem_of_getElem? (i := 237) rfl)) rfl, mTBL_of (tb_6 _ (List.mem_of_getElem? (i := 238) rfl)) rfl⟩
theorem o_X12_reasonForBox : mOkV M_X12_reasonForBox 2 := ⟨⟨mTBL_of (tb_7 _ (List.mem_of_getElem? (i := 151) rfl)) rfl, in_X12, ⟨by decide, by decide⟩, by decide +kernel⟩, mTBL_of (tb_7 _ (List.mem_of_getElem? (i := 150) rfl)) rfl, mTBL_of (List.mem_append_left _ (List.mem_of_getElem? (i := 53) rfl)) rfl⟩
theorem o_X12_reasonForLetter : mOkV M_X12_reasonForLetter 1 := ⟨⟨mTBL_of (tb_7 _ (List.mem_of_getElem? (i := 218) rfl)) rfl, in_X12, ⟨by decide, by decide⟩, by decide +kernel⟩, mTBL_of (tb_7 _ (List.mem_of_getElem? (i := 217) rfl)) rfl, mTBL_of (List.mem_append_left _ (List.mem_of_getElem? (i := 65) rfl)) rfl⟩
theorem o_X12_reasonForPush : mOkV M_X12_reasonForPush 2 := ⟨⟨mTBL_of (tb_7 _ (List.mem_of_getElem? (i := 183) rfl)) rfl, in_X12, ⟨by decide, by decide⟩, by decide +kernel⟩, mTBL_of (tb_7 _ (List.mem_of_getElem? (i := 182) rfl)) rfl, mTBL_of (List.mem_append_left _ (List.mem_of_getElem? (i := 60) rfl)) rfl⟩
theorem o_X12_reasonForStep : mOkV M_X12_reasonForStep 1 := ⟨⟨mTBL_of (tb_7 _ (List.mem_of_getElem? (i := 147) rfl)) rfl, in_X12, ⟨by decide, by decide⟩, by decide +kernel⟩, mTBL_of (tb_7 _ (List.mem_of_getElem? (i := 146) rfl)) rfl, mTBL_of (List.mem_append_left _ (List.mem_of_getElem? (i := 52) rfl)) rfl⟩
theorem o_X12_recorded : mOkV M_X12_recorded 1 := ⟨⟨mTBL_of (tb_8 _ (List.mem_of_getElem? (i := 27) rfl)) rfl, in_X12, ⟨by decide, by decide⟩, by decide +kernel⟩, mTBL_of (tb_8 _ (List.mem_of_getElem? (i := 25) rfl)) rfl, mTBL_of (tb_8 _ (List.mem_of_getElem? (i := 26) rfl)) rfl⟩
theorem o_X12_recordedPushes : mOkV M_X12_recordedPushes 0 := ⟨⟨mTBL_of (tb_7 _ (List.mem_of_getElem? (i := 91) rfl)) rfl, in_X12, ⟨by decide, by decide⟩, by decide +kernel⟩, mTBL_of (tb_7 _ (List.mem_of_getElem? (i := 90) rfl)) rfl, mTBL_of (List.mem_append_left _ (List.mem_of_getElem? (i := 43) rfl)) rfl⟩
theorem o_X12_refusal : mOkV M_X12_refusal 1 := ⟨⟨mTBL_of (tb_7 _ (List.mem_of_getElem? (i := 226) rfl)) rfl, in_X12, ⟨by decide, by decide⟩, by decide +kernel⟩, mTBL_of (tb_7 _ (List.mem_of_getElem? (i := 224) rfl)) rfl, mTBL_of (tb_7 _ (List.mem_of_getElem? (i := 225) rfl)) rfl⟩
theorem o_X12_refused : mOkV M_X12_refused 0 := ⟨⟨mTBL_of (tb_7 _ (List.mem_of_getElem? (i := 222) rfl)) rfl, in_X12, ⟨by decide, by decide⟩, by decide +kernel⟩, mTBL_of (tb_7 _ (List.mem_of_getElem? (i := 220) rfl)) rfl, mTBL_of (tb_7 _ (List.mem_of_getElem? (i := 221) rfl)) rfl⟩
theorem o_X12_refuses : mOkV M_X12_refuses 2 := ⟨⟨mTBL_of (tb_7 _ (List.mem_of_getElem? (i := 203) rfl)) rfl, in_X12, ⟨by decide, by decide⟩, by decide +kernel⟩, mTBL_of (tb_7 _ (List.mem_of_getElem? (i := 201) rfl)) rfl, mTBL_of (tb_7 _ (List.mem_of_getElem? (i := 202) rfl)) rfl⟩
theorem o_X12_remembers : mOkV M_X12_remembers 0 := ⟨⟨mTBL_of (tb_7 _ (List.mem_of_getElem? (i := 159) rfl)) rfl, in_X12, ⟨by decide, by decide⟩, by decide +kernel⟩, mTBL_of (tb_7 _ (List.mem_of_getElem? (i := 158) rfl)) rfl, mTBL_of (List.mem_append_left _ (List.mem_of_getElem? (i := 55) rfl)) rfl⟩
theorem o_X12_restoreSnapshot : mOkV M_X12_restoreSnapshot 0 := ⟨⟨mTBL_of (tb_6 _ (List.mem_of_getElem? (i := 228) rfl)) rfl, in_X12, ⟨by decide, by decide⟩, by decide +kernel⟩, mTBL_of (tb_6 _ (List.mem_of_getElem? (i := 226) rfl)) rfl, mTBL_of (tb_6 _ (List.mem_of_getElem? (i := 227) rfl)) rfl⟩
theorem o_X12_roomFault : mOkV M_X12_roomFault 0 := ⟨⟨mTBL_of (tb_7 _ (List.mem_of_getElem? (i := 3) rfl)) rfl, in_X12, ⟨by decide, by decide⟩, by decide +kernel⟩, mTBL_of (tb_7 _ (List.mem_of_getElem? (i := 2) rfl)) rfl, mTBL_of (List.mem_append_left _ (List.mem_of_getElem? (i := 27) rfl)) rfl⟩
theorem o_X12_saveSnapshot : mOkV M_X12_saveSnapshot 0 := ⟨⟨mTBL_of (tb_6 _ (List.mem_of_getElem? (i := 220) rfl)) rfl, in_X12, ⟨by decide, by decide⟩, by decide +kernel⟩, mTBL_of (tb_6 _ (List.mem_of_getElem? (i := 218) rfl)) rfl, mTBL_of (tb_6 _ (List.mem_of_getElem? (i := 219) rfl)) rfl⟩
theorem o_X12_searches : mOkV M_X12_searches 2 := ⟨⟨mTBL_of (tb_7 _ (List.mem_of_getElem? (i := 234) rfl)) rfl, in_X12, ⟨by decide, by decide⟩, by decide +kernel⟩, mTBL_of (tb_7 _ (List.mem_of_getElem? (i := 233) rfl)) rfl, mTBL_of (List.mem_append_left _ (List.mem_of_getElem? (i := 66) rfl)) rfl⟩
theorem o_X12_size : mOkV M_X12_size 0 := ⟨⟨mTBL_of (tb_7 _ (List.mem_of_getElem? (i := 48) rfl)) rfl, in_X12, ⟨by decide, by decide⟩, by decide +kernel⟩, mTBL_of (tb_7 _ (List.mem_of_getElem? (i := 47) rfl)) rfl, mTBL_of (List.mem_append_left _ (List.mem_of_getElem? (i := 34) rfl)) rfl⟩
theorem o_X12_solution : mOkV M_X12_solution 2 := ⟨⟨mTBL_of (tb_8 _ (List.mem_of_getElem? (i := 18) rfl)) rfl, in_X12, ⟨by decide, by decide⟩, by decide +kernel⟩, mTBL_of (tb_8 _ (List.mem_of_getElem? (i := 16) rfl)) rfl, mTBL_of (tb_8 _ (List.mem_of_getElem? (i := 17) rfl)) rfl⟩
theorem o_X12_solve : mOkV M_X12_solve 2 := ⟨⟨mTBL_of (tb_7 _ (List.mem_of_getElem? (i := 230) rfl)) rfl, in_X12, ⟨by decide, by decide⟩, by decide +kernel⟩, mTBL_of (tb_7 _ (List.mem_of_getElem? (i := 228) rfl)) rfl, mTBL_of (tb_7 _ (List.mem_of_getElem? (i := 229) rfl)) rfl⟩
theorem o_X12_step : mOkV M_X12_step 1 := ⟨⟨mTBL_of (tb_7 _ (List.mem_of_getElem? (i := 143) rfl)) rfl, in_X12, ⟨by decide, by decide⟩, by decide +kernel⟩, mTBL_of (tb_7 _ (List.mem_of_getElem? (i := 141) rfl)) rfl, mTBL_of (tb_7 _ (List.mem_of_getElem? (i := 142) rfl)) rfl⟩
theorem o_X12_stepsFault : mOkV M_X12_stepsFault 0 := ⟨⟨mTBL_of (tb_7 _ (List.mem_of_getElem? (i := 211) rfl)) rfl, in_X12, ⟨by decide, by decide⟩, by decide +kernel⟩, mTBL_of (tb_7 _ (List.mem_of_getElem? (i := 210) rfl)) rfl, mTBL_of (List.mem_append_left _ (List.mem_of_getElem? (i := 64) rfl)) rfl⟩
theorem o_X12_stuck : mOkV M_X12_stuck 1 := ⟨⟨mTBL_of (tb_7 _ (List.mem_of_getElem? (i := 123) rfl)) rfl, in_X12, ⟨by decide, by decide⟩, by decide +kernel⟩, mTBL_of (tb_7 _ (List.mem_of_getElem? (i := 121) rfl)) rfl, mTBL_of (tb_7 _ (List.mem_of_getElem? (i := 122) rfl)) rfl⟩
theorem o_X12_stuckFor : mOkV M_X12_stuckFor 0 := ⟨⟨mTBL_of (tb_7 _ (List.mem_of_getElem? (i := 127) rfl)) rfl, in_X12, ⟨by decide, by decide⟩, by decide +kernel⟩, mTBL_of (tb_7 _ (List.mem_of_getElem? (i := 126) rfl)) rfl, mTBL_of (List.mem_append_left _ (List.mem_of_getElem? (i := 49) rfl)) rfl⟩
theorem o_X12_takes : mOkV M_X12_takes 1 := ⟨⟨mTBL_of (tb_8 _ (List.mem_of_getElem? (i := 10) rfl)) rfl, in_X12, ⟨by decide, by decide⟩, by decide +kernel⟩, mTBL_of (tb_8 _ (List.mem_of_getElem? (i := 9) rfl)) rfl, mTBL_of (List.mem_append_left _ (List.mem_of_getElem? (i := 70) rfl)) rfl⟩
theorem o_X12_thrown : mOkV M_X12_thrown 0 := ⟨⟨mTBL_of (tb_6 _ (List.mem_of_getElem? (i := 212) rfl)) rfl, in_X12, ⟨by decide, by decide⟩, by decide +kernel⟩, mTBL_of (tb_6 _ (List.mem_of_getElem? (i := 210) rfl)) rfl, mTBL_of (tb_6 _ (List.mem_of_getElem? (i := 211) rfl)) rfl⟩
theorem o_X12_undo : mOkV M_X12_undo 0 := ⟨⟨mTBL_of (tb_6 _ (List.mem_of_getElem? (i := 216) rfl)) rfl, in_X12, ⟨by decide, by decide⟩, by decide +kernel⟩, mTBL_of (tb_6 _ (List.mem_of_getElem? (i := 214) rfl)) rfl, mTBL_of (tb_6 _ (List.mem_of_getElem? (i := 215) rfl)) rfl⟩
theorem o_X12_visits : mOkV M_X12_visits 3 := ⟨⟨mTBL_of (tb_8 _ (List.mem_of_getElem? (i := 14) rfl)) rfl, in_X12, ⟨by decide, by decide⟩, by decide +kernel⟩, mTBL_of (tb_8 _ (List.mem_of_getElem? (i := 13) rfl)) rfl, mTBL_of (List.mem_append_left _ (List.mem_of_getElem? (i := 71) rfl)) rfl⟩
theorem o_X12_walksAndPushes : mOkV M_X12_walksAndPushes 2 := ⟨⟨mTBL_of (tb_7 _ (List.mem_of_getElem? (i := 187) rfl)) rfl, in_X12, ⟨by decide, by decide⟩, by decide +kernel⟩, mTBL_of (tb_7 _ (List.mem_of_getElem? (i := 186) rfl)) rfl, mTBL_of (List.mem_append_left _ (List.mem_of_getElem? (i := 61) rfl)) rfl⟩
theorem o_X12_walksFrom : mOkV M_X12_walksFrom 1 := ⟨⟨mTBL_of (tb_7 _ (List.mem_of_getElem? (i := 63) rfl)) rfl, in_X12, ⟨by decide, by decide⟩, by decide +kernel⟩, mTBL_of (tb_7 _ (List.mem_of_getElem? (i := 62) rfl)) rfl, mTBL_of (List.mem_append_left _ (List.mem_of_getElem? (i := 37) rfl)) rfl⟩
theorem o_X1_entrances : mOkV M_X1_entrances 1 := ⟨⟨mTBL_of (tb_4 _ (List.mem_of_getElem? (i := 43) rfl)) rfl, in_X1, ⟨by decide, by decide⟩, by decide +kernel⟩, mTBL_of (tb_4 _ (List.mem_of_getElem? (i := 41) rfl)) rfl, mTBL_of (tb_4 _ (List.mem_of_getElem? (i := 42) rfl)) rfl⟩
theorem o_X1_goalAt : mOkV M_X1_goalAt 2 := ⟨⟨mTBL_of (tb_4 _ (List.mem_of_getElem? (i := 156) rfl)) rfl, in_X1, ⟨by decide, by decide⟩, by decide +kernel⟩, mTBL_of (tb_4 _ (List.mem_of_getElem? (i := 154) rfl)) rfl, mTBL_of (tb_4 _ (List.mem_of_getElem? (i := 155) rfl)) rfl⟩
theorem o_X1_goalsOf : mOkV M_X1_goalsOf 1 := ⟨⟨mTBL_of (tb_4 _ (List.mem_of_getElem? (i := 37) rfl)) rfl, in_X1, ⟨by decide, by decide⟩, by decide +kernel⟩, mTBL_of (tb_4 _ (List.mem_of_getElem? (i := 35) rfl)) rfl, mTBL_of (tb_4 _ (List.mem_of_getElem? (i := 36) rfl)) rfl⟩
theorem o_X1_howMany : mOkV M_X1_howMany 0 := ⟨⟨mTBL_of (tb_4 _ (List.mem_of_getElem? (i := 33) rfl)) rfl, in_X1, ⟨by decide, by decide⟩, by decide +kernel⟩, mTBL_of (tb_4 _ (List.mem_of_getElem? (i := 31) rfl)) rfl, mTBL_of (tb_4 _ (List.mem_of_getElem? (i := 32) rfl)) rfl⟩
theorem o_X2_beside : mOkV M_X2_beside 1 := ⟨⟨mTBL_of (tb_3 _ (List.mem_of_getElem? (i := 233) rfl)) rfl, in_X2, ⟨by decide, by decide⟩, by decide +kernel⟩, mTBL_of (tb_3 _ (List.mem_of_getElem? (i := 231) rfl)) rfl, mTBL_of (tb_3 _ (List.mem_of_getElem? (i := 232) rfl)) rfl⟩
theorem o_X2_copy : mOkV M_X2_copy 1 := ⟨⟨mTBL_of (tb_6 _ (List.mem_of_getElem? (i := 85) rfl)) rfl, in_X2, ⟨by decide, by decide⟩, by decide +kernel⟩, mTBL_of (tb_6 _ (List.mem_of_getElem? (i := 83) rfl)) rfl, mTBL_of (tb_6 _ (List.mem_of_getElem? (i := 84) rfl)) rfl⟩
theorem o_X2_frozen : mOkV M_X2_frozen 1 := ⟨⟨mTBL_of (tb_3 _ (List.mem_of_getElem? (i := 237) rfl)) rfl, in_X2, ⟨by decide, by decide⟩, by decide +kernel⟩, mTBL_of (tb_3 _ (List.mem_of_getElem? (i := 235) rfl)) rfl, mTBL_of (tb_3 _ (List.mem_of_getElem? (i := 236) rfl)) rfl⟩
theorem o_X2_groups : mOkV M_X2_groups 1 := ⟨⟨mTBL_of (tb_4 _ (List.mem_of_getElem? (i := 28) rfl)) rfl, in_X2, ⟨by decide, by decide⟩, by decide +kernel⟩, mTBL_of (tb_4 _ (List.mem_of_getElem? (i := 26) rfl)) rfl, mTBL_of (tb_4 _ (List.mem_of_getElem? (i := 27) rfl)) rfl⟩
theorem o_X2_hasPlace : mOkV M_X2_hasPlace 2 := ⟨⟨mTBL_of (tb_3 _ (List.mem_of_getElem? (i := 184) rfl)) rfl, in_X2, ⟨by decide, by decide⟩, by decide +kernel⟩, mTBL_of (tb_3 _ (List.mem_of_getElem? (i := 182) rfl)) rfl, mTBL_of (tb_3 _ (List.mem_of_getElem? (i := 183) rfl)) rfl⟩
theorem o_X2_isLaid : mOkV M_X2_isLaid 0 := ⟨⟨mTBL_of (tb_3 _ (List.mem_of_getElem? (i := 179) rfl)) rfl, in_X2, ⟨by decide, by decide⟩, by decide +kernel⟩, mTBL_of (tb_3 _ (List.mem_of_getElem? (i := 177) rfl)) rfl, mTBL_of (tb_3 _ (List.mem_of_getElem? (i := 178) rfl)) rfl⟩
theorem o_X2_lay : mOkV M_X2_lay 1 := ⟨⟨mTBL_of (tb_3 _ (List.mem_of_getElem? (i := 132) rfl)) rfl, in_X2, ⟨by decide, by decide⟩, by decide +kernel⟩, mTBL_of (tb_3 _ (List.mem_of_getElem? (i := 130) rfl)) rfl, mTBL_of (tb_3 _ (List.mem_of_getElem? (i := 131) rfl)) rfl⟩
theorem o_X2_leastPushes : mOkV M_X2_leastPushes 2 := ⟨⟨mTBL_of (tb_4 _ (List.mem_of_getElem? (i := 65) rfl)) rfl, in_X2, ⟨by decide, by decide⟩, by decide +kernel⟩, mTBL_of (tb_4 _ (List.mem_of_getElem? (i := 63) rfl)) rfl, mTBL_of (tb_4 _ (List.mem_of_getElem? (i := 64) rfl)) rfl⟩
theorem o_X2_lonePushed : mOkV M_X2_lonePushed 1 := ⟨⟨mTBL_of (tb_4 _ (List.mem_of_getElem? (i := 69) rfl)) rfl, in_X2, ⟨by decide, by decide⟩, by decide +kernel⟩, mTBL_of (tb_4 _ (List.mem_of_getElem? (i := 67) rfl)) rfl, mTBL_of (tb_4 _ (List.mem_of_getElem? (i := 68) rfl)) rfl⟩
theorem o_X2_moved : mOkV M_X2_moved 2 := ⟨⟨mTBL_of (tb_3 _ (List.mem_of_getElem? (i := 144) rfl)) rfl, in_X2, ⟨by decide, by decide⟩, by decide +kernel⟩, mTBL_of (tb_3 _ (List.mem_of_getElem? (i := 142) rfl)) rfl, mTBL_of (tb_3 _ (List.mem_of_getElem? (i := 143) rfl)) rfl⟩
theorem o_X2_pulled : mOkV M_X2_pulled 1 := ⟨⟨mTBL_of (tb_3 _ (List.mem_of_getElem? (i := 137) rfl)) rfl, in_X2, ⟨by decide, by decide⟩, by decide +kernel⟩, mTBL_of (tb_3 _ (List.mem_of_getElem? (i := 136) rfl)) rfl, mTBL_of (List.mem_append_left _ (List.mem_of_getElem? (i := 4) rfl)) rfl⟩
theorem o_X2_spread : mOkV M_X2_spread 2 := ⟨⟨mTBL_of (tb_3 _ (List.mem_of_getElem? (i := 229) rfl)) rfl, in_X2, ⟨by decide, by decide⟩, by decide +kernel⟩, mTBL_of (tb_3 _ (List.mem_of_getElem? (i := 227) rfl)) rfl, mTBL_of (tb_3 _ (List.mem_of_getElem? (i := 228) rfl)) rfl⟩
theorem o_X2_stuckDetail : mOkV M_X2_stuckDetail 2 := ⟨⟨mTBL_of (tb_4 _ (List.mem_of_getElem? (i := 138) rfl)) rfl, in_X2, ⟨by decide, by decide⟩, by decide +kernel⟩, mTBL_of (tb_4 _ (List.mem_of_getElem? (i := 136) rfl)) rfl, mTBL_of (tb_4 _ (List.mem_of_getElem? (i := 137) rfl)) rfl⟩
theorem o_X2_stuckReason : mOkV M_X2_stuckReason 1 := ⟨⟨mTBL_of (tb_4 _ (List.mem_of_getElem? (i := 132) rfl)) rfl, in_X2, ⟨by decide, by decide⟩, by decide +kernel⟩, mTBL_of (tb_4 _ (List.mem_of_getElem? (i := 130) rfl)) rfl, mTBL_of (tb_4 _ (List.mem_of_getElem? (i := 131) rfl)) rfl⟩
theorem o_X2_tunnelsAlong : mOkV M_X2_tunnelsAlong 1 := ⟨⟨mTBL_of (tb_5 _ (List.mem_of_getElem? (i := 94) rfl)) rfl, in_X2, ⟨by decide, by decide⟩, by decide +kernel⟩, mTBL_of (tb_5 _ (List.mem_of_getElem? (i := 92) rfl)) rfl, mTBL_of (tb_5 _ (List.mem_of_getElem? (i := 93) rfl)) rfl⟩
theorem o_X2_tunnelsInColumn : mOkV M_X2_tunnelsInColumn 0 := ⟨⟨mTBL_of (tb_4 _ (List.mem_of_getElem? (i := 5) rfl)) rfl, in_X2, ⟨by decide, by decide⟩, by decide +kernel⟩, mTBL_of (tb_4 _ (List.mem_of_getElem? (i := 3) rfl)) rfl, mTBL_of (tb_4 _ (List.mem_of_getElem? (i := 4) rfl)) rfl⟩
theorem o_X2_tunnelsInRow : mOkV M_X2_tunnelsInRow 0 := ⟨⟨mTBL_of (tb_4 _ (List.mem_of_getElem? (i := 1) rfl)) rfl, in_X2, ⟨by decide, by decide⟩, by decide +kernel⟩, mTBL_of (tb_3 _ (List.mem_of_getElem? (i := 239) rfl)) rfl, mTBL_of (tb_4 _ (List.mem_of_getElem? (i := 0) rfl)) rfl⟩
theorem o_X3_begin : mOkV M_X3_begin 1 := ⟨⟨mTBL_of (tb_4 _ (List.mem_of_getElem? (i := 228) rfl)) rfl, in_X3, ⟨by decide, by decide⟩, by decide +kernel⟩, mTBL_of (tb_4 _ (List.mem_of_getElem? (i := 226) rfl)) rfl, mTBL_of (tb_4 _ (List.mem_of_getElem? (i := 227) rfl)) rfl⟩
theorem o_X3_clear : mOkV M_X3_clear 0 := ⟨⟨mTBL_of (tb_3 _ (List.mem_of_getElem? (i := 157) rfl)) rfl, in_X3, ⟨by decide, by decide⟩, by decide +kernel⟩, mTBL_of (tb_3 _ (List.mem_of_getElem? (i := 155) rfl)) rfl, mTBL_of (tb_3 _ (List.mem_of_getElem? (i := 156) rfl)) rfl⟩
theorem o_X3_commit : mOkV M_X3_commit 0 := ⟨⟨mTBL_of (tb_5 _ (List.mem_of_getElem? (i := 6) rfl)) rfl, in_X3, ⟨by decide, by decide⟩, by decide +kernel⟩, mTBL_of (tb_5 _ (List.mem_of_getElem? (i := 4) rfl)) rfl, mTBL_of (tb_5 _ (List.mem_of_getElem? (i := 5) rfl)) rfl⟩
theorem o_X3_forgetOldest : mOkV M_X3_forgetOldest 0 := ⟨⟨mTBL_of (tb_5 _ (List.mem_of_getElem? (i := 10) rfl)) rfl, in_X3, ⟨by decide, by decide⟩, by decide +kernel⟩, mTBL_of (tb_5 _ (List.mem_of_getElem? (i := 9) rfl)) rfl, mTBL_of (List.mem_append_left _ (List.mem_of_getElem? (i := 13) rfl)) rfl⟩
theorem o_X3_goBack : mOkV M_X3_goBack 1 := ⟨⟨mTBL_of (tb_6 _ (List.mem_of_getElem? (i := 69) rfl)) rfl, in_X3, ⟨by decide, by decide⟩, by decide +kernel⟩, mTBL_of (tb_6 _ (List.mem_of_getElem? (i := 67) rfl)) rfl, mTBL_of (tb_6 _ (List.mem_of_getElem? (i := 68) rfl)) rfl⟩
theorem o_X3_rollBack : mOkV M_X3_rollBack 1 := ⟨⟨mTBL_of (tb_5 _ (List.mem_of_getElem? (i := 76) rfl)) rfl, in_X3, ⟨by decide, by decide⟩, by decide +kernel⟩, mTBL_of (tb_5 _ (List.mem_of_getElem? (i := 74) rfl)) rfl, mTBL_of (tb_5 _ (List.mem_of_getElem? (i := 75) rfl)) rfl⟩
theorem o_X4_at : mOkV M_X4_at 1 := ⟨⟨mTBL_of (tb_4 _ (List.mem_of_getElem? (i := 169) rfl)) rfl, in_X4, ⟨by decide, by decide⟩, by decide +kernel⟩, mTBL_of (tb_4 _ (List.mem_of_getElem? (i := 167) rfl)) rfl, mTBL_of (tb_4 _ (List.mem_of_getElem? (i := 168) rfl)) rfl⟩
theorem o_X4_find : mOkV M_X4_find 1 := ⟨⟨mTBL_of (tb_5 _ (List.mem_of_getElem? (i := 58) rfl)) rfl, in_X4, ⟨by decide, by decide⟩, by decide +kernel⟩, mTBL_of (tb_5 _ (List.mem_of_getElem? (i := 56) rfl)) rfl, mTBL_of (tb_5 _ (List.mem_of_getElem? (i := 57) rfl)) rfl⟩
theorem o_X4_lay : mOkV M_X4_lay 3 := ⟨⟨mTBL_of (tb_4 _ (List.mem_of_getElem? (i := 160) rfl)) rfl, in_X4, ⟨by decide, by decide⟩, by decide +kernel⟩, mTBL_of (tb_4 _ (List.mem_of_getElem? (i := 158) rfl)) rfl, mTBL_of (tb_4 _ (List.mem_of_getElem? (i := 159) rfl)) rfl⟩
theorem o_X5_leastSum : mOkV M_X5_leastSum 1 := ⟨⟨mTBL_of (tb_4 _ (List.mem_of_getElem? (i := 96) rfl)) rfl, in_X5, ⟨by decide, by decide⟩, by decide +kernel⟩, mTBL_of (tb_4 _ (List.mem_of_getElem? (i := 94) rfl)) rfl, mTBL_of (tb_4 _ (List.mem_of_getElem? (i := 95) rfl)) rfl⟩
theorem o_X5_measure : mOkV M_X5_measure 1 := ⟨⟨mTBL_of (tb_4 _ (List.mem_of_getElem? (i := 100) rfl)) rfl, in_X5, ⟨by decide, by decide⟩, by decide +kernel⟩, mTBL_of (tb_4 _ (List.mem_of_getElem? (i := 99) rfl)) rfl, mTBL_of (List.mem_append_left _ (List.mem_of_getElem? (i := 6) rfl)) rfl⟩
theorem o_X5_measureFrom : mOkV M_X5_measureFrom 2 := ⟨⟨mTBL_of (tb_4 _ (List.mem_of_getElem? (i := 105) rfl)) rfl, in_X5, ⟨by decide, by decide⟩, by decide +kernel⟩, mTBL_of (tb_4 _ (List.mem_of_getElem? (i := 104) rfl)) rfl, mTBL_of (List.mem_append_left _ (List.mem_of_getElem? (i := 7) rfl)) rfl⟩
theorem o_X5_offer : mOkV M_X5_offer 2 := ⟨⟨mTBL_of (tb_4 _ (List.mem_of_getElem? (i := 115) rfl)) rfl, in_X5, ⟨by decide, by decide⟩, by decide +kernel⟩, mTBL_of (tb_4 _ (List.mem_of_getElem? (i := 114) rfl)) rfl, mTBL_of (List.mem_append_left _ (List.mem_of_getElem? (i := 8) rfl)) rfl⟩
theorem o_X5_offerTo : mOkV M_X5_offerTo 3 := ⟨⟨mTBL_of (tb_4 _ (List.mem_of_getElem? (i := 120) rfl)) rfl, in_X5, ⟨by decide, by decide⟩, by decide +kernel⟩, mTBL_of (tb_4 _ (List.mem_of_getElem? (i := 119) rfl)) rfl, mTBL_of (List.mem_append_left _ (List.mem_of_getElem? (i := 9) rfl)) rfl⟩
theorem o_X6_ahead : mOkV M_X6_ahead 1 := ⟨⟨mTBL_of (tb_4 _ (List.mem_of_getElem? (i := 194) rfl)) rfl, in_X6, ⟨by decide, by decide⟩, by decide +kernel⟩, mTBL_of (tb_4 _ (List.mem_of_getElem? (i := 193) rfl)) rfl, mTBL_of (List.mem_append_left _ (List.mem_of_getElem? (i := 10) rfl)) rfl⟩
theorem o_X6_area : mOkV M_X6_area 0 := ⟨⟨mTBL_of (tb_3 _ (List.mem_of_getElem? (i := 219) rfl)) rfl, in_X6, ⟨by decide, by decide⟩, by decide +kernel⟩, mTBL_of (tb_3 _ (List.mem_of_getElem? (i := 217) rfl)) rfl, mTBL_of (tb_3 _ (List.mem_of_getElem? (i := 218) rfl)) rfl⟩
theorem o_X6_behind : mOkV M_X6_behind 2 := ⟨⟨mTBL_of (tb_5 _ (List.mem_of_getElem? (i := 36) rfl)) rfl, in_X6, ⟨by decide, by decide⟩, by decide +kernel⟩, mTBL_of (tb_5 _ (List.mem_of_getElem? (i := 34) rfl)) rfl, mTBL_of (tb_5 _ (List.mem_of_getElem? (i := 35) rfl)) rfl⟩
theorem o_X6_boxReason : mOkV M_X6_boxReason 2 := ⟨⟨mTBL_of (tb_4 _ (List.mem_of_getElem? (i := 199) rfl)) rfl, in_X6, ⟨by decide, by decide⟩, by decide +kernel⟩, mTBL_of (tb_4 _ (List.mem_of_getElem? (i := 198) rfl)) rfl, mTBL_of (List.mem_append_left _ (List.mem_of_getElem? (i := 11) rfl)) rfl⟩
theorem o_X6_free : mOkV M_X6_free 0 := ⟨⟨mTBL_of (tb_3 _ (List.mem_of_getElem? (i := 224) rfl)) rfl, in_X6, ⟨by decide, by decide⟩, by decide +kernel⟩, mTBL_of (tb_3 _ (List.mem_of_getElem? (i := 222) rfl)) rfl, mTBL_of (tb_3 _ (List.mem_of_getElem? (i := 223) rfl)) rfl⟩
theorem o_X6_isLike : mOkV M_X6_isLike 1 := ⟨⟨mTBL_of (tb_6 _ (List.mem_of_getElem? (i := 57) rfl)) rfl, in_X6, ⟨by decide, by decide⟩, by decide +kernel⟩, mTBL_of (tb_6 _ (List.mem_of_getElem? (i := 55) rfl)) rfl, mTBL_of (tb_6 _ (List.mem_of_getElem? (i := 56) rfl)) rfl⟩
theorem o_X6_isSolved : mOkV M_X6_isSolved 0 := ⟨⟨mTBL_of (tb_4 _ (List.mem_of_getElem? (i := 49) rfl)) rfl, in_X6, ⟨by decide, by decide⟩, by decide +kernel⟩, mTBL_of (tb_4 _ (List.mem_of_getElem? (i := 47) rfl)) rfl, mTBL_of (tb_4 _ (List.mem_of_getElem? (i := 48) rfl)) rfl⟩
theorem o_X6_letterReason : mOkV M_X6_letterReason 2 := ⟨⟨mTBL_of (tb_5 _ (List.mem_of_getElem? (i := 134) rfl)) rfl, in_X6, ⟨by decide, by decide⟩, by decide +kernel⟩, mTBL_of (tb_5 _ (List.mem_of_getElem? (i := 132) rfl)) rfl, mTBL_of (tb_5 _ (List.mem_of_getElem? (i := 133) rfl)) rfl⟩
theorem o_X6_move : mOkV M_X6_move 1 := ⟨⟨mTBL_of (tb_4 _ (List.mem_of_getElem? (i := 238) rfl)) rfl, in_X6, ⟨by decide, by decide⟩, by decide +kernel⟩, mTBL_of (tb_4 _ (List.mem_of_getElem? (i := 236) rfl)) rfl, mTBL_of (tb_4 _ (List.mem_of_getElem? (i := 237) rfl)) rfl⟩
theorem o_X6_pushDetail : mOkV M_X6_pushDetail 3 := ⟨⟨mTBL_of (tb_5 _ (List.mem_of_getElem? (i := 42) rfl)) rfl, in_X6, ⟨by decide, by decide⟩, by decide +kernel⟩, mTBL_of (tb_5 _ (List.mem_of_getElem? (i := 40) rfl)) rfl, mTBL_of (tb_5 _ (List.mem_of_getElem? (i := 41) rfl)) rfl⟩
theorem o_X6_pushReason : mOkV M_X6_pushReason 2 := ⟨⟨mTBL_of (tb_5 _ (List.mem_of_getElem? (i := 32) rfl)) rfl, in_X6, ⟨by decide, by decide⟩, by decide +kernel⟩, mTBL_of (tb_5 _ (List.mem_of_getElem? (i := 30) rfl)) rfl, mTBL_of (tb_5 _ (List.mem_of_getElem? (i := 31) rfl)) rfl⟩
theorem o_X6_put : mOkV M_X6_put 2 := ⟨⟨mTBL_of (tb_3 _ (List.mem_of_getElem? (i := 149) rfl)) rfl, in_X6, ⟨by decide, by decide⟩, by decide +kernel⟩, mTBL_of (tb_3 _ (List.mem_of_getElem? (i := 147) rfl)) rfl, mTBL_of (tb_3 _ (List.mem_of_getElem? (i := 148) rfl)) rfl⟩
theorem o_X6_stepDetail : mOkV M_X6_stepDetail 2 := ⟨⟨mTBL_of (tb_4 _ (List.mem_of_getElem? (i := 203) rfl)) rfl, in_X6, ⟨by decide, by decide⟩, by decide +kernel⟩, mTBL_of (tb_4 _ (List.mem_of_getElem? (i := 201) rfl)) rfl, mTBL_of (tb_4 _ (List.mem_of_getElem? (i := 202) rfl)) rfl⟩
theorem o_X6_stepReason : mOkV M_X6_stepReason 1 := ⟨⟨mTBL_of (tb_4 _ (List.mem_of_getElem? (i := 190) rfl)) rfl, in_X6, ⟨by decide, by decide⟩, by decide +kernel⟩, mTBL_of (tb_4 _ (List.mem_of_getElem? (i := 188) rfl)) rfl, mTBL_of (tb_4 _ (List.mem_of_getElem? (i := 189) rfl)) rfl⟩
theorem o_X7_addCell : mOkV M_X7_addCell 1 := ⟨⟨mTBL_of (tb_3 _ (List.mem_of_getElem? (i := 11) rfl)) rfl, in_X7, ⟨by decide, by decide⟩, by decide +kernel⟩, mTBL_of (tb_3 _ (List.mem_of_getElem? (i := 10) rfl)) rfl, mTBL_of (List.mem_append_left _ (List.mem_of_getElem? (i := 3) rfl)) rfl⟩
theorem o_X7_clear : mOkV M_X7_clear 0 := ⟨⟨mTBL_of (tb_1 _ (List.mem_of_getElem? (i := 62) rfl)) rfl, in_X7, ⟨by decide, by decide⟩, by decide +kernel⟩, mTBL_of (tb_1 _ (List.mem_of_getElem? (i := 61) rfl)) rfl, mTBL_of (List.mem_append_left _ (List.mem_of_getElem? (i := 0) rfl)) rfl⟩
theorem o_X7_endRow : mOkV M_X7_endRow 0 := ⟨⟨mTBL_of (tb_3 _ (List.mem_of_getElem? (i := 7) rfl)) rfl, in_X7, ⟨by decide, by decide⟩, by decide +kernel⟩, mTBL_of (tb_3 _ (List.mem_of_getElem? (i := 6) rfl)) rfl, mTBL_of (List.mem_append_left _ (List.mem_of_getElem? (i := 2) rfl)) rfl⟩
theorem o_X7_isRoom : mOkV M_X7_isRoom 0 := ⟨⟨mTBL_of (tb_3 _ (List.mem_of_getElem? (i := 105) rfl)) rfl, in_X7, ⟨by decide, by decide⟩, by decide +kernel⟩, mTBL_of (tb_3 _ (List.mem_of_getElem? (i := 103) rfl)) rfl, mTBL_of (tb_3 _ (List.mem_of_getElem? (i := 104) rfl)) rfl⟩
theorem o_X7_isSide : mOkS M_X7_isSide 1 := ⟨⟨mTBL_of (tb_3 _ (List.mem_of_getElem? (i := 108) rfl)) rfl, in_X7, ⟨by decide, by decide⟩, by decide +kernel⟩, mTBL_of (tb_3 _ (List.mem_of_getElem? (i := 107) rfl)) rfl⟩
theorem o_X7_read : mOkV M_X7_read 2 := ⟨⟨mTBL_of (tb_2 _ (List.mem_of_getElem? (i := 239) rfl)) rfl, in_X7, ⟨by decide, by decide⟩, by decide +kernel⟩, mTBL_of (tb_2 _ (List.mem_of_getElem? (i := 237) rfl)) rfl, mTBL_of (tb_2 _ (List.mem_of_getElem? (i := 238) rfl)) rfl⟩
theorem o_X8_add : mOkV M_X8_add 4 := ⟨⟨mTBL_of (tb_5 _ (List.mem_of_getElem? (i := 182) rfl)) rfl, in_X8, ⟨by decide, by decide⟩, by decide +kernel⟩, mTBL_of (tb_5 _ (List.mem_of_getElem? (i := 181) rfl)) rfl, mTBL_of (List.mem_append_left _ (List.mem_of_getElem? (i := 22) rfl)) rfl⟩
theorem o_X8_lookAt : mOkV M_X8_lookAt 4 := ⟨⟨mTBL_of (tb_5 _ (List.mem_of_getElem? (i := 202) rfl)) rfl, in_X8, ⟨by decide, by decide⟩, by decide +kernel⟩, mTBL_of (tb_5 _ (List.mem_of_getElem? (i := 201) rfl)) rfl, mTBL_of (List.mem_append_left _ (List.mem_of_getElem? (i := 25) rfl)) rfl⟩
theorem o_X8_parentOf : mOkV M_X8_parentOf 1 := ⟨⟨mTBL_of (tb_5 _ (List.mem_of_getElem? (i := 218) rfl)) rfl, in_X8, ⟨by decide, by decide⟩, by decide +kernel⟩, mTBL_of (tb_5 _ (List.mem_of_getElem? (i := 216) rfl)) rfl, mTBL_of (tb_5 _ (List.mem_of_getElem? (i := 217) rfl)) rfl⟩
theorem o_X8_pushTo : mOkV M_X8_pushTo 1 := ⟨⟨mTBL_of (tb_5 _ (List.mem_of_getElem? (i := 222) rfl)) rfl, in_X8, ⟨by decide, by decide⟩, by decide +kernel⟩, mTBL_of (tb_5 _ (List.mem_of_getElem? (i := 220) rfl)) rfl, mTBL_of (tb_5 _ (List.mem_of_getElem? (i := 221) rfl)) rfl⟩
theorem o_X8_run : mOkV M_X8_run 3 := ⟨⟨mTBL_of (tb_5 _ (List.mem_of_getElem? (i := 175) rfl)) rfl, in_X8, ⟨by decide, by decide⟩, by decide +kernel⟩, mTBL_of (tb_5 _ (List.mem_of_getElem? (i := 173) rfl)) rfl, mTBL_of (tb_5 _ (List.mem_of_getElem? (i := 174) rfl)) rfl⟩
theorem o_X8_slotFor : mOkV M_X8_slotFor 2 := ⟨⟨mTBL_of (tb_5 _ (List.mem_of_getElem? (i := 186) rfl)) rfl, in_X8, ⟨by decide, by decide⟩, by decide +kernel⟩, mTBL_of (tb_5 _ (List.mem_of_getElem? (i := 185) rfl)) rfl, mTBL_of (List.mem_append_left _ (List.mem_of_getElem? (i := 23) rfl)) rfl⟩
theorem o_X8_visit : mOkV M_X8_visit 1 := ⟨⟨mTBL_of (tb_5 _ (List.mem_of_getElem? (i := 194) rfl)) rfl, in_X8, ⟨by decide, by decide⟩, by decide +kernel⟩, mTBL_of (tb_5 _ (List.mem_of_getElem? (i := 193) rfl)) rfl, mTBL_of (List.mem_append_left _ (List.mem_of_getElem? (i := 24) rfl)) rfl⟩
theorem o_X9_cellAt : mOkV M_X9_cellAt 1 := ⟨⟨mTBL_of (tb_6 _ (List.mem_of_getElem? (i := 0) rfl)) rfl, in_X9, ⟨by decide, by decide⟩, by decide +kernel⟩, mTBL_of (tb_5 _ (List.mem_of_getElem? (i := 238) rfl)) rfl, mTBL_of (tb_5 _ (List.mem_of_getElem? (i := 239) rfl)) rfl⟩
theorem o_X9_depthOf : mOkS M_X9_depthOf 1 := ⟨⟨mTBL_of (tb_5 _ (List.mem_of_getElem? (i := 214) rfl)) rfl, in_X9, ⟨by decide, by decide⟩, by decide +kernel⟩, mTBL_of (tb_5 _ (List.mem_of_getElem? (i := 213) rfl)) rfl⟩
theorem o_X9_directionAt : mOkV M_X9_directionAt 1 := ⟨⟨mTBL_of (tb_5 _ (List.mem_of_getElem? (i := 235) rfl)) rfl, in_X9, ⟨by decide, by decide⟩, by decide +kernel⟩, mTBL_of (tb_5 _ (List.mem_of_getElem? (i := 233) rfl)) rfl, mTBL_of (tb_5 _ (List.mem_of_getElem? (i := 234) rfl)) rfl⟩
theorem o_X9_keep : mOkV M_X9_keep 1 := ⟨⟨mTBL_of (tb_5 _ (List.mem_of_getElem? (i := 211) rfl)) rfl, in_X9, ⟨by decide, by decide⟩, by decide +kernel⟩, mTBL_of (tb_5 _ (List.mem_of_getElem? (i := 209) rfl)) rfl, mTBL_of (tb_5 _ (List.mem_of_getElem? (i := 210) rfl)) rfl⟩
theorem l_X11_99 : Cond.methodLink RX11 99 yX10_add ∈ mTBL := mTBL_of (tb_2 _ (List.mem_of_getElem? (i := 220) rfl)) rfl
theorem l_X11_103 : Cond.methodLink RX11 103 yX10_take ∈ mTBL := mTBL_of (tb_2 _ (List.mem_of_getElem? (i := 232) rfl)) rfl
theorem l_X11_107 : Cond.methodLink RX11 107 yX7_read ∈ mTBL := mTBL_of (tb_2 _ (List.mem_of_getElem? (i := 236) rfl)) rfl
theorem l_X11_111 : Cond.methodLink RX11 111 yX7_isRoom ∈ mTBL := mTBL_of (tb_3 _ (List.mem_of_getElem? (i := 102) rfl)) rfl
theorem l_X11_120 : Cond.methodLink RX11 120 yX0_begin ∈ mTBL := mTBL_of (tb_3 _ (List.mem_of_getElem? (i := 125) rfl)) rfl
theorem l_X11_124 : Cond.methodLink RX11 124 yX3_clear ∈ mTBL := mTBL_of (tb_3 _ (List.mem_of_getElem? (i := 154) rfl)) rfl
theorem l_X11_133 : Cond.methodLink RX11 133 yJ13_bitCount_95d88 ∈ mTBL := mTBL_of (tb_3 _ (List.mem_of_getElem? (i := 158) rfl)) rfl
theorem l_X11_139 : Cond.methodLink RX11 139 yX11_requireRoom ∈ mTBL := mTBL_of (tb_3 _ (List.mem_of_getElem? (i := 172) rfl)) rfl
theorem l_X11_142 : Cond.methodLink RX11 142 yX2_hasPlace ∈ mTBL := mTBL_of (tb_3 _ (List.mem_of_getElem? (i := 181) rfl)) rfl
theorem l_X11_154 : Cond.methodLink RX11 154 yX0_signOf ∈ mTBL := mTBL_of (tb_3 _ (List.mem_of_getElem? (i := 201) rfl)) rfl
theorem l_X11_170 : Cond.methodLink RX11 170 yX6_area ∈ mTBL := mTBL_of (tb_3 _ (List.mem_of_getElem? (i := 216) rfl)) rfl
theorem l_X11_177 : Cond.methodLink RX11 177 yX2_frozen ∈ mTBL := mTBL_of (tb_3 _ (List.mem_of_getElem? (i := 234) rfl)) rfl
theorem l_X11_181 : Cond.methodLink RX11 181 yX2_tunnelsInRow ∈ mTBL := mTBL_of (tb_3 _ (List.mem_of_getElem? (i := 238) rfl)) rfl
theorem l_X11_184 : Cond.methodLink RX11 184 yX2_tunnelsInColumn ∈ mTBL := mTBL_of (tb_4 _ (List.mem_of_getElem? (i := 2) rfl)) rfl
theorem l_X11_198 : Cond.methodLink RX11 198 yX0_pushes ∈ mTBL := mTBL_of (tb_4 _ (List.mem_of_getElem? (i := 14) rfl)) rfl
theorem l_X11_204 : Cond.methodLink RX11 204 yX6_free ∈ mTBL := mTBL_of (tb_4 _ (List.mem_of_getElem? (i := 24) rfl)) rfl
theorem l_X11_207 : Cond.methodLink RX11 207 yX2_groups ∈ mTBL := mTBL_of (tb_4 _ (List.mem_of_getElem? (i := 25) rfl)) rfl
theorem l_X11_210 : Cond.methodLink RX11 210 yX1_howMany ∈ mTBL := mTBL_of (tb_4 _ (List.mem_of_getElem? (i := 30) rfl)) rfl
theorem l_X11_213 : Cond.methodLink RX11 213 yX2_isLaid ∈ mTBL := mTBL_of (tb_3 _ (List.mem_of_getElem? (i := 176) rfl)) rfl
theorem l_X11_216 : Cond.methodLink RX11 216 yX6_isSolved ∈ mTBL := mTBL_of (tb_4 _ (List.mem_of_getElem? (i := 46) rfl)) rfl
theorem l_X11_221 : Cond.methodLink RX11 221 yX11_has ∈ mTBL := mTBL_of (tb_4 _ (List.mem_of_getElem? (i := 59) rfl)) rfl
theorem l_X11_229 : Cond.methodLink RX11 229 yX11_bit ∈ mTBL := mTBL_of (tb_3 _ (List.mem_of_getElem? (i := 208) rfl)) rfl
theorem l_X11_233 : Cond.methodLink RX11 233 yX2_leastPushes ∈ mTBL := mTBL_of (tb_4 _ (List.mem_of_getElem? (i := 62) rfl)) rfl
theorem l_X11_242 : Cond.methodLink RX11 242 yX5_leastSum ∈ mTBL := mTBL_of (tb_4 _ (List.mem_of_getElem? (i := 93) rfl)) rfl
theorem l_X11_247 : Cond.methodLink RX11 247 yX2_stuckReason ∈ mTBL := mTBL_of (tb_4 _ (List.mem_of_getElem? (i := 129) rfl)) rfl
theorem l_X11_252 : Cond.methodLink RX11 252 yX2_stuckDetail ∈ mTBL := mTBL_of (tb_4 _ (List.mem_of_getElem? (i := 135) rfl)) rfl
theorem l_X11_256 : Cond.methodLink RX11 256 yX1_goalsOf ∈ mTBL := mTBL_of (tb_4 _ (List.mem_of_getElem? (i := 149) rfl)) rfl
theorem l_X11_261 : Cond.methodLink RX11 261 yX1_entrances ∈ mTBL := mTBL_of (tb_4 _ (List.mem_of_getElem? (i := 151) rfl)) rfl
theorem l_X11_264 : Cond.methodLink RX11 264 yX11_lowest ∈ mTBL := mTBL_of (tb_4 _ (List.mem_of_getElem? (i := 152) rfl)) rfl
theorem l_X11_267 : Cond.methodLink RX11 267 yX1_goalAt ∈ mTBL := mTBL_of (tb_4 _ (List.mem_of_getElem? (i := 153) rfl)) rfl
theorem l_X11_270 : Cond.methodLink RX11 270 yX11_requireDirection ∈ mTBL := mTBL_of (tb_4 _ (List.mem_of_getElem? (i := 182) rfl)) rfl
theorem l_X11_276 : Cond.methodLink RX11 276 yX6_stepReason ∈ mTBL := mTBL_of (tb_4 _ (List.mem_of_getElem? (i := 187) rfl)) rfl
theorem l_X11_280 : Cond.methodLink RX11 280 yX6_stepDetail ∈ mTBL := mTBL_of (tb_4 _ (List.mem_of_getElem? (i := 200) rfl)) rfl
theorem l_X11_284 : Cond.methodLink RX11 284 yX11_keepRefusal ∈ mTBL := mTBL_of (tb_4 _ (List.mem_of_getElem? (i := 205) rfl)) rfl
theorem l_X11_293 : Cond.methodLink RX11 293 yX3_begin ∈ mTBL := mTBL_of (tb_4 _ (List.mem_of_getElem? (i := 225) rfl)) rfl
theorem l_X11_296 : Cond.methodLink RX11 296 yX0_makeStep ∈ mTBL := mTBL_of (tb_4 _ (List.mem_of_getElem? (i := 231) rfl)) rfl
theorem l_X11_300 : Cond.methodLink RX11 300 yX3_commit ∈ mTBL := mTBL_of (tb_5 _ (List.mem_of_getElem? (i := 3) rfl)) rfl
theorem l_X11_303 : Cond.methodLink RX11 303 yX11_requirePush ∈ mTBL := mTBL_of (tb_5 _ (List.mem_of_getElem? (i := 20) rfl)) rfl
theorem l_X11_306 : Cond.methodLink RX11 306 yX0_pushBox ∈ mTBL := mTBL_of (tb_5 _ (List.mem_of_getElem? (i := 44) rfl)) rfl
theorem l_X11_309 : Cond.methodLink RX11 309 yX11_commitOrThrow ∈ mTBL := mTBL_of (tb_5 _ (List.mem_of_getElem? (i := 69) rfl)) rfl
theorem l_X11_312 : Cond.methodLink RX11 312 yX0_pushBoxOn ∈ mTBL := mTBL_of (tb_5 _ (List.mem_of_getElem? (i := 86) rfl)) rfl
theorem l_X11_315 : Cond.methodLink RX11 315 yX10_faultAsSteps ∈ mTBL := mTBL_of (tb_5 _ (List.mem_of_getElem? (i := 105) rfl)) rfl
theorem l_X11_318 : Cond.methodLink RX11 318 yX11_playElements ∈ mTBL := mTBL_of (tb_5 _ (List.mem_of_getElem? (i := 115) rfl)) rfl
theorem l_X11_321 : Cond.methodLink RX11 321 yX3_rollBack ∈ mTBL := mTBL_of (tb_5 _ (List.mem_of_getElem? (i := 73) rfl)) rfl
theorem l_X11_330 : Cond.methodLink RX11 330 yX11_requireBox ∈ mTBL := mTBL_of (tb_5 _ (List.mem_of_getElem? (i := 24) rfl)) rfl
theorem l_X11_333 : Cond.methodLink RX11 333 yX6_pushReason ∈ mTBL := mTBL_of (tb_5 _ (List.mem_of_getElem? (i := 29) rfl)) rfl
theorem l_X11_336 : Cond.methodLink RX11 336 yX11_searchAndKeep ∈ mTBL := mTBL_of (tb_5 _ (List.mem_of_getElem? (i := 167) rfl)) rfl
theorem l_X11_347 : Cond.methodLink RX11 347 yX9_directionAt ∈ mTBL := mTBL_of (tb_5 _ (List.mem_of_getElem? (i := 232) rfl)) rfl
theorem l_X11_350 : Cond.methodLink RX11 350 yX9_cellAt ∈ mTBL := mTBL_of (tb_5 _ (List.mem_of_getElem? (i := 237) rfl)) rfl
theorem l_X11_359 : Cond.methodLink RX11 359 yX11_intAt ∈ mTBL := mTBL_of (tb_6 _ (List.mem_of_getElem? (i := 16) rfl)) rfl
theorem l_X11_363 : Cond.methodLink RX11 363 yX11_letterOf ∈ mTBL := mTBL_of (tb_6 _ (List.mem_of_getElem? (i := 17) rfl)) rfl
theorem l_X11_366 : Cond.methodLink RX11 366 yX0_comesOutAgain ∈ mTBL := mTBL_of (tb_6 _ (List.mem_of_getElem? (i := 48) rfl)) rfl
theorem l_X11_371 : Cond.methodLink RX11 371 yX3_goBack ∈ mTBL := mTBL_of (tb_6 _ (List.mem_of_getElem? (i := 66) rfl)) rfl
theorem l_X11_374 : Cond.methodLink RX11 374 yX0_copy ∈ mTBL := mTBL_of (tb_6 _ (List.mem_of_getElem? (i := 78) rfl)) rfl
theorem l_X11_385 : Cond.methodLink RX11 385 yX6_pushDetail ∈ mTBL := mTBL_of (tb_5 _ (List.mem_of_getElem? (i := 39) rfl)) rfl
theorem l_X11_395 : Cond.methodLink RX11 395 yX8_run ∈ mTBL := mTBL_of (tb_5 _ (List.mem_of_getElem? (i := 172) rfl)) rfl
theorem l_X11_410 : Cond.methodLink RX11 410 yX9_keep ∈ mTBL := mTBL_of (tb_5 _ (List.mem_of_getElem? (i := 208) rfl)) rfl
theorem l_X11_414 : Cond.methodLink RX11 414 yX10_at ∈ mTBL := mTBL_of (tb_5 _ (List.mem_of_getElem? (i := 119) rfl)) rfl
theorem l_X11_419 : Cond.methodLink RX11 419 yJ0_indexOf_0f7a4 ∈ mTBL := mTBL_of (tb_5 _ (List.mem_of_getElem? (i := 121) rfl)) rfl
theorem l_X11_424 : Cond.methodLink RX11 424 yJ9_max_7cf53 ∈ mTBL := mTBL_of (tb_5 _ (List.mem_of_getElem? (i := 122) rfl)) rfl
theorem l_X11_429 : Cond.methodLink RX11 429 yX11_playElement ∈ mTBL := mTBL_of (tb_5 _ (List.mem_of_getElem? (i := 123) rfl)) rfl
theorem l_X11_432 : Cond.methodLink RX11 432 yX11_directionOf ∈ mTBL := mTBL_of (tb_5 _ (List.mem_of_getElem? (i := 127) rfl)) rfl
theorem l_X11_435 : Cond.methodLink RX11 435 yX11_isPushCode ∈ mTBL := mTBL_of (tb_5 _ (List.mem_of_getElem? (i := 130) rfl)) rfl
theorem l_X11_438 : Cond.methodLink RX11 438 yX6_letterReason ∈ mTBL := mTBL_of (tb_5 _ (List.mem_of_getElem? (i := 131) rfl)) rfl
theorem l_X11_442 : Cond.methodLink RX11 442 yJ0_length_8abf5 ∈ mTBL := mTBL_of (tb_6 _ (List.mem_of_getElem? (i := 20) rfl)) rfl
theorem l_X11_444 : Cond.methodLink RX11 444 yJ0_charAt_5068e ∈ mTBL := mTBL_of (tb_6 _ (List.mem_of_getElem? (i := 21) rfl)) rfl
theorem l_X0_48 : Cond.methodLink RX0 48 yX2_lay ∈ mTBL := mTBL_of (tb_3 _ (List.mem_of_getElem? (i := 129) rfl)) rfl
theorem l_X0_61 : Cond.methodLink RX0 61 yX6_put ∈ mTBL := mTBL_of (tb_3 _ (List.mem_of_getElem? (i := 146) rfl)) rfl
theorem l_X0_65 : Cond.methodLink RX0 65 yX0_returnTo ∈ mTBL := mTBL_of (tb_3 _ (List.mem_of_getElem? (i := 150) rfl)) rfl
theorem l_X0_69 : Cond.methodLink RX0 69 yX2_copy ∈ mTBL := mTBL_of (tb_6 _ (List.mem_of_getElem? (i := 82) rfl)) rfl
theorem l_X0_92 : Cond.methodLink RX0 92 yX6_move ∈ mTBL := mTBL_of (tb_4 _ (List.mem_of_getElem? (i := 235) rfl)) rfl
theorem l_X0_100 : Cond.methodLink RX0 100 yX6_behind ∈ mTBL := mTBL_of (tb_5 _ (List.mem_of_getElem? (i := 48) rfl)) rfl
theorem l_X0_104 : Cond.methodLink RX0 104 yX0_walkTo ∈ mTBL := mTBL_of (tb_5 _ (List.mem_of_getElem? (i := 49) rfl)) rfl
theorem l_X0_108 : Cond.methodLink RX0 108 yX0_makeStep ∈ mTBL := mTBL_of (tb_5 _ (List.mem_of_getElem? (i := 68) rfl)) rfl
theorem l_X0_111 : Cond.methodLink RX0 111 yX0_pushBox ∈ mTBL := mTBL_of (tb_5 _ (List.mem_of_getElem? (i := 90) rfl)) rfl
theorem l_X0_115 : Cond.methodLink RX0 115 yX2_tunnelsAlong ∈ mTBL := mTBL_of (tb_5 _ (List.mem_of_getElem? (i := 91) rfl)) rfl
theorem l_X0_122 : Cond.methodLink RX0 122 yX2_moved ∈ mTBL := mTBL_of (tb_5 _ (List.mem_of_getElem? (i := 67) rfl)) rfl
theorem l_X0_126 : Cond.methodLink RX0 126 yX6_stepReason ∈ mTBL := mTBL_of (tb_5 _ (List.mem_of_getElem? (i := 97) rfl)) rfl
theorem l_X0_130 : Cond.methodLink RX0 130 yX6_free ∈ mTBL := mTBL_of (tb_5 _ (List.mem_of_getElem? (i := 53) rfl)) rfl
theorem l_X0_134 : Cond.methodLink RX0 134 yX4_lay ∈ mTBL := mTBL_of (tb_5 _ (List.mem_of_getElem? (i := 54) rfl)) rfl
theorem l_X0_137 : Cond.methodLink RX0 137 yX4_find ∈ mTBL := mTBL_of (tb_5 _ (List.mem_of_getElem? (i := 55) rfl)) rfl
theorem l_X0_140 : Cond.methodLink RX0 140 yX4_at ∈ mTBL := mTBL_of (tb_5 _ (List.mem_of_getElem? (i := 61) rfl)) rfl
theorem l_X0_143 : Cond.methodLink RX0 143 yX0_directionInto ∈ mTBL := mTBL_of (tb_5 _ (List.mem_of_getElem? (i := 62) rfl)) rfl
theorem l_X0_153 : Cond.methodLink RX0 153 yX6_letterReason ∈ mTBL := mTBL_of (tb_6 _ (List.mem_of_getElem? (i := 53) rfl)) rfl
theorem l_X0_156 : Cond.methodLink RX0 156 yX6_isLike ∈ mTBL := mTBL_of (tb_6 _ (List.mem_of_getElem? (i := 54) rfl)) rfl
theorem l_X1_22 : Cond.methodLink RX1 22 yX1_goalsOf ∈ mTBL := mTBL_of (tb_4 _ (List.mem_of_getElem? (i := 34) rfl)) rfl
theorem l_X1_32 : Cond.methodLink RX1 32 yX2_spread ∈ mTBL := mTBL_of (tb_4 _ (List.mem_of_getElem? (i := 38) rfl)) rfl
theorem l_X1_38 : Cond.methodLink RX1 38 yX1_entrances ∈ mTBL := mTBL_of (tb_4 _ (List.mem_of_getElem? (i := 40) rfl)) rfl
theorem l_X1_42 : Cond.methodLink RX1 42 yJ13_bitCount_95d88 ∈ mTBL := mTBL_of (tb_4 _ (List.mem_of_getElem? (i := 45) rfl)) rfl
theorem l_X1_48 : Cond.methodLink RX1 48 yX2_beside ∈ mTBL := mTBL_of (tb_4 _ (List.mem_of_getElem? (i := 44) rfl)) rfl
theorem l_X1_51 : Cond.methodLink RX1 51 yX4_lay ∈ mTBL := mTBL_of (tb_4 _ (List.mem_of_getElem? (i := 157) rfl)) rfl
theorem l_X1_59 : Cond.methodLink RX1 59 yX4_at ∈ mTBL := mTBL_of (tb_4 _ (List.mem_of_getElem? (i := 166) rfl)) rfl
theorem l_X2_44 : Cond.methodLink RX2 44 yX2_pulled ∈ mTBL := mTBL_of (tb_3 _ (List.mem_of_getElem? (i := 134) rfl)) rfl
theorem l_X2_50 : Cond.methodLink RX2 50 yX2_moved ∈ mTBL := mTBL_of (tb_3 _ (List.mem_of_getElem? (i := 141) rfl)) rfl
theorem l_X2_54 : Cond.methodLink RX2 54 yX2_beside ∈ mTBL := mTBL_of (tb_3 _ (List.mem_of_getElem? (i := 230) rfl)) rfl
theorem l_X2_57 : Cond.methodLink RX2 57 yX2_spread ∈ mTBL := mTBL_of (tb_4 _ (List.mem_of_getElem? (i := 29) rfl)) rfl
theorem l_X2_65 : Cond.methodLink RX2 65 yX2_lonePushed ∈ mTBL := mTBL_of (tb_4 _ (List.mem_of_getElem? (i := 66) rfl)) rfl
theorem l_X2_68 : Cond.methodLink RX2 68 yX2_frozen ∈ mTBL := mTBL_of (tb_4 _ (List.mem_of_getElem? (i := 133) rfl)) rfl
theorem l_X2_75 : Cond.methodLink RX2 75 yX2_tunnelsInRow ∈ mTBL := mTBL_of (tb_5 _ (List.mem_of_getElem? (i := 95) rfl)) rfl
theorem l_X2_79 : Cond.methodLink RX2 79 yX2_tunnelsInColumn ∈ mTBL := mTBL_of (tb_5 _ (List.mem_of_getElem? (i := 96) rfl)) rfl
theorem l_X3_58 : Cond.methodLink RX3 58 yX0_returnTo ∈ mTBL := mTBL_of (tb_5 _ (List.mem_of_getElem? (i := 77) rfl)) rfl
theorem l_X3_62 : Cond.methodLink RX3 62 yX3_forgetOldest ∈ mTBL := mTBL_of (tb_5 _ (List.mem_of_getElem? (i := 7) rfl)) rfl
theorem l_X3_65 : Cond.methodLink RX3 65 yX3_rollBack ∈ mTBL := mTBL_of (tb_6 _ (List.mem_of_getElem? (i := 70) rfl)) rfl
theorem l_X4_23 : Cond.methodLink RX4 23 yX2_beside ∈ mTBL := mTBL_of (tb_4 _ (List.mem_of_getElem? (i := 164) rfl)) rfl
theorem l_X4_35 : Cond.methodLink RX4 35 yX4_at ∈ mTBL := mTBL_of (tb_5 _ (List.mem_of_getElem? (i := 59) rfl)) rfl
theorem l_X5_22 : Cond.methodLink RX5 22 yX5_measure ∈ mTBL := mTBL_of (tb_4 _ (List.mem_of_getElem? (i := 97) rfl)) rfl
theorem l_X5_40 : Cond.methodLink RX5 40 yX5_offer ∈ mTBL := mTBL_of (tb_4 _ (List.mem_of_getElem? (i := 112) rfl)) rfl
theorem l_X5_48 : Cond.methodLink RX5 48 yX5_measureFrom ∈ mTBL := mTBL_of (tb_4 _ (List.mem_of_getElem? (i := 102) rfl)) rfl
theorem l_X5_55 : Cond.methodLink RX5 55 yX2_lonePushed ∈ mTBL := mTBL_of (tb_4 _ (List.mem_of_getElem? (i := 110) rfl)) rfl
theorem l_X5_61 : Cond.methodLink RX5 61 yX5_offerTo ∈ mTBL := mTBL_of (tb_4 _ (List.mem_of_getElem? (i := 117) rfl)) rfl
theorem l_X6_37 : Cond.methodLink RX6 37 yX6_free ∈ mTBL := mTBL_of (tb_3 _ (List.mem_of_getElem? (i := 221) rfl)) rfl
theorem l_X6_41 : Cond.methodLink RX6 41 yX2_spread ∈ mTBL := mTBL_of (tb_3 _ (List.mem_of_getElem? (i := 226) rfl)) rfl
theorem l_X6_45 : Cond.methodLink RX6 45 yX2_moved ∈ mTBL := mTBL_of (tb_4 _ (List.mem_of_getElem? (i := 195) rfl)) rfl
theorem l_X6_49 : Cond.methodLink RX6 49 yX6_ahead ∈ mTBL := mTBL_of (tb_4 _ (List.mem_of_getElem? (i := 191) rfl)) rfl
theorem l_X6_52 : Cond.methodLink RX6 52 yX6_boxReason ∈ mTBL := mTBL_of (tb_4 _ (List.mem_of_getElem? (i := 196) rfl)) rfl
theorem l_X6_60 : Cond.methodLink RX6 60 yX6_stepReason ∈ mTBL := mTBL_of (tb_5 _ (List.mem_of_getElem? (i := 135) rfl)) rfl
theorem l_X6_64 : Cond.methodLink RX6 64 yX6_behind ∈ mTBL := mTBL_of (tb_5 _ (List.mem_of_getElem? (i := 33) rfl)) rfl
theorem l_X6_68 : Cond.methodLink RX6 68 yX6_area ∈ mTBL := mTBL_of (tb_5 _ (List.mem_of_getElem? (i := 38) rfl)) rfl
theorem l_X7_9 : Cond.methodLink RX7 9 yX7_clear ∈ mTBL := mTBL_of (tb_1 _ (List.mem_of_getElem? (i := 59) rfl)) rfl
theorem l_X7_46 : Cond.methodLink RX7 46 yX10_at ∈ mTBL := mTBL_of (tb_3 _ (List.mem_of_getElem? (i := 0) rfl)) rfl
theorem l_X7_52 : Cond.methodLink RX7 52 yX7_endRow ∈ mTBL := mTBL_of (tb_3 _ (List.mem_of_getElem? (i := 4) rfl)) rfl
theorem l_X7_56 : Cond.methodLink RX7 56 yX7_addCell ∈ mTBL := mTBL_of (tb_3 _ (List.mem_of_getElem? (i := 8) rfl)) rfl
theorem l_X7_62 : Cond.methodLink RX7 62 yJ0_indexOf_0f7a4 ∈ mTBL := mTBL_of (tb_3 _ (List.mem_of_getElem? (i := 13) rfl)) rfl
theorem l_X7_72 : Cond.methodLink RX7 72 yX7_isSide ∈ mTBL := mTBL_of (tb_3 _ (List.mem_of_getElem? (i := 106) rfl)) rfl
theorem l_X8_58 : Cond.methodLink RX8 58 yX6_area ∈ mTBL := mTBL_of (tb_5 _ (List.mem_of_getElem? (i := 177) rfl)) rfl
theorem l_X8_66 : Cond.methodLink RX8 66 yX8_add ∈ mTBL := mTBL_of (tb_5 _ (List.mem_of_getElem? (i := 179) rfl)) rfl
theorem l_X8_70 : Cond.methodLink RX8 70 yX8_visit ∈ mTBL := mTBL_of (tb_5 _ (List.mem_of_getElem? (i := 191) rfl)) rfl
theorem l_X8_96 : Cond.methodLink RX8 96 yX2_spread ∈ mTBL := mTBL_of (tb_5 _ (List.mem_of_getElem? (i := 197) rfl)) rfl
theorem l_X8_104 : Cond.methodLink RX8 104 yX8_lookAt ∈ mTBL := mTBL_of (tb_5 _ (List.mem_of_getElem? (i := 199) rfl)) rfl
theorem l_X8_108 : Cond.methodLink RX8 108 yX2_moved ∈ mTBL := mTBL_of (tb_5 _ (List.mem_of_getElem? (i := 203) rfl)) rfl
theorem l_X8_116 : Cond.methodLink RX8 116 yX2_stuckReason ∈ mTBL := mTBL_of (tb_5 _ (List.mem_of_getElem? (i := 205) rfl)) rfl
theorem l_X8_119 : Cond.methodLink RX8 119 yX8_slotFor ∈ mTBL := mTBL_of (tb_5 _ (List.mem_of_getElem? (i := 183) rfl)) rfl
theorem l_X9_27 : Cond.methodLink RX9 27 yX9_depthOf ∈ mTBL := mTBL_of (tb_5 _ (List.mem_of_getElem? (i := 212) rfl)) rfl
theorem l_X9_34 : Cond.methodLink RX9 34 yX8_pushTo ∈ mTBL := mTBL_of (tb_5 _ (List.mem_of_getElem? (i := 219) rfl)) rfl
theorem l_X9_42 : Cond.methodLink RX9 42 yX8_parentOf ∈ mTBL := mTBL_of (tb_5 _ (List.mem_of_getElem? (i := 215) rfl)) rfl
theorem l_X10_19 : Cond.methodLink RX10 19 yX10_at ∈ mTBL := mTBL_of (tb_5 _ (List.mem_of_getElem? (i := 109) rfl)) rfl
theorem l_X10_25 : Cond.methodLink RX10 25 yJ0_indexOf_0f7a4 ∈ mTBL := mTBL_of (tb_5 _ (List.mem_of_getElem? (i := 111) rfl)) rfl
theorem l_X10_31 : Cond.methodLink RX10 31 yX10_isDigit ∈ mTBL := mTBL_of (tb_5 _ (List.mem_of_getElem? (i := 112) rfl)) rfl
theorem l_L_7 : Cond.methodLink RL 7 yX11_feed ∈ mTBL := mTBL_of (tb_2 _ (List.mem_of_getElem? (i := 129) rfl)) rfl
theorem l_L_17 : Cond.methodLink RL 17 yX11_readRoom ∈ mTBL := mTBL_of (tb_2 _ (List.mem_of_getElem? (i := 228) rfl)) rfl
theorem l_L_23 : Cond.methodLink RL 23 yX11_cell ∈ mTBL := mTBL_of (tb_3 _ (List.mem_of_getElem? (i := 168) rfl)) rfl
theorem l_L_29 : Cond.methodLink RL 29 yX11_cells ∈ mTBL := mTBL_of (tb_3 _ (List.mem_of_getElem? (i := 212) rfl)) rfl
theorem l_L_33 : Cond.methodLink RL 33 yX11_count ∈ mTBL := mTBL_of (tb_4 _ (List.mem_of_getElem? (i := 10) rfl)) rfl
theorem l_L_37 : Cond.methodLink RL 37 yX11_distance ∈ mTBL := mTBL_of (tb_4 _ (List.mem_of_getElem? (i := 55) rfl)) rfl
theorem l_L_43 : Cond.methodLink RL 43 yX11_bound ∈ mTBL := mTBL_of (tb_4 _ (List.mem_of_getElem? (i := 89) rfl)) rfl
theorem l_L_46 : Cond.methodLink RL 46 yX11_stuck ∈ mTBL := mTBL_of (tb_4 _ (List.mem_of_getElem? (i := 125) rfl)) rfl
theorem l_L_50 : Cond.methodLink RL 50 yX11_goalRoom ∈ mTBL := mTBL_of (tb_4 _ (List.mem_of_getElem? (i := 145) rfl)) rfl
theorem l_L_53 : Cond.methodLink RL 53 yX11_step ∈ mTBL := mTBL_of (tb_4 _ (List.mem_of_getElem? (i := 178) rfl)) rfl
theorem l_L_58 : Cond.methodLink RL 58 yX11_push ∈ mTBL := mTBL_of (tb_5 _ (List.mem_of_getElem? (i := 16) rfl)) rfl
theorem l_L_61 : Cond.methodLink RL 61 yX11_longPush ∈ mTBL := mTBL_of (tb_5 _ (List.mem_of_getElem? (i := 82) rfl)) rfl
theorem l_L_64 : Cond.methodLink RL 64 yX11_play ∈ mTBL := mTBL_of (tb_5 _ (List.mem_of_getElem? (i := 101) rfl)) rfl
theorem l_L_67 : Cond.methodLink RL 67 yX11_refused ∈ mTBL := mTBL_of (tb_5 _ (List.mem_of_getElem? (i := 140) rfl)) rfl
theorem l_L_70 : Cond.methodLink RL 70 yX11_refusal ∈ mTBL := mTBL_of (tb_5 _ (List.mem_of_getElem? (i := 148) rfl)) rfl
theorem l_L_73 : Cond.methodLink RL 73 yX11_refuses ∈ mTBL := mTBL_of (tb_5 _ (List.mem_of_getElem? (i := 156) rfl)) rfl
theorem l_L_76 : Cond.methodLink RL 76 yX11_solve ∈ mTBL := mTBL_of (tb_5 _ (List.mem_of_getElem? (i := 163) rfl)) rfl
theorem l_L_80 : Cond.methodLink RL 80 yX11_solution ∈ mTBL := mTBL_of (tb_5 _ (List.mem_of_getElem? (i := 227) rfl)) rfl
theorem l_L_83 : Cond.methodLink RL 83 yX11_finish ∈ mTBL := mTBL_of (tb_6 _ (List.mem_of_getElem? (i := 4) rfl)) rfl
theorem l_L_86 : Cond.methodLink RL 86 yX11_recorded ∈ mTBL := mTBL_of (tb_6 _ (List.mem_of_getElem? (i := 11) rfl)) rfl
theorem l_L_90 : Cond.methodLink RL 90 yX11_isReplayed ∈ mTBL := mTBL_of (tb_6 _ (List.mem_of_getElem? (i := 44) rfl)) rfl
theorem l_L_94 : Cond.methodLink RL 94 yX11_undo ∈ mTBL := mTBL_of (tb_6 _ (List.mem_of_getElem? (i := 61) rfl)) rfl
theorem l_L_97 : Cond.methodLink RL 97 yX11_saveSnapshot ∈ mTBL := mTBL_of (tb_6 _ (List.mem_of_getElem? (i := 74) rfl)) rfl
theorem l_L_100 : Cond.methodLink RL 100 yX11_restoreSnapshot ∈ mTBL := mTBL_of (tb_6 _ (List.mem_of_getElem? (i := 89) rfl)) rfl
theorem l_L_107 : Cond.methodLink RL 107 yL_feed ∈ mTBL := mTBL_of (tb_2 _ (List.mem_of_getElem? (i := 124) rfl)) rfl
theorem l_L_112 : Cond.methodLink RL 112 yX12_feed ∈ mTBL := mTBL_of (tb_6 _ (List.mem_of_getElem? (i := 229) rfl)) rfl
theorem l_L_113 : Cond.methodLink RL 113 yX12_thrown ∈ mTBL := mTBL_of (tb_6 _ (List.mem_of_getElem? (i := 209) rfl)) rfl
theorem l_L_116 : Cond.methodLink RL 116 yL_readRoom ∈ mTBL := mTBL_of (tb_2 _ (List.mem_of_getElem? (i := 224) rfl)) rfl
theorem l_L_119 : Cond.methodLink RL 119 yX12_readRoom ∈ mTBL := mTBL_of (tb_6 _ (List.mem_of_getElem? (i := 236) rfl)) rfl
theorem l_L_120 : Cond.methodLink RL 120 yL_cell ∈ mTBL := mTBL_of (tb_3 _ (List.mem_of_getElem? (i := 164) rfl)) rfl
theorem l_L_123 : Cond.methodLink RL 123 yX12_cell ∈ mTBL := mTBL_of (tb_7 _ (List.mem_of_getElem? (i := 21) rfl)) rfl
theorem l_L_124 : Cond.methodLink RL 124 yL_cells ∈ mTBL := mTBL_of (tb_3 _ (List.mem_of_getElem? (i := 209) rfl)) rfl
theorem l_L_127 : Cond.methodLink RL 127 yX12_cells ∈ mTBL := mTBL_of (tb_7 _ (List.mem_of_getElem? (i := 37) rfl)) rfl
theorem l_L_128 : Cond.methodLink RL 128 yL_count ∈ mTBL := mTBL_of (tb_4 _ (List.mem_of_getElem? (i := 7) rfl)) rfl
theorem l_L_130 : Cond.methodLink RL 130 yX12_count ∈ mTBL := mTBL_of (tb_7 _ (List.mem_of_getElem? (i := 80) rfl)) rfl
theorem l_L_131 : Cond.methodLink RL 131 yL_distance ∈ mTBL := mTBL_of (tb_4 _ (List.mem_of_getElem? (i := 51) rfl)) rfl
theorem l_L_133 : Cond.methodLink RL 133 yX12_distance ∈ mTBL := mTBL_of (tb_7 _ (List.mem_of_getElem? (i := 108) rfl)) rfl
theorem l_L_134 : Cond.methodLink RL 134 yL_bound ∈ mTBL := mTBL_of (tb_4 _ (List.mem_of_getElem? (i := 86) rfl)) rfl
theorem l_L_136 : Cond.methodLink RL 136 yX12_bound ∈ mTBL := mTBL_of (tb_7 _ (List.mem_of_getElem? (i := 112) rfl)) rfl
theorem l_L_137 : Cond.methodLink RL 137 yL_stuck ∈ mTBL := mTBL_of (tb_4 _ (List.mem_of_getElem? (i := 122) rfl)) rfl
theorem l_L_140 : Cond.methodLink RL 140 yX12_stuck ∈ mTBL := mTBL_of (tb_7 _ (List.mem_of_getElem? (i := 120) rfl)) rfl
theorem l_L_141 : Cond.methodLink RL 141 yL_goalRoom ∈ mTBL := mTBL_of (tb_4 _ (List.mem_of_getElem? (i := 142) rfl)) rfl
theorem l_L_143 : Cond.methodLink RL 143 yX12_goalRoom ∈ mTBL := mTBL_of (tb_7 _ (List.mem_of_getElem? (i := 128) rfl)) rfl
theorem l_L_144 : Cond.methodLink RL 144 yL_step ∈ mTBL := mTBL_of (tb_4 _ (List.mem_of_getElem? (i := 174) rfl)) rfl
theorem l_L_146 : Cond.methodLink RL 146 yX12_step ∈ mTBL := mTBL_of (tb_7 _ (List.mem_of_getElem? (i := 140) rfl)) rfl
theorem l_L_147 : Cond.methodLink RL 147 yL_push ∈ mTBL := mTBL_of (tb_5 _ (List.mem_of_getElem? (i := 13) rfl)) rfl
theorem l_L_149 : Cond.methodLink RL 149 yX12_push ∈ mTBL := mTBL_of (tb_7 _ (List.mem_of_getElem? (i := 168) rfl)) rfl
theorem l_L_150 : Cond.methodLink RL 150 yL_longPush ∈ mTBL := mTBL_of (tb_5 _ (List.mem_of_getElem? (i := 79) rfl)) rfl
theorem l_L_152 : Cond.methodLink RL 152 yX12_longPush ∈ mTBL := mTBL_of (tb_7 _ (List.mem_of_getElem? (i := 196) rfl)) rfl
theorem l_L_153 : Cond.methodLink RL 153 yL_play ∈ mTBL := mTBL_of (tb_5 _ (List.mem_of_getElem? (i := 98) rfl)) rfl
theorem l_L_155 : Cond.methodLink RL 155 yX12_play ∈ mTBL := mTBL_of (tb_7 _ (List.mem_of_getElem? (i := 204) rfl)) rfl
theorem l_L_156 : Cond.methodLink RL 156 yL_refused ∈ mTBL := mTBL_of (tb_5 _ (List.mem_of_getElem? (i := 137) rfl)) rfl
theorem l_L_158 : Cond.methodLink RL 158 yX12_refused ∈ mTBL := mTBL_of (tb_7 _ (List.mem_of_getElem? (i := 219) rfl)) rfl
theorem l_L_159 : Cond.methodLink RL 159 yL_refusal ∈ mTBL := mTBL_of (tb_5 _ (List.mem_of_getElem? (i := 145) rfl)) rfl
theorem l_L_161 : Cond.methodLink RL 161 yX12_refusal ∈ mTBL := mTBL_of (tb_7 _ (List.mem_of_getElem? (i := 223) rfl)) rfl
theorem l_L_162 : Cond.methodLink RL 162 yL_refuses ∈ mTBL := mTBL_of (tb_5 _ (List.mem_of_getElem? (i := 153) rfl)) rfl
theorem l_L_164 : Cond.methodLink RL 164 yX12_refuses ∈ mTBL := mTBL_of (tb_7 _ (List.mem_of_getElem? (i := 200) rfl)) rfl
theorem l_L_165 : Cond.methodLink RL 165 yL_solve ∈ mTBL := mTBL_of (tb_5 _ (List.mem_of_getElem? (i := 160) rfl)) rfl
theorem l_L_168 : Cond.methodLink RL 168 yX12_solve ∈ mTBL := mTBL_of (tb_7 _ (List.mem_of_getElem? (i := 227) rfl)) rfl
theorem l_L_169 : Cond.methodLink RL 169 yL_solution ∈ mTBL := mTBL_of (tb_5 _ (List.mem_of_getElem? (i := 224) rfl)) rfl
theorem l_L_171 : Cond.methodLink RL 171 yX12_solution ∈ mTBL := mTBL_of (tb_8 _ (List.mem_of_getElem? (i := 15) rfl)) rfl
theorem l_L_172 : Cond.methodLink RL 172 yL_finish ∈ mTBL := mTBL_of (tb_6 _ (List.mem_of_getElem? (i := 1) rfl)) rfl
theorem l_L_174 : Cond.methodLink RL 174 yX12_finish ∈ mTBL := mTBL_of (tb_8 _ (List.mem_of_getElem? (i := 19) rfl)) rfl
theorem l_L_175 : Cond.methodLink RL 175 yL_recorded ∈ mTBL := mTBL_of (tb_6 _ (List.mem_of_getElem? (i := 8) rfl)) rfl
theorem l_L_177 : Cond.methodLink RL 177 yX12_recorded ∈ mTBL := mTBL_of (tb_8 _ (List.mem_of_getElem? (i := 24) rfl)) rfl
theorem l_L_178 : Cond.methodLink RL 178 yL_isReplayed ∈ mTBL := mTBL_of (tb_6 _ (List.mem_of_getElem? (i := 41) rfl)) rfl
theorem l_L_180 : Cond.methodLink RL 180 yX12_isReplayed ∈ mTBL := mTBL_of (tb_8 _ (List.mem_of_getElem? (i := 28) rfl)) rfl
theorem l_L_181 : Cond.methodLink RL 181 yL_undo ∈ mTBL := mTBL_of (tb_6 _ (List.mem_of_getElem? (i := 58) rfl)) rfl
theorem l_L_183 : Cond.methodLink RL 183 yX12_undo ∈ mTBL := mTBL_of (tb_6 _ (List.mem_of_getElem? (i := 213) rfl)) rfl
theorem l_L_184 : Cond.methodLink RL 184 yL_saveSnapshot ∈ mTBL := mTBL_of (tb_6 _ (List.mem_of_getElem? (i := 71) rfl)) rfl
theorem l_L_186 : Cond.methodLink RL 186 yX12_saveSnapshot ∈ mTBL := mTBL_of (tb_6 _ (List.mem_of_getElem? (i := 217) rfl)) rfl
theorem l_L_187 : Cond.methodLink RL 187 yL_restoreSnapshot ∈ mTBL := mTBL_of (tb_6 _ (List.mem_of_getElem? (i := 86) rfl)) rfl
theorem l_L_189 : Cond.methodLink RL 189 yX12_restoreSnapshot ∈ mTBL := mTBL_of (tb_6 _ (List.mem_of_getElem? (i := 225) rfl)) rfl
theorem l_X12_76 : Cond.methodLink RX12 76 yX12_in ∈ mTBL := mTBL_of (tb_6 _ (List.mem_of_getElem? (i := 233) rfl)) rfl
theorem l_X12_83 : Cond.methodLink RX12 83 yX12_hasRoom ∈ mTBL := mTBL_of (tb_6 _ (List.mem_of_getElem? (i := 221) rfl)) rfl
theorem l_X12_100 : Cond.methodLink RX12 100 yX12_isBoxText ∈ mTBL := mTBL_of (tb_7 _ (List.mem_of_getElem? (i := 4) rfl)) rfl
theorem l_X12_104 : Cond.methodLink RX12 104 yX12_isPlayerText ∈ mTBL := mTBL_of (tb_7 _ (List.mem_of_getElem? (i := 7) rfl)) rfl
theorem l_X12_107 : Cond.methodLink RX12 107 yX12_isCell ∈ mTBL := mTBL_of (tb_7 _ (List.mem_of_getElem? (i := 10) rfl)) rfl
theorem l_X12_110 : Cond.methodLink RX12 110 yX12_roomFault ∈ mTBL := mTBL_of (tb_7 _ (List.mem_of_getElem? (i := 0) rfl)) rfl
theorem l_X12_114 : Cond.methodLink RX12 114 yX12_fails ∈ mTBL := mTBL_of (tb_7 _ (List.mem_of_getElem? (i := 13) rfl)) rfl
theorem l_X12_118 : Cond.methodLink RX12 118 yX12_lays ∈ mTBL := mTBL_of (tb_7 _ (List.mem_of_getElem? (i := 17) rfl)) rfl
theorem l_X12_121 : Cond.methodLink RX12 121 yX12_isOpen ∈ mTBL := mTBL_of (tb_7 _ (List.mem_of_getElem? (i := 25) rfl)) rfl
theorem l_X12_124 : Cond.methodLink RX12 124 yX12_isBox ∈ mTBL := mTBL_of (tb_7 _ (List.mem_of_getElem? (i := 29) rfl)) rfl
theorem l_X12_127 : Cond.methodLink RX12 127 yX12_isGoal ∈ mTBL := mTBL_of (tb_7 _ (List.mem_of_getElem? (i := 33) rfl)) rfl
theorem l_X12_130 : Cond.methodLink RX12 130 yX12_size ∈ mTBL := mTBL_of (tb_7 _ (List.mem_of_getElem? (i := 45) rfl)) rfl
theorem l_X12_136 : Cond.methodLink RX12 136 yX12_beside ∈ mTBL := mTBL_of (tb_7 _ (List.mem_of_getElem? (i := 56) rfl)) rfl
theorem l_X12_140 : Cond.methodLink RX12 140 yX12_opposite ∈ mTBL := mTBL_of (tb_7 _ (List.mem_of_getElem? (i := 53) rfl)) rfl
theorem l_X12_143 : Cond.methodLink RX12 143 yX12_pushesTo ∈ mTBL := mTBL_of (tb_7 _ (List.mem_of_getElem? (i := 49) rfl)) rfl
theorem l_X12_147 : Cond.methodLink RX12 147 yX12_isBlocked ∈ mTBL := mTBL_of (tb_7 _ (List.mem_of_getElem? (i := 68) rfl)) rfl
theorem l_X12_151 : Cond.methodLink RX12 151 yX12_freezes ∈ mTBL := mTBL_of (tb_7 _ (List.mem_of_getElem? (i := 64) rfl)) rfl
theorem l_X12_157 : Cond.methodLink RX12 157 yX12_isTunnel ∈ mTBL := mTBL_of (tb_7 _ (List.mem_of_getElem? (i := 76) rfl)) rfl
theorem l_X12_160 : Cond.methodLink RX12 160 yX12_dies ∈ mTBL := mTBL_of (tb_7 _ (List.mem_of_getElem? (i := 41) rfl)) rfl
theorem l_X12_163 : Cond.methodLink RX12 163 yX12_walksFrom ∈ mTBL := mTBL_of (tb_7 _ (List.mem_of_getElem? (i := 60) rfl)) rfl
theorem l_X12_166 : Cond.methodLink RX12 166 yX12_isIn ∈ mTBL := mTBL_of (tb_7 _ (List.mem_of_getElem? (i := 72) rfl)) rfl
theorem l_X12_169 : Cond.methodLink RX12 169 yX12_counted ∈ mTBL := mTBL_of (tb_7 _ (List.mem_of_getElem? (i := 84) rfl)) rfl
theorem l_X12_173 : Cond.methodLink RX12 173 yX12_recordedPushes ∈ mTBL := mTBL_of (tb_7 _ (List.mem_of_getElem? (i := 88) rfl)) rfl
theorem l_X12_176 : Cond.methodLink RX12 176 yX12_groups ∈ mTBL := mTBL_of (tb_7 _ (List.mem_of_getElem? (i := 92) rfl)) rfl
theorem l_X12_179 : Cond.methodLink RX12 179 yX12_goalRooms ∈ mTBL := mTBL_of (tb_7 _ (List.mem_of_getElem? (i := 96) rfl)) rfl
theorem l_X12_182 : Cond.methodLink RX12 182 yX12_isSolved ∈ mTBL := mTBL_of (tb_7 _ (List.mem_of_getElem? (i := 104) rfl)) rfl
theorem l_X12_185 : Cond.methodLink RX12 185 yX12_oneMore ∈ mTBL := mTBL_of (tb_7 _ (List.mem_of_getElem? (i := 116) rfl)) rfl
theorem l_X12_188 : Cond.methodLink RX12 188 yX12_stuckFor ∈ mTBL := mTBL_of (tb_7 _ (List.mem_of_getElem? (i := 124) rfl)) rfl
theorem l_X12_194 : Cond.methodLink RX12 194 yX12_gathers ∈ mTBL := mTBL_of (tb_7 _ (List.mem_of_getElem? (i := 100) rfl)) rfl
theorem l_X12_197 : Cond.methodLink RX12 197 yX12_plainSteps ∈ mTBL := mTBL_of (tb_7 _ (List.mem_of_getElem? (i := 136) rfl)) rfl
theorem l_X12_200 : Cond.methodLink RX12 200 yX12_ordered ∈ mTBL := mTBL_of (tb_7 _ (List.mem_of_getElem? (i := 132) rfl)) rfl
theorem l_X12_206 : Cond.methodLink RX12 206 yX12_reasonForBox ∈ mTBL := mTBL_of (tb_7 _ (List.mem_of_getElem? (i := 148) rfl)) rfl
theorem l_X12_215 : Cond.methodLink RX12 215 yX12_reasonForStep ∈ mTBL := mTBL_of (tb_7 _ (List.mem_of_getElem? (i := 144) rfl)) rfl
theorem l_X12_218 : Cond.methodLink RX12 218 yX12_keeps ∈ mTBL := mTBL_of (tb_7 _ (List.mem_of_getElem? (i := 152) rfl)) rfl
theorem l_X12_221 : Cond.methodLink RX12 221 yX12_remembers ∈ mTBL := mTBL_of (tb_7 _ (List.mem_of_getElem? (i := 156) rfl)) rfl
theorem l_X12_224 : Cond.methodLink RX12 224 yX12_commands ∈ mTBL := mTBL_of (tb_7 _ (List.mem_of_getElem? (i := 160) rfl)) rfl
theorem l_X12_227 : Cond.methodLink RX12 227 yX12_goes ∈ mTBL := mTBL_of (tb_7 _ (List.mem_of_getElem? (i := 164) rfl)) rfl
theorem l_X12_230 : Cond.methodLink RX12 230 yX12_isNearer ∈ mTBL := mTBL_of (tb_7 _ (List.mem_of_getElem? (i := 188) rfl)) rfl
theorem l_X12_233 : Cond.methodLink RX12 233 yX12_pushStops ∈ mTBL := mTBL_of (tb_7 _ (List.mem_of_getElem? (i := 176) rfl)) rfl
theorem l_X12_236 : Cond.methodLink RX12 236 yX12_reasonForPush ∈ mTBL := mTBL_of (tb_7 _ (List.mem_of_getElem? (i := 180) rfl)) rfl
theorem l_X12_239 : Cond.methodLink RX12 239 yX12_walksAndPushes ∈ mTBL := mTBL_of (tb_7 _ (List.mem_of_getElem? (i := 184) rfl)) rfl
theorem l_X12_243 : Cond.methodLink RX12 243 yX12_goesBack ∈ mTBL := mTBL_of (tb_7 _ (List.mem_of_getElem? (i := 192) rfl)) rfl
theorem l_X12_246 : Cond.methodLink RX12 246 yX12_pushing ∈ mTBL := mTBL_of (tb_7 _ (List.mem_of_getElem? (i := 172) rfl)) rfl
theorem l_X12_250 : Cond.methodLink RX12 250 yX12_directionOf ∈ mTBL := mTBL_of (tb_7 _ (List.mem_of_getElem? (i := 212) rfl)) rfl
theorem l_X12_253 : Cond.methodLink RX12 253 yX12_stepsFault ∈ mTBL := mTBL_of (tb_7 _ (List.mem_of_getElem? (i := 208) rfl)) rfl
theorem l_X12_256 : Cond.methodLink RX12 256 yX12_reasonForLetter ∈ mTBL := mTBL_of (tb_7 _ (List.mem_of_getElem? (i := 215) rfl)) rfl
theorem l_X12_259 : Cond.methodLink RX12 259 yX12_boxSet ∈ mTBL := mTBL_of (tb_7 _ (List.mem_of_getElem? (i := 239) rfl)) rfl
theorem l_X12_263 : Cond.methodLink RX12 263 yX12_lowestHere ∈ mTBL := mTBL_of (tb_8 _ (List.mem_of_getElem? (i := 3) rfl)) rfl
theorem l_X12_272 : Cond.methodLink RX12 272 yX12_takes ∈ mTBL := mTBL_of (tb_8 _ (List.mem_of_getElem? (i := 7) rfl)) rfl
theorem l_X12_275 : Cond.methodLink RX12 275 yX12_finds ∈ mTBL := mTBL_of (tb_7 _ (List.mem_of_getElem? (i := 235) rfl)) rfl
theorem l_X12_279 : Cond.methodLink RX12 279 yX12_visits ∈ mTBL := mTBL_of (tb_8 _ (List.mem_of_getElem? (i := 11) rfl)) rfl
theorem l_X12_286 : Cond.methodLink RX12 286 yX12_searches ∈ mTBL := mTBL_of (tb_7 _ (List.mem_of_getElem? (i := 231) rfl)) rfl
theorem l_X12_290 : Cond.methodLink RX12 290 yX12_solve ∈ mTBL := mTBL_of (tb_8 _ (List.mem_of_getElem? (i := 23) rfl)) rfl
theorem l_J0_335 : Cond.methodLink RJ0 335 yJ0_coder_7d493 ∈ mTBL := mTBL_of (tb_3 _ (List.mem_of_getElem? (i := 31) rfl)) rfl
theorem l_J0_492 : Cond.methodLink RJ0 492 yJ0_isLatin1_aae02 ∈ mTBL := mTBL_of (tb_3 _ (List.mem_of_getElem? (i := 21) rfl)) rfl
theorem l_J0_495 : Cond.methodLink RJ0 495 yJ1_charAt_3b067 ∈ mTBL := mTBL_of (tb_6 _ (List.mem_of_getElem? (i := 25) rfl)) rfl
theorem l_J0_505 : Cond.methodLink RJ0 505 yJ0_length_8abf5 ∈ mTBL := mTBL_of (tb_3 _ (List.mem_of_getElem? (i := 27) rfl)) rfl
theorem l_J0_633 : Cond.methodLink RJ0 633 yJ0_indexOf_7cf53 ∈ mTBL := mTBL_of (tb_3 _ (List.mem_of_getElem? (i := 17) rfl)) rfl
theorem l_J0_637 : Cond.methodLink RJ0 637 yJ1_indexOf_4cfef ∈ mTBL := mTBL_of (tb_3 _ (List.mem_of_getElem? (i := 35) rfl)) rfl
theorem l_J1_9 : Cond.methodLink RJ1 9 yJ0_checkIndex_df160 ∈ mTBL := mTBL_of (tb_6 _ (List.mem_of_getElem? (i := 28) rfl)) rfl
theorem l_J1_38 : Cond.methodLink RJ1 38 yJ9_min_7cf53 ∈ mTBL := mTBL_of (tb_3 _ (List.mem_of_getElem? (i := 44) rfl)) rfl
theorem l_J1_88 : Cond.methodLink RJ1 88 yJ1_canEncode_9a6ad ∈ mTBL := mTBL_of (tb_3 _ (List.mem_of_getElem? (i := 38) rfl)) rfl
theorem l_J1_92 : Cond.methodLink RJ1 92 yJ9_max_7cf53 ∈ mTBL := mTBL_of (tb_3 _ (List.mem_of_getElem? (i := 41) rfl)) rfl
theorem l_J1_95 : Cond.methodLink RJ1 95 yJ1_indexOfChar_4cfef ∈ mTBL := mTBL_of (tb_3 _ (List.mem_of_getElem? (i := 47) rfl)) rfl
theorem n_X0_74 : (RX0, 74, yX11_intAt, "PusherRoom") ∈ mNest := List.mem_of_getElem? (i := 5) rfl
theorem n_X0_78 : (RX0, 78, yX11_setInt, "PusherRoom") ∈ mNest := List.mem_of_getElem? (i := 19) rfl
theorem n_X0_85 : (RX0, 85, yX11_has, "PusherRoom") ∈ mNest := List.mem_of_getElem? (i := 3) rfl
theorem n_X0_96 : (RX0, 96, yX11_codeOf, "PusherRoom") ∈ mNest := List.mem_of_getElem? (i := 18) rfl
theorem n_X0_119 : (RX0, 119, yX11_bit, "PusherRoom") ∈ mNest := List.mem_of_getElem? (i := 24) rfl
theorem n_X0_147 : (RX0, 147, yX11_isPushCode, "PusherRoom") ∈ mNest := List.mem_of_getElem? (i := 6) rfl
theorem n_X0_150 : (RX0, 150, yX11_directionOf, "PusherRoom") ∈ mNest := List.mem_of_getElem? (i := 35) rfl
theorem n_X1_62 : (RX1, 62, yX11_has, "PusherRoom") ∈ mNest := List.mem_of_getElem? (i := 14) rfl
theorem n_X2_40 : (RX2, 40, yX11_bit, "PusherRoom") ∈ mNest := List.mem_of_getElem? (i := 1) rfl
theorem n_X2_61 : (RX2, 61, yX11_opposite, "PusherRoom") ∈ mNest := List.mem_of_getElem? (i := 2) rfl
theorem n_X2_71 : (RX2, 71, yX11_lowest, "PusherRoom") ∈ mNest := List.mem_of_getElem? (i := 11) rfl
theorem n_X3_37 : (RX3, 37, yX11_setLong, "PusherRoom") ∈ mNest := List.mem_of_getElem? (i := 16) rfl
theorem n_X3_44 : (RX3, 44, yX11_setInt, "PusherRoom") ∈ mNest := List.mem_of_getElem? (i := 17) rfl
theorem n_X3_50 : (RX3, 50, yX11_longAt, "PusherRoom") ∈ mNest := List.mem_of_getElem? (i := 20) rfl
theorem n_X3_54 : (RX3, 54, yX11_intAt, "PusherRoom") ∈ mNest := List.mem_of_getElem? (i := 21) rfl
theorem n_X4_19 : (RX4, 19, yX11_setLong, "PusherRoom") ∈ mNest := List.mem_of_getElem? (i := 12) rfl
theorem n_X4_31 : (RX4, 31, yX11_longAt, "PusherRoom") ∈ mNest := List.mem_of_getElem? (i := 13) rfl
theorem n_X4_39 : (RX4, 39, yX11_has, "PusherRoom") ∈ mNest := List.mem_of_getElem? (i := 23) rfl
theorem n_X5_26 : (RX5, 26, yX11_setInt, "PusherRoom") ∈ mNest := List.mem_of_getElem? (i := 8) rfl
theorem n_X5_36 : (RX5, 36, yX11_has, "PusherRoom") ∈ mNest := List.mem_of_getElem? (i := 7) rfl
theorem n_X5_44 : (RX5, 44, yX11_intAt, "PusherRoom") ∈ mNest := List.mem_of_getElem? (i := 10) rfl
theorem n_X5_51 : (RX5, 51, yX11_bit, "PusherRoom") ∈ mNest := List.mem_of_getElem? (i := 9) rfl
theorem n_X6_33 : (RX6, 33, yX11_bit, "PusherRoom") ∈ mNest := List.mem_of_getElem? (i := 4) rfl
theorem n_X6_56 : (RX6, 56, yX11_lowest, "PusherRoom") ∈ mNest := List.mem_of_getElem? (i := 15) rfl
theorem n_X6_71 : (RX6, 71, yX11_opposite, "PusherRoom") ∈ mNest := List.mem_of_getElem? (i := 22) rfl
theorem n_X7_68 : (RX7, 68, yX11_bit, "PusherRoom") ∈ mNest := List.mem_of_getElem? (i := 0) rfl
theorem n_X8_49 : (RX8, 49, yX11_setInt, "PusherRoom") ∈ mNest := List.mem_of_getElem? (i := 25) rfl
theorem n_X8_62 : (RX8, 62, yX11_lowest, "PusherRoom") ∈ mNest := List.mem_of_getElem? (i := 26) rfl
theorem n_X8_74 : (RX8, 74, yX11_longAt, "PusherRoom") ∈ mNest := List.mem_of_getElem? (i := 28) rfl
theorem n_X8_85 : (RX8, 85, yX11_intAt, "PusherRoom") ∈ mNest := List.mem_of_getElem? (i := 27) rfl
theorem n_X8_89 : (RX8, 89, yX11_bit, "PusherRoom") ∈ mNest := List.mem_of_getElem? (i := 30) rfl
theorem n_X8_100 : (RX8, 100, yX11_has, "PusherRoom") ∈ mNest := List.mem_of_getElem? (i := 31) rfl
theorem n_X8_112 : (RX8, 112, yX11_opposite, "PusherRoom") ∈ mNest := List.mem_of_getElem? (i := 32) rfl
theorem n_X8_123 : (RX8, 123, yX11_setLong, "PusherRoom") ∈ mNest := List.mem_of_getElem? (i := 29) rfl
theorem n_X9_38 : (RX9, 38, yX11_setInt, "PusherRoom") ∈ mNest := List.mem_of_getElem? (i := 33) rfl
theorem n_X9_45 : (RX9, 45, yX11_intAt, "PusherRoom") ∈ mNest := List.mem_of_getElem? (i := 34) rfl
theorem k_X1_36 : Cond.constantLong RX1 36 (-1) ∈ mTBL := mTBL_of (tb_4 _ (List.mem_of_getElem? (i := 39) rfl)) rfl
theorem k_X2_48 : Cond.constantLong RX2 48 (-1) ∈ mTBL := mTBL_of (tb_3 _ (List.mem_of_getElem? (i := 145) rfl)) rfl
theorem k_X4_29 : Cond.constantLong RX4 29 (-1) ∈ mTBL := mTBL_of (tb_4 _ (List.mem_of_getElem? (i := 165) rfl)) rfl
theorem k_X5_59 : Cond.constantLong RX5 59 (-1) ∈ mTBL := mTBL_of (tb_4 _ (List.mem_of_getElem? (i := 111) rfl)) rfl
theorem k_X6_28 : Cond.constantLong RX6 28 (-1) ∈ mTBL := mTBL_of (tb_3 _ (List.mem_of_getElem? (i := 225) rfl)) rfl
theorem k_X8_83 : Cond.constantLong RX8 83 (-1) ∈ mTBL := mTBL_of (tb_5 _ (List.mem_of_getElem? (i := 195) rfl)) rfl
theorem k_X8_127 : Cond.constantLong RX8 127 (-7046029254386353131) ∈ mTBL := mTBL_of (tb_5 _ (List.mem_of_getElem? (i := 187) rfl)) rfl
theorem k_J13_314 : Cond.constantLong RJ13 314 (6148914691236517205) ∈ mTBL := mTBL_of (tb_3 _ (List.mem_of_getElem? (i := 161) rfl)) rfl
theorem k_J13_316 : Cond.constantLong RJ13 316 (3689348814741910323) ∈ mTBL := mTBL_of (tb_3 _ (List.mem_of_getElem? (i := 162) rfl)) rfl
theorem k_J13_318 : Cond.constantLong RJ13 318 (1085102592571150095) ∈ mTBL := mTBL_of (tb_3 _ (List.mem_of_getElem? (i := 163) rfl)) rfl
end
section
/-! further rules of the plain machine: compares of longs, booleans, ends, forgetting locals, worlds -/
def bI (b : Bool) : Int32 := if b then 1 else 0
theorem bI_t : bI true = 1 := rfl
theorem bI_f : bI false = 0 := rfl
theorem bI_0 {b : Bool} : bI b = 0 ↔ b = false := by cases b <;> decide
theorem bI_and (b : Bool) : bI b &&& 1 = bI b := by cases b <;> decide
theorem lg_cmp_0 (x y : Int64) : lg_cmp x y = 0 ↔ x = y := by
  unfold lg_cmp
  by_cases h : x > y
  · rw [if_pos h]
    constructor
    · intro q; exact absurd q (by decide)
    · intro q; subst q; exact absurd h (by simp)
  · rw [if_neg h]
    by_cases h2 : x = y
    · rw [if_pos h2]; simp [h2]
    · rw [if_neg h2]
      constructor
      · intro q; exact absurd q (by decide)
      · intro q; exact absurd q h2
theorem mget_eq {w : mW} {i : Nat} {c0 c : mE} (h : mget w i = some c0) : mget (mset w i c) i = some c := by
  unfold mget at h
  unfold mget mset
  by_cases hi : i < 100
  · rw [if_pos hi] at h ⊢
    rw [if_pos hi]
    have := (List.getElem?_eq_some_iff.mp h).1
    simp [List.getElem?_set, this]
  · rw [if_neg hi] at h ⊢
    rw [if_neg hi]
    have := (List.getElem?_eq_some_iff.mp h).1
    simp [List.getElem?_set, this]
theorem mget_ne {w : mW} {i j : Nat} {c : mE} (h : i ≠ j) : mget (mset w i c) j = mget w j := by
  unfold mget mset
  by_cases hi : i < 100 <;> by_cases hj : j < 100
  · simp [hi, hj, h]
  · simp [hi, hj]
  · simp [hi, hj]
  · simp only [if_neg hi, if_neg hj]
    rw [List.getElem?_set_ne (by omega)]
theorem mset_mset {w : mW} {i : Nat} {c d : mE} : mset (mset w i c) i d = mset w i d := by
  unfold mset
  by_cases hi : i < 100
  · simp [hi]
  · simp [hi]
theorem mset_self {w : mW} {i : Nat} {c : mE} (h : mget w i = some c) : mset w i c = w := by
  unfold mget at h
  unfold mset
  by_cases hi : i < 100
  · rw [if_pos hi] at h ⊢
    obtain ⟨hl, e⟩ := List.getElem?_eq_some_iff.mp h
    rw [← e, List.set_getElem_self]
  · rw [if_neg hi] at h ⊢
    obtain ⟨hl, e⟩ := List.getElem?_eq_some_iff.mp h
    rw [← e, List.set_getElem_self]
theorem mset_comm {w : mW} {i j : Nat} {c d : mE} (h : i ≠ j) : mset (mset w i c) j d = mset (mset w j d) i c := by
  unfold mset
  by_cases hi : i < 100 <;> by_cases hj : j < 100
  · simp only [if_pos hi, if_pos hj]; rw [List.set_comm _ _ h]
  · simp [hi, hj]
  · simp [hi, hj]
  · simp only [if_neg hi, if_neg hj]; rw [List.set_comm _ _ (by omega)]
/-- less is known of the locals -/
def mdrop (ks : List Nat) : Nat → List (Option Value) → List (Option Value)
  | _, [] => []
  | j, o :: t => (if ks.contains j then none else o) :: mdrop ks (j + 1) t
theorem mdrop_len (ks : List Nat) : ∀ (L : List (Option Value)) (j : Nat), (mdrop ks j L).length = L.length := by
  intro L
  induction L with
  | nil => intro j; rfl
  | cons o t ih => intro j; simp [mdrop, ih]
theorem mdrop_get (ks : List Nat) : ∀ (L : List (Option Value)) (j i : Nat) (v : Value), (mdrop ks j L)[i]? = some (some v) → L[i]? = some (some v) := by
  intro L
  induction L with
  | nil => intro j i v h; simp [mdrop] at h
  | cons o t ih =>
    intro j i v h
    cases i with
    | zero =>
      simp only [mdrop, List.getElem?_cons_zero] at h ⊢
      split at h
      · simp at h
      · exact h
    | succ n =>
      simp only [mdrop, List.getElem?_cons_succ] at h ⊢
      exact ih (j + 1) n v h
section MORE
variable {E : mEnv} {y : mM} {n pc : Nat} {L : List (Option Value)} {st : List Value} {w w' : mW} {G : mG}
theorem g_drop (ks : List Nat) {L1 : List (Option Value)} (h : mdrop ks 0 L = L1) (k : Go E y n (pc, L1, st, w) G) : Go E y n (pc, L, st, w) G := by
  intro ad p e R s m args below meth c A C cells slots QQ hc hs hT H locs ls hw hl
  subst h
  exact k ad p e R s m args below meth c A C cells slots QQ hc hs hT H locs ls hw ⟨hl.1, hl.2.1, (mdrop_len ks L 0).trans hl.2.2.1, fun i v h => hl.2.2.2 i v (mdrop_get ks L 0 i v h)⟩
theorem g_eq {S S' : mS} (h : S = S') (k : Go E y n S' G) : Go E y n S G := h ▸ k
theorem g_lcmp_eq {a b : Int64} {off : Int} {tgt : Nat} (d0 : decode (mB y) pc = .ok (.lcmp, 1)) (d : decode (mB y) (pc + 1) = .ok (.ifCond .eq off, 3)) (ht : ((pc + 1 : Nat) : Int) + off = (tgt : Int)) (kt : a = b → Go E y n (tgt, L, st, w) G) (kf : ¬ a = b → Go E y n (pc + 4, L, st, w) G) : Go E y n (pc, L, .long b :: .long a :: st, w) G :=
  g_lcmp d0 (g_if_eq d ht (fun h => kt ((lg_cmp_0 a b).mp h)) (fun h => kf (fun q => h ((lg_cmp_0 a b).mpr q))))
theorem g_lcmp_ne {a b : Int64} {off : Int} {tgt : Nat} (d0 : decode (mB y) pc = .ok (.lcmp, 1)) (d : decode (mB y) (pc + 1) = .ok (.ifCond .ne off, 3)) (ht : ((pc + 1 : Nat) : Int) + off = (tgt : Int)) (kt : ¬ a = b → Go E y n (tgt, L, st, w) G) (kf : a = b → Go E y n (pc + 4, L, st, w) G) : Go E y n (pc, L, .long b :: .long a :: st, w) G :=
  g_lcmp d0 (g_if_ne d ht (fun h => kt (fun q => h ((lg_cmp_0 a b).mpr q))) (fun h => kf ((lg_cmp_0 a b).mp h)))
theorem g_ifb_eq {b : Bool} {off : Int} {tgt : Nat} (d : decode (mB y) pc = .ok (.ifCond .eq off, 3)) (ht : (pc : Int) + off = (tgt : Int)) (kt : b = false → Go E y n (tgt, L, st, w) G) (kf : b = true → Go E y n (pc + 3, L, st, w) G) : Go E y n (pc, L, .int (bI b) :: st, w) G :=
  g_if_eq d ht (fun h => kt (bI_0.mp h)) (fun h => kf (by cases b with | false => exact absurd rfl h | true => rfl))
theorem g_ifb_ne {b : Bool} {off : Int} {tgt : Nat} (d : decode (mB y) pc = .ok (.ifCond .ne off, 3)) (ht : (pc : Int) + off = (tgt : Int)) (kt : b = true → Go E y n (tgt, L, st, w) G) (kf : b = false → Go E y n (pc + 3, L, st, w) G) : Go E y n (pc, L, .int (bI b) :: st, w) G :=
  g_if_ne d ht (fun h => kt (by cases b with | false => exact absurd rfl h | true => rfl)) (fun h => kf (bI_0.mp h))
theorem g_retI {x : Int32} {v : Option Value} (d : decode (mB y) pc = .ok (.ireturn, 1)) (hT : mT y = some .int) (hv : some (.int x) = v) (hw : w = w') : Go E y n (pc, L, [.int x], w) (.inr (.inl (v, w'))) := by
  subst hv; subst hw
  exact g_ret d (Or.inl ⟨rfl, _, _, hT, rfl, rfl⟩) rfl
theorem g_retZ {x : Int32} {v : Option Value} (d : decode (mB y) pc = .ok (.ireturn, 1)) (hT : mT y = some .boolean) (hx : x &&& 1 = x) (hv : some (.int x) = v) (hw : w = w') : Go E y n (pc, L, [.int x], w) (.inr (.inl (v, w'))) := by
  subst hv; subst hw
  exact g_ret d (Or.inl ⟨rfl, _, _, hT, rfl, by show Value.int (x &&& 1) = _; rw [hx]⟩) rfl
theorem g_retC {x : Int32} {v : Option Value} (d : decode (mB y) pc = .ok (.ireturn, 1)) (hT : mT y = some .char) (hx : narrow .char (.int x) = .int x) (hv : some (.int x) = v) (hw : w = w') : Go E y n (pc, L, [.int x], w) (.inr (.inl (v, w'))) := by
  subst hv; subst hw
  exact g_ret d (Or.inl ⟨rfl, _, _, hT, rfl, hx⟩) rfl
theorem g_retL {x : Int64} {v : Option Value} (d : decode (mB y) pc = .ok (.lreturn, 1)) (hT : mT y = some .long) (hv : some (.long x) = v) (hw : w = w') : Go E y n (pc, L, [.long x], w) (.inr (.inl (v, w'))) := by
  subst hv; subst hw
  exact g_ret d (Or.inr (Or.inl ⟨rfl, hT, _, rfl⟩)) rfl
theorem g_retV (d : decode (mB y) pc = .ok (.return_, 1)) (hT : mT y = none) (hw : w = w') : Go E y n (pc, L, [], w) (.inr (.inl (none, w'))) := by
  subst hw
  exact g_ret d (Or.inr (Or.inr ⟨rfl, hT, rfl⟩)) rfl
end MORE
/-! shifts of longs as the machine writes them -/
def jshl (a : Int64) (b : Int32) : Int64 := a <<< (b.toInt64 &&& 63)
def jshr (a : Int64) (b : Int32) : Int64 := a >>> (b.toInt64 &&& 63)
def jushr (a : Int64) (b : Int32) : Int64 := (a.toUInt64 >>> (b.toInt64.toUInt64 &&& Int64.toUInt64 63)).toInt64
theorem nar_bI (b : Bool) : narrow .boolean (.int (bI b)) = .int (bI b) := by cases b <;> rfl
theorem fit_bI (b : Bool) : fits .boolean (.int (bI b)) = true := by cases b <;> rfl
end
section
/-! class PusherRoom: cells, codes and rows (static methods) -/
theorem d_X11_bit_0 : decode (mB M_X11_bit) 0 = .ok (.lconst 1, 1) := by decide +kernel
theorem d_X11_bit_1 : decode (mB M_X11_bit) 1 = .ok (.iload_n 0, 1) := by decide +kernel
theorem d_X11_bit_2 : decode (mB M_X11_bit) 2 = .ok (.lshl, 1) := by decide +kernel
theorem d_X11_bit_3 : decode (mB M_X11_bit) 3 = .ok (.lreturn, 1) := by decide +kernel
theorem c_bit {E : mEnv} (hE : E.1.stackTraces = false) (c : Int32) (w : mW) : Rt E M_X11_bit 0 [.int c] w (some (.long (jshl 1 c))) w := by
  refine Rt.of hE rfl pn_X11 (Nat.le_of_ble_eq_true rfl) ?_
  refine g_eq (S' := (0, [some (.int c)], [], w)) rfl ?_
  refine g_lconst (v := 1) d_X11_bit_0 (by decide) ?_
  refine g_iload_n d_X11_bit_1 rfl ?_
  refine g_lshl (v := (jshl 1 c)) d_X11_bit_2 rfl ?_
  exact g_retL d_X11_bit_3 rfl (rfl) (rfl)
def hasF (s : Int64) (c : Int32) : Bool := if c < 0 then false else if 64 ≤ c then false else !decide (s &&& jshl 1 c = 0)
theorem d_X11_has_0 : decode (mB M_X11_has) 0 = .ok (.iload_n 2, 1) := by decide +kernel
theorem d_X11_has_1 : decode (mB M_X11_has) 1 = .ok (.ifCond .lt 24, 3) := by decide +kernel
theorem d_X11_has_4 : decode (mB M_X11_has) 4 = .ok (.iload_n 2, 1) := by decide +kernel
theorem d_X11_has_5 : decode (mB M_X11_has) 5 = .ok (.bipush 64, 2) := by decide +kernel
theorem d_X11_has_7 : decode (mB M_X11_has) 7 = .ok (.if_icmp .ge 18, 3) := by decide +kernel
theorem d_X11_has_10 : decode (mB M_X11_has) 10 = .ok (.lload_n 0, 1) := by decide +kernel
theorem d_X11_has_11 : decode (mB M_X11_has) 11 = .ok (.iload_n 2, 1) := by decide +kernel
theorem d_X11_has_12 : decode (mB M_X11_has) 12 = .ok (.invokestatic 229, 3) := by decide +kernel
theorem d_X11_has_15 : decode (mB M_X11_has) 15 = .ok (.land, 1) := by decide +kernel
theorem d_X11_has_16 : decode (mB M_X11_has) 16 = .ok (.lconst 0, 1) := by decide +kernel
theorem d_X11_has_17 : decode (mB M_X11_has) 17 = .ok (.lcmp, 1) := by decide +kernel
theorem d_X11_has_18 : decode (mB M_X11_has) 18 = .ok (.ifCond .eq 7, 3) := by decide +kernel
theorem d_X11_has_21 : decode (mB M_X11_has) 21 = .ok (.iconst 1, 1) := by decide +kernel
theorem d_X11_has_22 : decode (mB M_X11_has) 22 = .ok (.goto 4, 3) := by decide +kernel
theorem d_X11_has_25 : decode (mB M_X11_has) 25 = .ok (.iconst 0, 1) := by decide +kernel
theorem d_X11_has_26 : decode (mB M_X11_has) 26 = .ok (.ireturn, 1) := by decide +kernel
theorem c_has {E : mEnv} (hE : E.1.stackTraces = false) (s : Int64) (c : Int32) (w : mW) : Rt E M_X11_has 0 [.long s, .int c] w (some (.int (bI (hasF s c)))) w := by
  refine Rt.of hE rfl pn_X11 (Nat.le_of_ble_eq_true rfl) ?_
  refine g_eq (S' := (0, [some (.long s), none, some (.int c)], [], w)) rfl ?_
  refine g_iload_n d_X11_has_0 rfl ?_
  refine g_if_lt (tgt := 25) d_X11_has_1 (by decide) (fun c_1 => ?_) (fun c_1 => ?_)
  · refine g_iconst (v := 0) d_X11_has_25 (by decide) ?_
    exact g_retZ d_X11_has_26 rfl (by decide) (by simp [hasF, bI, *]) (rfl)
  · refine g_iload_n d_X11_has_4 rfl ?_
    refine g_bipush (v := 64) d_X11_has_5 (by decide) ?_
    refine g_icmp_ge (tgt := 25) d_X11_has_7 (by decide) (fun c_7 => ?_) (fun c_7 => ?_)
    · refine g_iconst (v := 0) d_X11_has_25 (by decide) ?_
      exact g_retZ d_X11_has_26 rfl (by decide) (by simp [hasF, bI, *]) (rfl)
    · refine g_lload_n d_X11_has_10 rfl ?_
      refine g_iload_n d_X11_has_11 rfl ?_
      refine g_callS (As := [.int c]) d_X11_has_12 o_X11_bit l_X11_229 ⟨Nat.le_of_ble_eq_true rfl, Nat.le_of_ble_eq_true rfl⟩ (c_bit hE c w) rfl rfl ?_ (Nat.zero_add _)
      refine g_land d_X11_has_15 ?_
      refine g_lconst (v := 0) d_X11_has_16 (by decide) ?_
      refine g_lcmp_eq (tgt := 25) d_X11_has_17 d_X11_has_18 (by decide) (fun c_17 => ?_) (fun c_17 => ?_)
      · refine g_iconst (v := 0) d_X11_has_25 (by decide) ?_
        exact g_retZ d_X11_has_26 rfl (by decide) (by simp [hasF, bI, *]) (rfl)
      · refine g_iconst (v := 1) d_X11_has_21 (by decide) ?_
        refine g_goto (tgt := 26) d_X11_has_22 (by decide) ?_
        exact g_retZ d_X11_has_26 rfl (by decide) (by simp [hasF, bI, *]) (rfl)
theorem d_X11_opposite_0 : decode (mB M_X11_opposite) 0 = .ok (.iload_n 0, 1) := by decide +kernel
theorem d_X11_opposite_1 : decode (mB M_X11_opposite) 1 = .ok (.iconst 2, 1) := by decide +kernel
theorem d_X11_opposite_2 : decode (mB M_X11_opposite) 2 = .ok (.iadd, 1) := by decide +kernel
theorem d_X11_opposite_3 : decode (mB M_X11_opposite) 3 = .ok (.iconst 3, 1) := by decide +kernel
theorem d_X11_opposite_4 : decode (mB M_X11_opposite) 4 = .ok (.iand, 1) := by decide +kernel
theorem d_X11_opposite_5 : decode (mB M_X11_opposite) 5 = .ok (.ireturn, 1) := by decide +kernel
theorem c_opposite {E : mEnv} (hE : E.1.stackTraces = false) (d : Int32) (w : mW) : Rt E M_X11_opposite 0 [.int d] w (some (.int ((d + 2) &&& 3))) w := by
  refine Rt.of hE rfl pn_X11 (Nat.le_of_ble_eq_true rfl) ?_
  refine g_eq (S' := (0, [some (.int d)], [], w)) rfl ?_
  refine g_iload_n d_X11_opposite_0 rfl ?_
  refine g_iconst (v := 2) d_X11_opposite_1 (by decide) ?_
  refine g_iadd d_X11_opposite_2 ?_
  refine g_iconst (v := 3) d_X11_opposite_3 (by decide) ?_
  refine g_iand d_X11_opposite_4 ?_
  exact g_retI d_X11_opposite_5 rfl (rfl) (rfl)
theorem d_X11_isPushCode_0 : decode (mB M_X11_isPushCode) 0 = .ok (.iload_n 0, 1) := by decide +kernel
theorem d_X11_isPushCode_1 : decode (mB M_X11_isPushCode) 1 = .ok (.iconst 4, 1) := by decide +kernel
theorem d_X11_isPushCode_2 : decode (mB M_X11_isPushCode) 2 = .ok (.if_icmp .lt 7, 3) := by decide +kernel
theorem d_X11_isPushCode_5 : decode (mB M_X11_isPushCode) 5 = .ok (.iconst 1, 1) := by decide +kernel
theorem d_X11_isPushCode_6 : decode (mB M_X11_isPushCode) 6 = .ok (.goto 4, 3) := by decide +kernel
theorem d_X11_isPushCode_9 : decode (mB M_X11_isPushCode) 9 = .ok (.iconst 0, 1) := by decide +kernel
theorem d_X11_isPushCode_10 : decode (mB M_X11_isPushCode) 10 = .ok (.ireturn, 1) := by decide +kernel
theorem c_isPushCode {E : mEnv} (hE : E.1.stackTraces = false) (d : Int32) (w : mW) : Rt E M_X11_isPushCode 0 [.int d] w (some (.int (bI (decide (4 ≤ d))))) w := by
  refine Rt.of hE rfl pn_X11 (Nat.le_of_ble_eq_true rfl) ?_
  refine g_eq (S' := (0, [some (.int d)], [], w)) rfl ?_
  refine g_iload_n d_X11_isPushCode_0 rfl ?_
  refine g_iconst (v := 4) d_X11_isPushCode_1 (by decide) ?_
  refine g_icmp_lt (tgt := 9) d_X11_isPushCode_2 (by decide) (fun c_2 => ?_) (fun c_2 => ?_)
  · refine g_iconst (v := 0) d_X11_isPushCode_9 (by decide) ?_
    exact g_retZ d_X11_isPushCode_10 rfl (by decide) (by simp_all [bI]) (rfl)
  · refine g_iconst (v := 1) d_X11_isPushCode_5 (by decide) ?_
    refine g_goto (tgt := 10) d_X11_isPushCode_6 (by decide) ?_
    exact g_retZ d_X11_isPushCode_10 rfl (by decide) (by simp_all [bI]) (rfl)
theorem d_X11_directionOf_0 : decode (mB M_X11_directionOf) 0 = .ok (.iload_n 0, 1) := by decide +kernel
theorem d_X11_directionOf_1 : decode (mB M_X11_directionOf) 1 = .ok (.iconst 3, 1) := by decide +kernel
theorem d_X11_directionOf_2 : decode (mB M_X11_directionOf) 2 = .ok (.iand, 1) := by decide +kernel
theorem d_X11_directionOf_3 : decode (mB M_X11_directionOf) 3 = .ok (.ireturn, 1) := by decide +kernel
theorem c_directionOf {E : mEnv} (hE : E.1.stackTraces = false) (d : Int32) (w : mW) : Rt E M_X11_directionOf 0 [.int d] w (some (.int (d &&& 3))) w := by
  refine Rt.of hE rfl pn_X11 (Nat.le_of_ble_eq_true rfl) ?_
  refine g_eq (S' := (0, [some (.int d)], [], w)) rfl ?_
  refine g_iload_n d_X11_directionOf_0 rfl ?_
  refine g_iconst (v := 3) d_X11_directionOf_1 (by decide) ?_
  refine g_iand d_X11_directionOf_2 ?_
  exact g_retI d_X11_directionOf_3 rfl (rfl) (rfl)
theorem d_X11_codeOf_0 : decode (mB M_X11_codeOf) 0 = .ok (.iload_n 1, 1) := by decide +kernel
theorem d_X11_codeOf_1 : decode (mB M_X11_codeOf) 1 = .ok (.ifCond .eq 9, 3) := by decide +kernel
theorem d_X11_codeOf_4 : decode (mB M_X11_codeOf) 4 = .ok (.iload_n 0, 1) := by decide +kernel
theorem d_X11_codeOf_5 : decode (mB M_X11_codeOf) 5 = .ok (.iconst 4, 1) := by decide +kernel
theorem d_X11_codeOf_6 : decode (mB M_X11_codeOf) 6 = .ok (.iadd, 1) := by decide +kernel
theorem d_X11_codeOf_7 : decode (mB M_X11_codeOf) 7 = .ok (.goto 4, 3) := by decide +kernel
theorem d_X11_codeOf_10 : decode (mB M_X11_codeOf) 10 = .ok (.iload_n 0, 1) := by decide +kernel
theorem d_X11_codeOf_11 : decode (mB M_X11_codeOf) 11 = .ok (.ireturn, 1) := by decide +kernel
theorem c_codeOf {E : mEnv} (hE : E.1.stackTraces = false) (d : Int32) (p : Bool) (w : mW) : Rt E M_X11_codeOf 0 [.int d, .int ((bI p))] w (some (.int (if p then d + 4 else d))) w := by
  refine Rt.of hE rfl pn_X11 (Nat.le_of_ble_eq_true rfl) ?_
  refine g_eq (S' := (0, [some (.int d), some (.int (bI p))], [], w)) rfl ?_
  refine g_iload_n d_X11_codeOf_0 rfl ?_
  refine g_ifb_eq (tgt := 10) d_X11_codeOf_1 (by decide) (fun c_1 => ?_) (fun c_1 => ?_)
  · refine g_iload_n d_X11_codeOf_10 rfl ?_
    exact g_retI d_X11_codeOf_11 rfl (by simp [*]) (rfl)
  · refine g_iload_n d_X11_codeOf_4 rfl ?_
    refine g_iconst (v := 4) d_X11_codeOf_5 (by decide) ?_
    refine g_iadd d_X11_codeOf_6 ?_
    refine g_goto (tgt := 11) d_X11_codeOf_7 (by decide) ?_
    exact g_retI d_X11_codeOf_11 rfl (by simp [*]) (rfl)
def intAtF (n : Nat) (f : Nat → Int32) (i : Int32) : Int32 := if i < 0 then 0 else if nI n ≤ i then 0 else f i.toNatClampNeg
theorem vp_in_of2 {n : Nat} {i : Int32} (hn : n < 2 ^ 31) (h0 : ¬ i < 0) (h1 : ¬ nI n ≤ i) : vp_in i n := by
  obtain ⟨j, hj, rfl⟩ := nI_of h0
  refine vp_in_nI ?_ hn
  rcases Nat.lt_or_ge j n with h | h
  · exact h
  · exact absurd (nI_le h hj) h1
theorem d_X11_intAt_0 : decode (mB M_X11_intAt) 0 = .ok (.iload_n 1, 1) := by decide +kernel
theorem d_X11_intAt_1 : decode (mB M_X11_intAt) 1 = .ok (.ifCond .lt 15, 3) := by decide +kernel
theorem d_X11_intAt_4 : decode (mB M_X11_intAt) 4 = .ok (.iload_n 1, 1) := by decide +kernel
theorem d_X11_intAt_5 : decode (mB M_X11_intAt) 5 = .ok (.aload_n 0, 1) := by decide +kernel
theorem d_X11_intAt_6 : decode (mB M_X11_intAt) 6 = .ok (.arraylength, 1) := by decide +kernel
theorem d_X11_intAt_7 : decode (mB M_X11_intAt) 7 = .ok (.if_icmp .ge 9, 3) := by decide +kernel
theorem d_X11_intAt_10 : decode (mB M_X11_intAt) 10 = .ok (.aload_n 0, 1) := by decide +kernel
theorem d_X11_intAt_11 : decode (mB M_X11_intAt) 11 = .ok (.iload_n 1, 1) := by decide +kernel
theorem d_X11_intAt_12 : decode (mB M_X11_intAt) 12 = .ok (.iaload, 1) := by decide +kernel
theorem d_X11_intAt_13 : decode (mB M_X11_intAt) 13 = .ok (.goto 4, 3) := by decide +kernel
theorem d_X11_intAt_16 : decode (mB M_X11_intAt) 16 = .ok (.iconst 0, 1) := by decide +kernel
theorem d_X11_intAt_17 : decode (mB M_X11_intAt) 17 = .ok (.ireturn, 1) := by decide +kernel
theorem c_intAt {E : mEnv} (hE : E.1.stackTraces = false) (r n : Nat) (f : Nat → Int32) (i : Int32) (w : mW) (hn : n < 2 ^ 31) (ha : mget w r = some (.inl (0, n, .inl f))) : Rt E M_X11_intAt 0 [.ref r, .int i] w (some (.int (intAtF n f i))) w := by
  refine Rt.of hE rfl pn_X11 (Nat.le_of_ble_eq_true rfl) ?_
  refine g_eq (S' := (0, [some (.ref r), some (.int i)], [], w)) rfl ?_
  refine g_iload_n d_X11_intAt_0 rfl ?_
  refine g_if_lt (tgt := 16) d_X11_intAt_1 (by decide) (fun c_1 => ?_) (fun c_1 => ?_)
  · refine g_iconst (v := 0) d_X11_intAt_16 (by decide) ?_
    exact g_retI d_X11_intAt_17 rfl (by simp [intAtF, *]) (rfl)
  · refine g_iload_n d_X11_intAt_4 rfl ?_
    refine g_aload_n d_X11_intAt_5 rfl ?_
    refine g_alen (v := nI n) d_X11_intAt_6 ha (by decide) rfl ?_
    refine g_icmp_ge (tgt := 16) d_X11_intAt_7 (by decide) (fun c_7 => ?_) (fun c_7 => ?_)
    · refine g_iconst (v := 0) d_X11_intAt_16 (by decide) ?_
      exact g_retI d_X11_intAt_17 rfl (by simp [intAtF, *]) (rfl)
    · refine g_aload_n d_X11_intAt_10 rfl ?_
      refine g_iload_n d_X11_intAt_11 rfl ?_
      refine g_iald d_X11_intAt_12 ha (vp_in_of2 hn c_1 c_7) ?_
      refine g_goto (tgt := 17) d_X11_intAt_13 (by decide) ?_
      exact g_retI d_X11_intAt_17 rfl (by simp [intAtF, *]) (rfl)
def setIntF (n : Nat) (f : Nat → Int32) (i : Int32) (x : Int32) : Nat → Int32 := if i < 0 then f else if nI n ≤ i then f else upd f i.toNatClampNeg x
theorem d_X11_setInt_0 : decode (mB M_X11_setInt) 0 = .ok (.iload_n 1, 1) := by decide +kernel
theorem d_X11_setInt_1 : decode (mB M_X11_setInt) 1 = .ok (.ifCond .lt 13, 3) := by decide +kernel
theorem d_X11_setInt_4 : decode (mB M_X11_setInt) 4 = .ok (.iload_n 1, 1) := by decide +kernel
theorem d_X11_setInt_5 : decode (mB M_X11_setInt) 5 = .ok (.aload_n 0, 1) := by decide +kernel
theorem d_X11_setInt_6 : decode (mB M_X11_setInt) 6 = .ok (.arraylength, 1) := by decide +kernel
theorem d_X11_setInt_7 : decode (mB M_X11_setInt) 7 = .ok (.if_icmp .ge 7, 3) := by decide +kernel
theorem d_X11_setInt_10 : decode (mB M_X11_setInt) 10 = .ok (.aload_n 0, 1) := by decide +kernel
theorem d_X11_setInt_11 : decode (mB M_X11_setInt) 11 = .ok (.iload_n 1, 1) := by decide +kernel
theorem d_X11_setInt_12 : decode (mB M_X11_setInt) 12 = .ok (.iload_n 2, 1) := by decide +kernel
theorem d_X11_setInt_13 : decode (mB M_X11_setInt) 13 = .ok (.iastore, 1) := by decide +kernel
theorem d_X11_setInt_14 : decode (mB M_X11_setInt) 14 = .ok (.return_, 1) := by decide +kernel
theorem c_setInt {E : mEnv} (hE : E.1.stackTraces = false) (r n : Nat) (f : Nat → Int32) (i : Int32) (x : Int32) (w : mW) (hn : n < 2 ^ 31) (ha : mget w r = some (.inl (0, n, .inl f))) : Rt E M_X11_setInt 0 [.ref r, .int i, .int x] w none ((mset w r (.inl (0, n, .inl (setIntF n f i x))))) := by
  refine Rt.of hE rfl pn_X11 (Nat.le_of_ble_eq_true rfl) ?_
  refine g_eq (S' := (0, [some (.ref r), some (.int i), some (.int x)], [], w)) rfl ?_
  refine g_iload_n d_X11_setInt_0 rfl ?_
  refine g_if_lt (tgt := 14) d_X11_setInt_1 (by decide) (fun c_1 => ?_) (fun c_1 => ?_)
  · exact g_retV d_X11_setInt_14 rfl (by simp [setIntF, *, mset_self ha])
  · refine g_iload_n d_X11_setInt_4 rfl ?_
    refine g_aload_n d_X11_setInt_5 rfl ?_
    refine g_alen (v := nI n) d_X11_setInt_6 ha (by decide) rfl ?_
    refine g_icmp_ge (tgt := 14) d_X11_setInt_7 (by decide) (fun c_7 => ?_) (fun c_7 => ?_)
    · exact g_retV d_X11_setInt_14 rfl (by simp [setIntF, *, mset_self ha])
    · refine g_aload_n d_X11_setInt_10 rfl ?_
      refine g_iload_n d_X11_setInt_11 rfl ?_
      refine g_iload_n d_X11_setInt_12 rfl ?_
      refine g_iast d_X11_setInt_13 ha (vp_in_of2 hn c_1 c_7) rfl ?_
      exact g_retV d_X11_setInt_14 rfl (by simp [setIntF, *])
def longAtF (n : Nat) (f : Nat → Int64) (i : Int32) : Int64 := if i < 0 then 0 else if nI n ≤ i then 0 else f i.toNatClampNeg
theorem d_X11_longAt_0 : decode (mB M_X11_longAt) 0 = .ok (.iload_n 1, 1) := by decide +kernel
theorem d_X11_longAt_1 : decode (mB M_X11_longAt) 1 = .ok (.ifCond .lt 15, 3) := by decide +kernel
theorem d_X11_longAt_4 : decode (mB M_X11_longAt) 4 = .ok (.iload_n 1, 1) := by decide +kernel
theorem d_X11_longAt_5 : decode (mB M_X11_longAt) 5 = .ok (.aload_n 0, 1) := by decide +kernel
theorem d_X11_longAt_6 : decode (mB M_X11_longAt) 6 = .ok (.arraylength, 1) := by decide +kernel
theorem d_X11_longAt_7 : decode (mB M_X11_longAt) 7 = .ok (.if_icmp .ge 9, 3) := by decide +kernel
theorem d_X11_longAt_10 : decode (mB M_X11_longAt) 10 = .ok (.aload_n 0, 1) := by decide +kernel
theorem d_X11_longAt_11 : decode (mB M_X11_longAt) 11 = .ok (.iload_n 1, 1) := by decide +kernel
theorem d_X11_longAt_12 : decode (mB M_X11_longAt) 12 = .ok (.laload, 1) := by decide +kernel
theorem d_X11_longAt_13 : decode (mB M_X11_longAt) 13 = .ok (.goto 4, 3) := by decide +kernel
theorem d_X11_longAt_16 : decode (mB M_X11_longAt) 16 = .ok (.lconst 0, 1) := by decide +kernel
theorem d_X11_longAt_17 : decode (mB M_X11_longAt) 17 = .ok (.lreturn, 1) := by decide +kernel
theorem c_longAt {E : mEnv} (hE : E.1.stackTraces = false) (r n : Nat) (f : Nat → Int64) (i : Int32) (w : mW) (hn : n < 2 ^ 31) (ha : mget w r = some (.inl (1, n, .inr (.inl f)))) : Rt E M_X11_longAt 0 [.ref r, .int i] w (some (.long (longAtF n f i))) w := by
  refine Rt.of hE rfl pn_X11 (Nat.le_of_ble_eq_true rfl) ?_
  refine g_eq (S' := (0, [some (.ref r), some (.int i)], [], w)) rfl ?_
  refine g_iload_n d_X11_longAt_0 rfl ?_
  refine g_if_lt (tgt := 16) d_X11_longAt_1 (by decide) (fun c_1 => ?_) (fun c_1 => ?_)
  · refine g_lconst (v := 0) d_X11_longAt_16 (by decide) ?_
    exact g_retL d_X11_longAt_17 rfl (by simp [longAtF, *]) (rfl)
  · refine g_iload_n d_X11_longAt_4 rfl ?_
    refine g_aload_n d_X11_longAt_5 rfl ?_
    refine g_alen (v := nI n) d_X11_longAt_6 ha (by decide) rfl ?_
    refine g_icmp_ge (tgt := 16) d_X11_longAt_7 (by decide) (fun c_7 => ?_) (fun c_7 => ?_)
    · refine g_lconst (v := 0) d_X11_longAt_16 (by decide) ?_
      exact g_retL d_X11_longAt_17 rfl (by simp [longAtF, *]) (rfl)
    · refine g_aload_n d_X11_longAt_10 rfl ?_
      refine g_iload_n d_X11_longAt_11 rfl ?_
      refine g_lald d_X11_longAt_12 ha (vp_in_of2 hn c_1 c_7) ?_
      refine g_goto (tgt := 17) d_X11_longAt_13 (by decide) ?_
      exact g_retL d_X11_longAt_17 rfl (by simp [longAtF, *]) (rfl)
def setLongF (n : Nat) (f : Nat → Int64) (i : Int32) (x : Int64) : Nat → Int64 := if i < 0 then f else if nI n ≤ i then f else vp_updL f i.toNatClampNeg x
theorem d_X11_setLong_0 : decode (mB M_X11_setLong) 0 = .ok (.iload_n 1, 1) := by decide +kernel
theorem d_X11_setLong_1 : decode (mB M_X11_setLong) 1 = .ok (.ifCond .lt 13, 3) := by decide +kernel
theorem d_X11_setLong_4 : decode (mB M_X11_setLong) 4 = .ok (.iload_n 1, 1) := by decide +kernel
theorem d_X11_setLong_5 : decode (mB M_X11_setLong) 5 = .ok (.aload_n 0, 1) := by decide +kernel
theorem d_X11_setLong_6 : decode (mB M_X11_setLong) 6 = .ok (.arraylength, 1) := by decide +kernel
theorem d_X11_setLong_7 : decode (mB M_X11_setLong) 7 = .ok (.if_icmp .ge 7, 3) := by decide +kernel
theorem d_X11_setLong_10 : decode (mB M_X11_setLong) 10 = .ok (.aload_n 0, 1) := by decide +kernel
theorem d_X11_setLong_11 : decode (mB M_X11_setLong) 11 = .ok (.iload_n 1, 1) := by decide +kernel
theorem d_X11_setLong_12 : decode (mB M_X11_setLong) 12 = .ok (.lload_n 2, 1) := by decide +kernel
theorem d_X11_setLong_13 : decode (mB M_X11_setLong) 13 = .ok (.lastore, 1) := by decide +kernel
theorem d_X11_setLong_14 : decode (mB M_X11_setLong) 14 = .ok (.return_, 1) := by decide +kernel
theorem c_setLong {E : mEnv} (hE : E.1.stackTraces = false) (r n : Nat) (f : Nat → Int64) (i : Int32) (x : Int64) (w : mW) (hn : n < 2 ^ 31) (ha : mget w r = some (.inl (1, n, .inr (.inl f)))) : Rt E M_X11_setLong 0 [.ref r, .int i, .long x] w none ((mset w r (.inl (1, n, .inr (.inl (setLongF n f i x)))))) := by
  refine Rt.of hE rfl pn_X11 (Nat.le_of_ble_eq_true rfl) ?_
  refine g_eq (S' := (0, [some (.ref r), some (.int i), some (.long x), none], [], w)) rfl ?_
  refine g_iload_n d_X11_setLong_0 rfl ?_
  refine g_if_lt (tgt := 14) d_X11_setLong_1 (by decide) (fun c_1 => ?_) (fun c_1 => ?_)
  · exact g_retV d_X11_setLong_14 rfl (by simp [setLongF, *, mset_self ha])
  · refine g_iload_n d_X11_setLong_4 rfl ?_
    refine g_aload_n d_X11_setLong_5 rfl ?_
    refine g_alen (v := nI n) d_X11_setLong_6 ha (by decide) rfl ?_
    refine g_icmp_ge (tgt := 14) d_X11_setLong_7 (by decide) (fun c_7 => ?_) (fun c_7 => ?_)
    · exact g_retV d_X11_setLong_14 rfl (by simp [setLongF, *, mset_self ha])
    · refine g_aload_n d_X11_setLong_10 rfl ?_
      refine g_iload_n d_X11_setLong_11 rfl ?_
      refine g_lload_n d_X11_setLong_12 rfl ?_
      refine g_last d_X11_setLong_13 ha (vp_in_of2 hn c_1 c_7) rfl ?_
      exact g_retV d_X11_setLong_14 rfl (by simp [setLongF, *])
end
section
/-! Grid: what its methods answer, as functions of its fields -/
theorem sw_ne {x k : Int32} (h : ¬ x = k) : x.toInt ≠ k.toInt := fun q => h (Int32.toInt_inj.mp q)
/-- rows, columns, open, goals, dead, firstColumn, lastColumn -/
abbrev gT : Type := Int32 × Int32 × Int64 × Int64 × Int64 × Int64 × Int64
def gR (g : gT) : Int32 := g.1
def gC (g : gT) : Int32 := g.2.1
def gO (g : gT) : Int64 := g.2.2.1
def gG (g : gT) : Int64 := g.2.2.2.1
def gD (g : gT) : Int64 := g.2.2.2.2.1
def gF (g : gT) : Int64 := g.2.2.2.2.2.1
def gL (g : gT) : Int64 := g.2.2.2.2.2.2
abbrev gcell (g : gT) : mE := .inr (2, [.int (gR g), .int (gC g), .long (gO g), .long (gG g), .long (gD g), .long (gF g), .long (gL g)])
def gMv (g : gT) (s : Int64) (d : Int32) : Int64 := if d = 0 then jushr s (gC g) &&& gO g else if d = 1 then jshl (s &&& (gL g ^^^ (-1))) 1 &&& gO g else if d = 2 then jshl s (gC g) &&& gO g else if d = 3 then jushr (s &&& (gF g ^^^ (-1))) 1 &&& gO g else 0
theorem d_X2_moved_0 : decode (mB M_X2_moved) 0 = .ok (.iload_n 3, 1) := by decide +kernel
theorem d_X2_moved_1 : decode (mB M_X2_moved) 1 = .ok (.tableswitch 91 0 3 #[31, 43, 61, 73], 31) := by decide +kernel
theorem d_X2_moved_32 : decode (mB M_X2_moved) 32 = .ok (.lload_n 1, 1) := by decide +kernel
theorem d_X2_moved_33 : decode (mB M_X2_moved) 33 = .ok (.aload_n 0, 1) := by decide +kernel
theorem d_X2_moved_34 : decode (mB M_X2_moved) 34 = .ok (.getfield 15, 3) := by decide +kernel
theorem d_X2_moved_37 : decode (mB M_X2_moved) 37 = .ok (.lushr, 1) := by decide +kernel
theorem d_X2_moved_38 : decode (mB M_X2_moved) 38 = .ok (.aload_n 0, 1) := by decide +kernel
theorem d_X2_moved_39 : decode (mB M_X2_moved) 39 = .ok (.getfield 18, 3) := by decide +kernel
theorem d_X2_moved_42 : decode (mB M_X2_moved) 42 = .ok (.land, 1) := by decide +kernel
theorem d_X2_moved_43 : decode (mB M_X2_moved) 43 = .ok (.lreturn, 1) := by decide +kernel
theorem d_X2_moved_44 : decode (mB M_X2_moved) 44 = .ok (.lload_n 1, 1) := by decide +kernel
theorem d_X2_moved_45 : decode (mB M_X2_moved) 45 = .ok (.aload_n 0, 1) := by decide +kernel
theorem d_X2_moved_46 : decode (mB M_X2_moved) 46 = .ok (.getfield 31, 3) := by decide +kernel
theorem d_X2_moved_49 : decode (mB M_X2_moved) 49 = .ok (.ldc2_w 48, 3) := by decide +kernel
theorem d_X2_moved_52 : decode (mB M_X2_moved) 52 = .ok (.lxor, 1) := by decide +kernel
theorem d_X2_moved_53 : decode (mB M_X2_moved) 53 = .ok (.land, 1) := by decide +kernel
theorem d_X2_moved_54 : decode (mB M_X2_moved) 54 = .ok (.iconst 1, 1) := by decide +kernel
theorem d_X2_moved_55 : decode (mB M_X2_moved) 55 = .ok (.lshl, 1) := by decide +kernel
theorem d_X2_moved_56 : decode (mB M_X2_moved) 56 = .ok (.aload_n 0, 1) := by decide +kernel
theorem d_X2_moved_57 : decode (mB M_X2_moved) 57 = .ok (.getfield 18, 3) := by decide +kernel
theorem d_X2_moved_60 : decode (mB M_X2_moved) 60 = .ok (.land, 1) := by decide +kernel
theorem d_X2_moved_61 : decode (mB M_X2_moved) 61 = .ok (.lreturn, 1) := by decide +kernel
theorem d_X2_moved_62 : decode (mB M_X2_moved) 62 = .ok (.lload_n 1, 1) := by decide +kernel
theorem d_X2_moved_63 : decode (mB M_X2_moved) 63 = .ok (.aload_n 0, 1) := by decide +kernel
theorem d_X2_moved_64 : decode (mB M_X2_moved) 64 = .ok (.getfield 15, 3) := by decide +kernel
theorem d_X2_moved_67 : decode (mB M_X2_moved) 67 = .ok (.lshl, 1) := by decide +kernel
theorem d_X2_moved_68 : decode (mB M_X2_moved) 68 = .ok (.aload_n 0, 1) := by decide +kernel
theorem d_X2_moved_69 : decode (mB M_X2_moved) 69 = .ok (.getfield 18, 3) := by decide +kernel
theorem d_X2_moved_72 : decode (mB M_X2_moved) 72 = .ok (.land, 1) := by decide +kernel
theorem d_X2_moved_73 : decode (mB M_X2_moved) 73 = .ok (.lreturn, 1) := by decide +kernel
theorem d_X2_moved_74 : decode (mB M_X2_moved) 74 = .ok (.lload_n 1, 1) := by decide +kernel
theorem d_X2_moved_75 : decode (mB M_X2_moved) 75 = .ok (.aload_n 0, 1) := by decide +kernel
theorem d_X2_moved_76 : decode (mB M_X2_moved) 76 = .ok (.getfield 28, 3) := by decide +kernel
theorem d_X2_moved_79 : decode (mB M_X2_moved) 79 = .ok (.ldc2_w 48, 3) := by decide +kernel
theorem d_X2_moved_82 : decode (mB M_X2_moved) 82 = .ok (.lxor, 1) := by decide +kernel
theorem d_X2_moved_83 : decode (mB M_X2_moved) 83 = .ok (.land, 1) := by decide +kernel
theorem d_X2_moved_84 : decode (mB M_X2_moved) 84 = .ok (.iconst 1, 1) := by decide +kernel
theorem d_X2_moved_85 : decode (mB M_X2_moved) 85 = .ok (.lushr, 1) := by decide +kernel
theorem d_X2_moved_86 : decode (mB M_X2_moved) 86 = .ok (.aload_n 0, 1) := by decide +kernel
theorem d_X2_moved_87 : decode (mB M_X2_moved) 87 = .ok (.getfield 18, 3) := by decide +kernel
theorem d_X2_moved_90 : decode (mB M_X2_moved) 90 = .ok (.land, 1) := by decide +kernel
theorem d_X2_moved_91 : decode (mB M_X2_moved) 91 = .ok (.lreturn, 1) := by decide +kernel
theorem d_X2_moved_92 : decode (mB M_X2_moved) 92 = .ok (.lconst 0, 1) := by decide +kernel
theorem d_X2_moved_93 : decode (mB M_X2_moved) 93 = .ok (.lreturn, 1) := by decide +kernel
theorem c_moved {E : mEnv} (hE : E.1.stackTraces = false) (r : Nat) (g : gT) (w : mW) (hg : mget w r = some (gcell g)) (s : Int64) (d : Int32) : Rt E M_X2_moved 0 [.ref r, .long s, .int d] w (some (.long (gMv g s d))) w := by
  refine Rt.of hE rfl pn_X2 (Nat.le_of_ble_eq_true rfl) ?_
  refine g_eq (S' := (0, [some (.ref r), some (.long s), none, some (.int d)], [], w)) rfl ?_
  refine g_iload_n d_X2_moved_0 rfl ?_
  by_cases t_1_0 : d = 0
  · refine g_tabIn (off := 31) (tgt := 32) d_X2_moved_1 (by rw [t_1_0]; decide) (by rw [t_1_0]; decide) (by rw [t_1_0]; rfl) (by decide) ?_
    refine g_lload_n d_X2_moved_32 rfl ?_
    refine g_aload_n d_X2_moved_33 rfl ?_
    refine g_getf d_X2_moved_34 f_X2_15 hg rfl ?_
    refine g_lushr (v := (jushr s (gC g))) d_X2_moved_37 rfl ?_
    refine g_aload_n d_X2_moved_38 rfl ?_
    refine g_getf d_X2_moved_39 f_X2_18 hg rfl ?_
    refine g_land d_X2_moved_42 ?_
    exact g_retL d_X2_moved_43 rfl (by simp [gMv, *]) (rfl)
  by_cases t_1_1 : d = 1
  · refine g_tabIn (off := 43) (tgt := 44) d_X2_moved_1 (by rw [t_1_1]; decide) (by rw [t_1_1]; decide) (by rw [t_1_1]; rfl) (by decide) ?_
    refine g_lload_n d_X2_moved_44 rfl ?_
    refine g_aload_n d_X2_moved_45 rfl ?_
    refine g_getf d_X2_moved_46 f_X2_31 hg rfl ?_
    refine g_ldc2 (v := (-1)) d_X2_moved_49 k_X2_48 ?_
    refine g_lxor d_X2_moved_52 ?_
    refine g_land d_X2_moved_53 ?_
    refine g_iconst (v := 1) d_X2_moved_54 (by decide) ?_
    refine g_lshl (v := (jshl (s &&& ((gL g) ^^^ (-1))) 1)) d_X2_moved_55 rfl ?_
    refine g_aload_n d_X2_moved_56 rfl ?_
    refine g_getf d_X2_moved_57 f_X2_18 hg rfl ?_
    refine g_land d_X2_moved_60 ?_
    exact g_retL d_X2_moved_61 rfl (by simp [gMv, *]) (rfl)
  by_cases t_1_2 : d = 2
  · refine g_tabIn (off := 61) (tgt := 62) d_X2_moved_1 (by rw [t_1_2]; decide) (by rw [t_1_2]; decide) (by rw [t_1_2]; rfl) (by decide) ?_
    refine g_lload_n d_X2_moved_62 rfl ?_
    refine g_aload_n d_X2_moved_63 rfl ?_
    refine g_getf d_X2_moved_64 f_X2_15 hg rfl ?_
    refine g_lshl (v := (jshl s (gC g))) d_X2_moved_67 rfl ?_
    refine g_aload_n d_X2_moved_68 rfl ?_
    refine g_getf d_X2_moved_69 f_X2_18 hg rfl ?_
    refine g_land d_X2_moved_72 ?_
    exact g_retL d_X2_moved_73 rfl (by simp [gMv, *]) (rfl)
  by_cases t_1_3 : d = 3
  · refine g_tabIn (off := 73) (tgt := 74) d_X2_moved_1 (by rw [t_1_3]; decide) (by rw [t_1_3]; decide) (by rw [t_1_3]; rfl) (by decide) ?_
    refine g_lload_n d_X2_moved_74 rfl ?_
    refine g_aload_n d_X2_moved_75 rfl ?_
    refine g_getf d_X2_moved_76 f_X2_28 hg rfl ?_
    refine g_ldc2 (v := (-1)) d_X2_moved_79 k_X2_48 ?_
    refine g_lxor d_X2_moved_82 ?_
    refine g_land d_X2_moved_83 ?_
    refine g_iconst (v := 1) d_X2_moved_84 (by decide) ?_
    refine g_lushr (v := (jushr (s &&& ((gF g) ^^^ (-1))) 1)) d_X2_moved_85 rfl ?_
    refine g_aload_n d_X2_moved_86 rfl ?_
    refine g_getf d_X2_moved_87 f_X2_18 hg rfl ?_
    refine g_land d_X2_moved_90 ?_
    exact g_retL d_X2_moved_91 rfl (by simp [gMv, *]) (rfl)
  refine g_tabOut (tgt := 92) d_X2_moved_1 (by have a0 : d.toInt ≠ 0 := sw_ne t_1_0; have a1 : d.toInt ≠ 1 := sw_ne t_1_1; have a2 : d.toInt ≠ 2 := sw_ne t_1_2; have a3 : d.toInt ≠ 3 := sw_ne t_1_3; omega) (by decide) ?_
  refine g_lconst (v := 0) d_X2_moved_92 (by decide) ?_
  exact g_retL d_X2_moved_93 rfl (by simp [gMv, *]) (rfl)
def gBs (g : gT) (s : Int64) : Int64 := gMv g s 0 ||| gMv g s 1 ||| gMv g s 2 ||| gMv g s 3
theorem d_X2_beside_0 : decode (mB M_X2_beside) 0 = .ok (.aload_n 0, 1) := by decide +kernel
theorem d_X2_beside_1 : decode (mB M_X2_beside) 1 = .ok (.lload_n 1, 1) := by decide +kernel
theorem d_X2_beside_2 : decode (mB M_X2_beside) 2 = .ok (.iconst 0, 1) := by decide +kernel
theorem d_X2_beside_3 : decode (mB M_X2_beside) 3 = .ok (.invokevirtual 50, 3) := by decide +kernel
theorem d_X2_beside_6 : decode (mB M_X2_beside) 6 = .ok (.aload_n 0, 1) := by decide +kernel
theorem d_X2_beside_7 : decode (mB M_X2_beside) 7 = .ok (.lload_n 1, 1) := by decide +kernel
theorem d_X2_beside_8 : decode (mB M_X2_beside) 8 = .ok (.iconst 1, 1) := by decide +kernel
theorem d_X2_beside_9 : decode (mB M_X2_beside) 9 = .ok (.invokevirtual 50, 3) := by decide +kernel
theorem d_X2_beside_12 : decode (mB M_X2_beside) 12 = .ok (.lor, 1) := by decide +kernel
theorem d_X2_beside_13 : decode (mB M_X2_beside) 13 = .ok (.aload_n 0, 1) := by decide +kernel
theorem d_X2_beside_14 : decode (mB M_X2_beside) 14 = .ok (.lload_n 1, 1) := by decide +kernel
theorem d_X2_beside_15 : decode (mB M_X2_beside) 15 = .ok (.iconst 2, 1) := by decide +kernel
theorem d_X2_beside_16 : decode (mB M_X2_beside) 16 = .ok (.invokevirtual 50, 3) := by decide +kernel
theorem d_X2_beside_19 : decode (mB M_X2_beside) 19 = .ok (.lor, 1) := by decide +kernel
theorem d_X2_beside_20 : decode (mB M_X2_beside) 20 = .ok (.aload_n 0, 1) := by decide +kernel
theorem d_X2_beside_21 : decode (mB M_X2_beside) 21 = .ok (.lload_n 1, 1) := by decide +kernel
theorem d_X2_beside_22 : decode (mB M_X2_beside) 22 = .ok (.iconst 3, 1) := by decide +kernel
theorem d_X2_beside_23 : decode (mB M_X2_beside) 23 = .ok (.invokevirtual 50, 3) := by decide +kernel
theorem d_X2_beside_26 : decode (mB M_X2_beside) 26 = .ok (.lor, 1) := by decide +kernel
theorem d_X2_beside_27 : decode (mB M_X2_beside) 27 = .ok (.lreturn, 1) := by decide +kernel
theorem c_beside {E : mEnv} (hE : E.1.stackTraces = false) (r : Nat) (g : gT) (w : mW) (hg : mget w r = some (gcell g)) (s : Int64) : Rt E M_X2_beside 0 [.ref r, .long s] w (some (.long (gBs g s))) w := by
  refine Rt.of hE rfl pn_X2 (Nat.le_of_ble_eq_true rfl) ?_
  refine g_eq (S' := (0, [some (.ref r), some (.long s), none], [], w)) rfl ?_
  refine g_aload_n d_X2_beside_0 rfl ?_
  refine g_lload_n d_X2_beside_1 rfl ?_
  refine g_iconst (v := 0) d_X2_beside_2 (by decide) ?_
  refine g_callV (As := [.long s, .int 0]) d_X2_beside_3 o_X2_moved l_X2_50 ⟨Nat.le_of_ble_eq_true rfl, Nat.le_of_ble_eq_true rfl⟩ (c_moved hE r g w hg s 0) hg rfl rfl rfl rfl rfl ?_ (Nat.zero_add _)
  refine g_aload_n d_X2_beside_6 rfl ?_
  refine g_lload_n d_X2_beside_7 rfl ?_
  refine g_iconst (v := 1) d_X2_beside_8 (by decide) ?_
  refine g_callV (As := [.long s, .int 1]) d_X2_beside_9 o_X2_moved l_X2_50 ⟨Nat.le_of_ble_eq_true rfl, Nat.le_of_ble_eq_true rfl⟩ (c_moved hE r g w hg s 1) hg rfl rfl rfl rfl rfl ?_ (Nat.zero_add _)
  refine g_lor d_X2_beside_12 ?_
  refine g_aload_n d_X2_beside_13 rfl ?_
  refine g_lload_n d_X2_beside_14 rfl ?_
  refine g_iconst (v := 2) d_X2_beside_15 (by decide) ?_
  refine g_callV (As := [.long s, .int 2]) d_X2_beside_16 o_X2_moved l_X2_50 ⟨Nat.le_of_ble_eq_true rfl, Nat.le_of_ble_eq_true rfl⟩ (c_moved hE r g w hg s 2) hg rfl rfl rfl rfl rfl ?_ (Nat.zero_add _)
  refine g_lor d_X2_beside_19 ?_
  refine g_aload_n d_X2_beside_20 rfl ?_
  refine g_lload_n d_X2_beside_21 rfl ?_
  refine g_iconst (v := 3) d_X2_beside_22 (by decide) ?_
  refine g_callV (As := [.long s, .int 3]) d_X2_beside_23 o_X2_moved l_X2_50 ⟨Nat.le_of_ble_eq_true rfl, Nat.le_of_ble_eq_true rfl⟩ (c_moved hE r g w hg s 3) hg rfl rfl rfl rfl rfl ?_ (Nat.zero_add _)
  refine g_lor d_X2_beside_26 ?_
  exact g_retL d_X2_beside_27 rfl (rfl) (rfl)
def gSpL (g : gT) (over : Int64) : Nat → Int64 → Int64
  | 0, r => r
  | n + 1, r => if r ||| (gBs g r &&& over) = r then r else gSpL g over n (r ||| (gBs g r &&& over))
def gSp (g : gT) (start over : Int64) : Int64 := gSpL g over 64 (start &&& over)
theorem d_X2_spread_0 : decode (mB M_X2_spread) 0 = .ok (.lload_n 1, 1) := by decide +kernel
theorem d_X2_spread_1 : decode (mB M_X2_spread) 1 = .ok (.lload_n 3, 1) := by decide +kernel
theorem d_X2_spread_2 : decode (mB M_X2_spread) 2 = .ok (.land, 1) := by decide +kernel
theorem d_X2_spread_3 : decode (mB M_X2_spread) 3 = .ok (.lstore 5, 2) := by decide +kernel
theorem d_X2_spread_5 : decode (mB M_X2_spread) 5 = .ok (.iconst 0, 1) := by decide +kernel
theorem d_X2_spread_6 : decode (mB M_X2_spread) 6 = .ok (.istore 7, 2) := by decide +kernel
theorem d_X2_spread_8 : decode (mB M_X2_spread) 8 = .ok (.iload 7, 2) := by decide +kernel
theorem d_X2_spread_10 : decode (mB M_X2_spread) 10 = .ok (.bipush 64, 2) := by decide +kernel
theorem d_X2_spread_12 : decode (mB M_X2_spread) 12 = .ok (.if_icmp .ge 37, 3) := by decide +kernel
theorem d_X2_spread_15 : decode (mB M_X2_spread) 15 = .ok (.lload 5, 2) := by decide +kernel
theorem d_X2_spread_17 : decode (mB M_X2_spread) 17 = .ok (.aload_n 0, 1) := by decide +kernel
theorem d_X2_spread_18 : decode (mB M_X2_spread) 18 = .ok (.lload 5, 2) := by decide +kernel
theorem d_X2_spread_20 : decode (mB M_X2_spread) 20 = .ok (.invokevirtual 54, 3) := by decide +kernel
theorem d_X2_spread_23 : decode (mB M_X2_spread) 23 = .ok (.lload_n 3, 1) := by decide +kernel
theorem d_X2_spread_24 : decode (mB M_X2_spread) 24 = .ok (.land, 1) := by decide +kernel
theorem d_X2_spread_25 : decode (mB M_X2_spread) 25 = .ok (.lor, 1) := by decide +kernel
theorem d_X2_spread_26 : decode (mB M_X2_spread) 26 = .ok (.lstore 8, 2) := by decide +kernel
theorem d_X2_spread_28 : decode (mB M_X2_spread) 28 = .ok (.lload 8, 2) := by decide +kernel
theorem d_X2_spread_30 : decode (mB M_X2_spread) 30 = .ok (.lload 5, 2) := by decide +kernel
theorem d_X2_spread_32 : decode (mB M_X2_spread) 32 = .ok (.lcmp, 1) := by decide +kernel
theorem d_X2_spread_33 : decode (mB M_X2_spread) 33 = .ok (.ifCond .ne 6, 3) := by decide +kernel
theorem d_X2_spread_36 : decode (mB M_X2_spread) 36 = .ok (.goto 13, 3) := by decide +kernel
theorem d_X2_spread_39 : decode (mB M_X2_spread) 39 = .ok (.lload 8, 2) := by decide +kernel
theorem d_X2_spread_41 : decode (mB M_X2_spread) 41 = .ok (.lstore 5, 2) := by decide +kernel
theorem d_X2_spread_43 : decode (mB M_X2_spread) 43 = .ok (.iinc 7 1, 3) := by decide +kernel
theorem d_X2_spread_46 : decode (mB M_X2_spread) 46 = .ok (.goto (-38), 3) := by decide +kernel
theorem d_X2_spread_49 : decode (mB M_X2_spread) 49 = .ok (.lload 5, 2) := by decide +kernel
theorem d_X2_spread_51 : decode (mB M_X2_spread) 51 = .ok (.lreturn, 1) := by decide +kernel
theorem l_spread {E : mEnv} (hE : E.1.stackTraces = false) (r : Nat) (g : gT) (w : mW) (hg : mget w r = some (gcell g)) (start over : Int64) : ∀ (n : Nat) (k : Nat) (q : Int64), k + n = 64 → Go E M_X2_spread 0 (8, [some (.ref r), some (.long start), none, some (.long over), none, some (.long q), none, some (.int (nI k)), none, none], [], w) (.inr (.inl (some (.long (gSpL g over n q)), w))) := by
  intro n
  induction n with
  | zero =>
    intro k q hk
    obtain rfl : k = 64 := by omega
    refine g_iload d_X2_spread_8 rfl ?_
    refine g_bipush (v := 64) d_X2_spread_10 (by decide) ?_
    refine g_icmp_ge (tgt := 49) d_X2_spread_12 (by decide) (fun c_12 => ?_) (fun c_12 => absurd c_12 (absurd (nI_le (Nat.le_refl 64) (by decide)) c_12))
    refine g_lload d_X2_spread_49 rfl ?_
    exact g_retL d_X2_spread_51 rfl (rfl) (rfl)
  | succ n ih =>
    intro k q hk
    refine g_iload d_X2_spread_8 rfl ?_
    refine g_bipush (v := 64) d_X2_spread_10 (by decide) ?_
    refine g_icmp_ge (tgt := 49) d_X2_spread_12 (by decide) (fun c_12 => absurd c_12 (nI_ge (a := k) (b := 64) (by omega) (by decide))) (fun c_12 => ?_)
    refine g_lload d_X2_spread_15 rfl ?_
    refine g_aload_n d_X2_spread_17 rfl ?_
    refine g_lload d_X2_spread_18 rfl ?_
    refine g_callV (As := [.long q]) d_X2_spread_20 o_X2_beside l_X2_54 ⟨Nat.le_of_ble_eq_true rfl, Nat.le_of_ble_eq_true rfl⟩ (c_beside hE r g w hg q) hg rfl rfl rfl rfl rfl ?_ (Nat.zero_add _)
    refine g_lload_n d_X2_spread_23 rfl ?_
    refine g_land d_X2_spread_24 ?_
    refine g_lor d_X2_spread_25 ?_
    refine g_lstore (L' := [some (.ref r), some (.long start), none, some (.long over), none, some (.long q), none, some (.int (nI k)), some (.long (q ||| ((gBs g q) &&& over))), none]) d_X2_spread_26 rfl rfl ?_
    refine g_lload d_X2_spread_28 rfl ?_
    refine g_lload d_X2_spread_30 rfl ?_
    refine g_lcmp_ne (tgt := 39) d_X2_spread_32 d_X2_spread_33 (by decide) (fun c_32 => ?_) (fun c_32 => ?_)
    · refine g_lload d_X2_spread_39 rfl ?_
      refine g_lstore (L' := [some (.ref r), some (.long start), none, some (.long over), none, some (.long (q ||| ((gBs g q) &&& over))), none, some (.int (nI k)), some (.long (q ||| ((gBs g q) &&& over))), none]) d_X2_spread_41 rfl rfl ?_
      refine g_iinc (v := ((nI k) + 1)) (L' := [some (.ref r), some (.long start), none, some (.long over), none, some (.long (q ||| ((gBs g q) &&& over))), none, some (.int ((nI k) + 1)), some (.long (q ||| ((gBs g q) &&& over))), none]) d_X2_spread_43 rfl rfl rfl ?_
      refine g_goto (tgt := 8) d_X2_spread_46 (by decide) ?_
      refine g_drop [8] (L1 := [some (.ref r), some (.long start), none, some (.long over), none, some (.long (q ||| ((gBs g q) &&& over))), none, some (.int ((nI k) + 1)), none, none]) rfl ?_
      refine g_eq (S' := (8, [some (.ref r), some (.long start), none, some (.long over), none, some (.long (q ||| (gBs g q &&& over))), none, some (.int (nI (k + 1))), none, none], [], w)) (by first | rfl | (rw [nI_1]; rfl) | (simp only [nI_1]; rfl) | simp only [nI_1]) ?_
      have := ih (k + 1) (q ||| (gBs g q &&& over)) (by omega)
      rw [show gSpL g over (n + 1) q = gSpL g over n (q ||| (gBs g q &&& over)) by simp [gSpL, c_32]]
      exact this
    · refine g_goto (tgt := 49) d_X2_spread_36 (by decide) ?_
      refine g_lload d_X2_spread_49 rfl ?_
      exact g_retL d_X2_spread_51 rfl (by simp [gSpL, *]) (rfl)
theorem c_spread {E : mEnv} (hE : E.1.stackTraces = false) (r : Nat) (g : gT) (w : mW) (hg : mget w r = some (gcell g)) (start over : Int64) : Rt E M_X2_spread 0 [.ref r, .long start, .long over] w (some (.long (gSp g start over))) w := by
  refine Rt.of hE rfl pn_X2 (Nat.le_of_ble_eq_true rfl) ?_
  refine g_eq (S' := (0, [some (.ref r), some (.long start), none, some (.long over), none, none, none, none, none, none], [], w)) rfl ?_
  refine g_lload_n d_X2_spread_0 rfl ?_
  refine g_lload_n d_X2_spread_1 rfl ?_
  refine g_land d_X2_spread_2 ?_
  refine g_lstore (L' := [some (.ref r), some (.long start), none, some (.long over), none, some (.long (start &&& over)), none, none, none, none]) d_X2_spread_3 rfl rfl ?_
  refine g_iconst (v := 0) d_X2_spread_5 (by decide) ?_
  refine g_istore (L' := [some (.ref r), some (.long start), none, some (.long over), none, some (.long (start &&& over)), none, some (.int 0), none, none]) d_X2_spread_6 rfl rfl ?_
  refine g_eq (S' := (8, [some (.ref r), some (.long start), none, some (.long over), none, some (.long (start &&& over)), none, some (.int (nI 0)), none, none], [], w)) (rfl) ?_
  exact l_spread hE r g w hg start over 64 0 _ (by omega)
end
section
/-! Grid, further; the lowest cell of a set -/
def bc1 (x : Int64) : Int64 := x - (jushr x 1 &&& 6148914691236517205)
def bc2 (x : Int64) : Int64 := (x &&& 3689348814741910323) + (jushr x 2 &&& 3689348814741910323)
def bc3 (x : Int64) : Int64 := (x + jushr x 4) &&& 1085102592571150095
def bc4 (x : Int64) : Int64 := x + jushr x 8
def bc5 (x : Int64) : Int64 := x + jushr x 16
def bc6 (x : Int64) : Int64 := x + jushr x 32
/-- Long.bitCount -/
def bcF (x : Int64) : Int32 := (bc6 (bc5 (bc4 (bc3 (bc2 (bc1 x)))))).toInt32 &&& 127
def lowF (s : Int64) : Int32 := bcF ((s &&& (-s)) - 1)
theorem d_J13_bitCount_95d88_0 : decode (mB M_J13_bitCount_95d88) 0 = .ok (.lload_n 0, 1) := by decide +kernel
theorem d_J13_bitCount_95d88_1 : decode (mB M_J13_bitCount_95d88) 1 = .ok (.lload_n 0, 1) := by decide +kernel
theorem d_J13_bitCount_95d88_2 : decode (mB M_J13_bitCount_95d88) 2 = .ok (.iconst 1, 1) := by decide +kernel
theorem d_J13_bitCount_95d88_3 : decode (mB M_J13_bitCount_95d88) 3 = .ok (.lushr, 1) := by decide +kernel
theorem d_J13_bitCount_95d88_4 : decode (mB M_J13_bitCount_95d88) 4 = .ok (.ldc2_w 314, 3) := by decide +kernel
theorem d_J13_bitCount_95d88_7 : decode (mB M_J13_bitCount_95d88) 7 = .ok (.land, 1) := by decide +kernel
theorem d_J13_bitCount_95d88_8 : decode (mB M_J13_bitCount_95d88) 8 = .ok (.lsub, 1) := by decide +kernel
theorem d_J13_bitCount_95d88_9 : decode (mB M_J13_bitCount_95d88) 9 = .ok (.lstore_n 0, 1) := by decide +kernel
theorem d_J13_bitCount_95d88_10 : decode (mB M_J13_bitCount_95d88) 10 = .ok (.lload_n 0, 1) := by decide +kernel
theorem d_J13_bitCount_95d88_11 : decode (mB M_J13_bitCount_95d88) 11 = .ok (.ldc2_w 316, 3) := by decide +kernel
theorem d_J13_bitCount_95d88_14 : decode (mB M_J13_bitCount_95d88) 14 = .ok (.land, 1) := by decide +kernel
theorem d_J13_bitCount_95d88_15 : decode (mB M_J13_bitCount_95d88) 15 = .ok (.lload_n 0, 1) := by decide +kernel
theorem d_J13_bitCount_95d88_16 : decode (mB M_J13_bitCount_95d88) 16 = .ok (.iconst 2, 1) := by decide +kernel
theorem d_J13_bitCount_95d88_17 : decode (mB M_J13_bitCount_95d88) 17 = .ok (.lushr, 1) := by decide +kernel
theorem d_J13_bitCount_95d88_18 : decode (mB M_J13_bitCount_95d88) 18 = .ok (.ldc2_w 316, 3) := by decide +kernel
theorem d_J13_bitCount_95d88_21 : decode (mB M_J13_bitCount_95d88) 21 = .ok (.land, 1) := by decide +kernel
theorem d_J13_bitCount_95d88_22 : decode (mB M_J13_bitCount_95d88) 22 = .ok (.ladd, 1) := by decide +kernel
theorem d_J13_bitCount_95d88_23 : decode (mB M_J13_bitCount_95d88) 23 = .ok (.lstore_n 0, 1) := by decide +kernel
theorem d_J13_bitCount_95d88_24 : decode (mB M_J13_bitCount_95d88) 24 = .ok (.lload_n 0, 1) := by decide +kernel
theorem d_J13_bitCount_95d88_25 : decode (mB M_J13_bitCount_95d88) 25 = .ok (.lload_n 0, 1) := by decide +kernel
theorem d_J13_bitCount_95d88_26 : decode (mB M_J13_bitCount_95d88) 26 = .ok (.iconst 4, 1) := by decide +kernel
theorem d_J13_bitCount_95d88_27 : decode (mB M_J13_bitCount_95d88) 27 = .ok (.lushr, 1) := by decide +kernel
theorem d_J13_bitCount_95d88_28 : decode (mB M_J13_bitCount_95d88) 28 = .ok (.ladd, 1) := by decide +kernel
theorem d_J13_bitCount_95d88_29 : decode (mB M_J13_bitCount_95d88) 29 = .ok (.ldc2_w 318, 3) := by decide +kernel
theorem d_J13_bitCount_95d88_32 : decode (mB M_J13_bitCount_95d88) 32 = .ok (.land, 1) := by decide +kernel
theorem d_J13_bitCount_95d88_33 : decode (mB M_J13_bitCount_95d88) 33 = .ok (.lstore_n 0, 1) := by decide +kernel
theorem d_J13_bitCount_95d88_34 : decode (mB M_J13_bitCount_95d88) 34 = .ok (.lload_n 0, 1) := by decide +kernel
theorem d_J13_bitCount_95d88_35 : decode (mB M_J13_bitCount_95d88) 35 = .ok (.lload_n 0, 1) := by decide +kernel
theorem d_J13_bitCount_95d88_36 : decode (mB M_J13_bitCount_95d88) 36 = .ok (.bipush 8, 2) := by decide +kernel
theorem d_J13_bitCount_95d88_38 : decode (mB M_J13_bitCount_95d88) 38 = .ok (.lushr, 1) := by decide +kernel
theorem d_J13_bitCount_95d88_39 : decode (mB M_J13_bitCount_95d88) 39 = .ok (.ladd, 1) := by decide +kernel
theorem d_J13_bitCount_95d88_40 : decode (mB M_J13_bitCount_95d88) 40 = .ok (.lstore_n 0, 1) := by decide +kernel
theorem d_J13_bitCount_95d88_41 : decode (mB M_J13_bitCount_95d88) 41 = .ok (.lload_n 0, 1) := by decide +kernel
theorem d_J13_bitCount_95d88_42 : decode (mB M_J13_bitCount_95d88) 42 = .ok (.lload_n 0, 1) := by decide +kernel
theorem d_J13_bitCount_95d88_43 : decode (mB M_J13_bitCount_95d88) 43 = .ok (.bipush 16, 2) := by decide +kernel
theorem d_J13_bitCount_95d88_45 : decode (mB M_J13_bitCount_95d88) 45 = .ok (.lushr, 1) := by decide +kernel
theorem d_J13_bitCount_95d88_46 : decode (mB M_J13_bitCount_95d88) 46 = .ok (.ladd, 1) := by decide +kernel
theorem d_J13_bitCount_95d88_47 : decode (mB M_J13_bitCount_95d88) 47 = .ok (.lstore_n 0, 1) := by decide +kernel
theorem d_J13_bitCount_95d88_48 : decode (mB M_J13_bitCount_95d88) 48 = .ok (.lload_n 0, 1) := by decide +kernel
theorem d_J13_bitCount_95d88_49 : decode (mB M_J13_bitCount_95d88) 49 = .ok (.lload_n 0, 1) := by decide +kernel
theorem d_J13_bitCount_95d88_50 : decode (mB M_J13_bitCount_95d88) 50 = .ok (.bipush 32, 2) := by decide +kernel
theorem d_J13_bitCount_95d88_52 : decode (mB M_J13_bitCount_95d88) 52 = .ok (.lushr, 1) := by decide +kernel
theorem d_J13_bitCount_95d88_53 : decode (mB M_J13_bitCount_95d88) 53 = .ok (.ladd, 1) := by decide +kernel
theorem d_J13_bitCount_95d88_54 : decode (mB M_J13_bitCount_95d88) 54 = .ok (.lstore_n 0, 1) := by decide +kernel
theorem d_J13_bitCount_95d88_55 : decode (mB M_J13_bitCount_95d88) 55 = .ok (.lload_n 0, 1) := by decide +kernel
theorem d_J13_bitCount_95d88_56 : decode (mB M_J13_bitCount_95d88) 56 = .ok (.l2i, 1) := by decide +kernel
theorem d_J13_bitCount_95d88_57 : decode (mB M_J13_bitCount_95d88) 57 = .ok (.bipush 127, 2) := by decide +kernel
theorem d_J13_bitCount_95d88_59 : decode (mB M_J13_bitCount_95d88) 59 = .ok (.iand, 1) := by decide +kernel
theorem d_J13_bitCount_95d88_60 : decode (mB M_J13_bitCount_95d88) 60 = .ok (.ireturn, 1) := by decide +kernel
theorem c_bitCount {E : mEnv} (hE : E.1.stackTraces = false) (x : Int64) (w : mW) : Rt E M_J13_bitCount_95d88 0 [.long x] w (some (.int (bcF x))) w := by
  refine Rt.of hE rfl pn_J13 (Nat.le_of_ble_eq_true rfl) ?_
  refine g_eq (S' := (0, [some (.long x), none], [], w)) rfl ?_
  refine g_lload_n d_J13_bitCount_95d88_0 rfl ?_
  refine g_lload_n d_J13_bitCount_95d88_1 rfl ?_
  refine g_iconst (v := 1) d_J13_bitCount_95d88_2 (by decide) ?_
  refine g_lushr (v := (jushr x 1)) d_J13_bitCount_95d88_3 rfl ?_
  refine g_ldc2 (v := 6148914691236517205) d_J13_bitCount_95d88_4 k_J13_314 ?_
  refine g_land d_J13_bitCount_95d88_7 ?_
  refine g_lsub d_J13_bitCount_95d88_8 ?_
  refine g_lstore_n (L' := [some (.long (bc1 x)), none]) d_J13_bitCount_95d88_9 rfl rfl ?_
  refine g_lload_n d_J13_bitCount_95d88_10 rfl ?_
  refine g_ldc2 (v := 3689348814741910323) d_J13_bitCount_95d88_11 k_J13_316 ?_
  refine g_land d_J13_bitCount_95d88_14 ?_
  refine g_lload_n d_J13_bitCount_95d88_15 rfl ?_
  refine g_iconst (v := 2) d_J13_bitCount_95d88_16 (by decide) ?_
  refine g_lushr (v := (jushr (bc1 x) 2)) d_J13_bitCount_95d88_17 rfl ?_
  refine g_ldc2 (v := 3689348814741910323) d_J13_bitCount_95d88_18 k_J13_316 ?_
  refine g_land d_J13_bitCount_95d88_21 ?_
  refine g_ladd d_J13_bitCount_95d88_22 ?_
  refine g_lstore_n (L' := [some (.long (bc2 (bc1 x))), none]) d_J13_bitCount_95d88_23 rfl rfl ?_
  refine g_lload_n d_J13_bitCount_95d88_24 rfl ?_
  refine g_lload_n d_J13_bitCount_95d88_25 rfl ?_
  refine g_iconst (v := 4) d_J13_bitCount_95d88_26 (by decide) ?_
  refine g_lushr (v := (jushr (bc2 (bc1 x)) 4)) d_J13_bitCount_95d88_27 rfl ?_
  refine g_ladd d_J13_bitCount_95d88_28 ?_
  refine g_ldc2 (v := 1085102592571150095) d_J13_bitCount_95d88_29 k_J13_318 ?_
  refine g_land d_J13_bitCount_95d88_32 ?_
  refine g_lstore_n (L' := [some (.long (bc3 (bc2 (bc1 x)))), none]) d_J13_bitCount_95d88_33 rfl rfl ?_
  refine g_lload_n d_J13_bitCount_95d88_34 rfl ?_
  refine g_lload_n d_J13_bitCount_95d88_35 rfl ?_
  refine g_bipush (v := 8) d_J13_bitCount_95d88_36 (by decide) ?_
  refine g_lushr (v := (jushr (bc3 (bc2 (bc1 x))) 8)) d_J13_bitCount_95d88_38 rfl ?_
  refine g_ladd d_J13_bitCount_95d88_39 ?_
  refine g_lstore_n (L' := [some (.long (bc4 (bc3 (bc2 (bc1 x))))), none]) d_J13_bitCount_95d88_40 rfl rfl ?_
  refine g_lload_n d_J13_bitCount_95d88_41 rfl ?_
  refine g_lload_n d_J13_bitCount_95d88_42 rfl ?_
  refine g_bipush (v := 16) d_J13_bitCount_95d88_43 (by decide) ?_
  refine g_lushr (v := (jushr (bc4 (bc3 (bc2 (bc1 x)))) 16)) d_J13_bitCount_95d88_45 rfl ?_
  refine g_ladd d_J13_bitCount_95d88_46 ?_
  refine g_lstore_n (L' := [some (.long (bc5 (bc4 (bc3 (bc2 (bc1 x)))))), none]) d_J13_bitCount_95d88_47 rfl rfl ?_
  refine g_lload_n d_J13_bitCount_95d88_48 rfl ?_
  refine g_lload_n d_J13_bitCount_95d88_49 rfl ?_
  refine g_bipush (v := 32) d_J13_bitCount_95d88_50 (by decide) ?_
  refine g_lushr (v := (jushr (bc5 (bc4 (bc3 (bc2 (bc1 x))))) 32)) d_J13_bitCount_95d88_52 rfl ?_
  refine g_ladd d_J13_bitCount_95d88_53 ?_
  refine g_lstore_n (L' := [some (.long (bc6 (bc5 (bc4 (bc3 (bc2 (bc1 x))))))), none]) d_J13_bitCount_95d88_54 rfl rfl ?_
  refine g_lload_n d_J13_bitCount_95d88_55 rfl ?_
  refine g_l2i d_J13_bitCount_95d88_56 ?_
  refine g_bipush (v := 127) d_J13_bitCount_95d88_57 (by decide) ?_
  refine g_iand d_J13_bitCount_95d88_59 ?_
  exact g_retI d_J13_bitCount_95d88_60 rfl (rfl) (rfl)
theorem d_X11_lowest_0 : decode (mB M_X11_lowest) 0 = .ok (.lload_n 0, 1) := by decide +kernel
theorem d_X11_lowest_1 : decode (mB M_X11_lowest) 1 = .ok (.lload_n 0, 1) := by decide +kernel
theorem d_X11_lowest_2 : decode (mB M_X11_lowest) 2 = .ok (.lneg, 1) := by decide +kernel
theorem d_X11_lowest_3 : decode (mB M_X11_lowest) 3 = .ok (.land, 1) := by decide +kernel
theorem d_X11_lowest_4 : decode (mB M_X11_lowest) 4 = .ok (.lconst 1, 1) := by decide +kernel
theorem d_X11_lowest_5 : decode (mB M_X11_lowest) 5 = .ok (.lsub, 1) := by decide +kernel
theorem d_X11_lowest_6 : decode (mB M_X11_lowest) 6 = .ok (.invokestatic 133, 3) := by decide +kernel
theorem d_X11_lowest_9 : decode (mB M_X11_lowest) 9 = .ok (.ireturn, 1) := by decide +kernel
theorem c_lowest {E : mEnv} (hE : E.1.stackTraces = false) (s : Int64) (w : mW) : Rt E M_X11_lowest 0 [.long s] w (some (.int (lowF s))) w := by
  refine Rt.of hE rfl pn_X11 (Nat.le_of_ble_eq_true rfl) ?_
  refine g_eq (S' := (0, [some (.long s), none], [], w)) rfl ?_
  refine g_lload_n d_X11_lowest_0 rfl ?_
  refine g_lload_n d_X11_lowest_1 rfl ?_
  refine g_lneg d_X11_lowest_2 ?_
  refine g_land d_X11_lowest_3 ?_
  refine g_lconst (v := 1) d_X11_lowest_4 (by decide) ?_
  refine g_lsub d_X11_lowest_5 ?_
  refine g_callS (As := [.long ((s &&& (-s)) - 1)]) d_X11_lowest_6 o_J13_bitCount_95d88 l_X11_133 ⟨Nat.le_of_ble_eq_true rfl, Nat.le_of_ble_eq_true rfl⟩ (c_bitCount hE _ w) rfl rfl ?_ (Nat.zero_add _)
  exact g_retI d_X11_lowest_9 rfl (rfl) (rfl)
theorem d_X2_isLaid_0 : decode (mB M_X2_isLaid) 0 = .ok (.aload_n 0, 1) := by decide +kernel
theorem d_X2_isLaid_1 : decode (mB M_X2_isLaid) 1 = .ok (.getfield 9, 3) := by decide +kernel
theorem d_X2_isLaid_4 : decode (mB M_X2_isLaid) 4 = .ok (.ifCond .le 7, 3) := by decide +kernel
theorem d_X2_isLaid_7 : decode (mB M_X2_isLaid) 7 = .ok (.iconst 1, 1) := by decide +kernel
theorem d_X2_isLaid_8 : decode (mB M_X2_isLaid) 8 = .ok (.goto 4, 3) := by decide +kernel
theorem d_X2_isLaid_11 : decode (mB M_X2_isLaid) 11 = .ok (.iconst 0, 1) := by decide +kernel
theorem d_X2_isLaid_12 : decode (mB M_X2_isLaid) 12 = .ok (.ireturn, 1) := by decide +kernel
theorem c_isLaid {E : mEnv} (hE : E.1.stackTraces = false) (r : Nat) (g : gT) (w : mW) (hg : mget w r = some (gcell g))  : Rt E M_X2_isLaid 0 [.ref r] w (some (.int (bI (decide (0 < gR g))))) w := by
  refine Rt.of hE rfl pn_X2 (Nat.le_of_ble_eq_true rfl) ?_
  refine g_eq (S' := (0, [some (.ref r)], [], w)) rfl ?_
  refine g_aload_n d_X2_isLaid_0 rfl ?_
  refine g_getf d_X2_isLaid_1 f_X2_9 hg rfl ?_
  refine g_if_le (tgt := 11) d_X2_isLaid_4 (by decide) (fun c_4 => ?_) (fun c_4 => ?_)
  · refine g_iconst (v := 0) d_X2_isLaid_11 (by decide) ?_
    exact g_retZ d_X2_isLaid_12 rfl (by decide) (by simp_all [bI]) (rfl)
  · refine g_iconst (v := 1) d_X2_isLaid_7 (by decide) ?_
    refine g_goto (tgt := 12) d_X2_isLaid_8 (by decide) ?_
    exact g_retZ d_X2_isLaid_12 rfl (by decide) (by simp_all [bI]) (rfl)
def gHp (g : gT) (i j : Int32) : Bool := if i < 0 then false else if gR g ≤ i then false else if j < 0 then false else if gC g ≤ j then false else true
theorem d_X2_hasPlace_0 : decode (mB M_X2_hasPlace) 0 = .ok (.iload_n 1, 1) := by decide +kernel
theorem d_X2_hasPlace_1 : decode (mB M_X2_hasPlace) 1 = .ok (.ifCond .lt 27, 3) := by decide +kernel
theorem d_X2_hasPlace_4 : decode (mB M_X2_hasPlace) 4 = .ok (.iload_n 1, 1) := by decide +kernel
theorem d_X2_hasPlace_5 : decode (mB M_X2_hasPlace) 5 = .ok (.aload_n 0, 1) := by decide +kernel
theorem d_X2_hasPlace_6 : decode (mB M_X2_hasPlace) 6 = .ok (.getfield 9, 3) := by decide +kernel
theorem d_X2_hasPlace_9 : decode (mB M_X2_hasPlace) 9 = .ok (.if_icmp .ge 19, 3) := by decide +kernel
theorem d_X2_hasPlace_12 : decode (mB M_X2_hasPlace) 12 = .ok (.iload_n 2, 1) := by decide +kernel
theorem d_X2_hasPlace_13 : decode (mB M_X2_hasPlace) 13 = .ok (.ifCond .lt 15, 3) := by decide +kernel
theorem d_X2_hasPlace_16 : decode (mB M_X2_hasPlace) 16 = .ok (.iload_n 2, 1) := by decide +kernel
theorem d_X2_hasPlace_17 : decode (mB M_X2_hasPlace) 17 = .ok (.aload_n 0, 1) := by decide +kernel
theorem d_X2_hasPlace_18 : decode (mB M_X2_hasPlace) 18 = .ok (.getfield 15, 3) := by decide +kernel
theorem d_X2_hasPlace_21 : decode (mB M_X2_hasPlace) 21 = .ok (.if_icmp .ge 7, 3) := by decide +kernel
theorem d_X2_hasPlace_24 : decode (mB M_X2_hasPlace) 24 = .ok (.iconst 1, 1) := by decide +kernel
theorem d_X2_hasPlace_25 : decode (mB M_X2_hasPlace) 25 = .ok (.goto 4, 3) := by decide +kernel
theorem d_X2_hasPlace_28 : decode (mB M_X2_hasPlace) 28 = .ok (.iconst 0, 1) := by decide +kernel
theorem d_X2_hasPlace_29 : decode (mB M_X2_hasPlace) 29 = .ok (.ireturn, 1) := by decide +kernel
theorem c_hasPlace {E : mEnv} (hE : E.1.stackTraces = false) (r : Nat) (g : gT) (w : mW) (hg : mget w r = some (gcell g)) (i j : Int32) : Rt E M_X2_hasPlace 0 [.ref r, .int i, .int j] w (some (.int (bI (gHp g i j)))) w := by
  refine Rt.of hE rfl pn_X2 (Nat.le_of_ble_eq_true rfl) ?_
  refine g_eq (S' := (0, [some (.ref r), some (.int i), some (.int j)], [], w)) rfl ?_
  refine g_iload_n d_X2_hasPlace_0 rfl ?_
  refine g_if_lt (tgt := 28) d_X2_hasPlace_1 (by decide) (fun c_1 => ?_) (fun c_1 => ?_)
  · refine g_iconst (v := 0) d_X2_hasPlace_28 (by decide) ?_
    exact g_retZ d_X2_hasPlace_29 rfl (by decide) (by simp [gHp, bI, *]) (rfl)
  · refine g_iload_n d_X2_hasPlace_4 rfl ?_
    refine g_aload_n d_X2_hasPlace_5 rfl ?_
    refine g_getf d_X2_hasPlace_6 f_X2_9 hg rfl ?_
    refine g_icmp_ge (tgt := 28) d_X2_hasPlace_9 (by decide) (fun c_9 => ?_) (fun c_9 => ?_)
    · refine g_iconst (v := 0) d_X2_hasPlace_28 (by decide) ?_
      exact g_retZ d_X2_hasPlace_29 rfl (by decide) (by simp [gHp, bI, *]) (rfl)
    · refine g_iload_n d_X2_hasPlace_12 rfl ?_
      refine g_if_lt (tgt := 28) d_X2_hasPlace_13 (by decide) (fun c_13 => ?_) (fun c_13 => ?_)
      · refine g_iconst (v := 0) d_X2_hasPlace_28 (by decide) ?_
        exact g_retZ d_X2_hasPlace_29 rfl (by decide) (by simp [gHp, bI, *]) (rfl)
      · refine g_iload_n d_X2_hasPlace_16 rfl ?_
        refine g_aload_n d_X2_hasPlace_17 rfl ?_
        refine g_getf d_X2_hasPlace_18 f_X2_15 hg rfl ?_
        refine g_icmp_ge (tgt := 28) d_X2_hasPlace_21 (by decide) (fun c_21 => ?_) (fun c_21 => ?_)
        · refine g_iconst (v := 0) d_X2_hasPlace_28 (by decide) ?_
          exact g_retZ d_X2_hasPlace_29 rfl (by decide) (by simp [gHp, bI, *]) (rfl)
        · refine g_iconst (v := 1) d_X2_hasPlace_24 (by decide) ?_
          refine g_goto (tgt := 29) d_X2_hasPlace_25 (by decide) ?_
          exact g_retZ d_X2_hasPlace_29 rfl (by decide) (by simp [gHp, bI, *]) (rfl)
def gLpL (g : gT) (s : Int64) : Nat → Nat → Int64 → Int64
  | 0, _, q => q
  | n + 1, k, q => gLpL g s n (k + 1) (q ||| gMv g (s &&& gMv g (gO g) (nI k)) (nI k))
def gLp (g : gT) (s : Int64) : Int64 := gLpL g s 4 0 0
theorem d_X2_lonePushed_0 : decode (mB M_X2_lonePushed) 0 = .ok (.lconst 0, 1) := by decide +kernel
theorem d_X2_lonePushed_1 : decode (mB M_X2_lonePushed) 1 = .ok (.lstore_n 3, 1) := by decide +kernel
theorem d_X2_lonePushed_2 : decode (mB M_X2_lonePushed) 2 = .ok (.iconst 0, 1) := by decide +kernel
theorem d_X2_lonePushed_3 : decode (mB M_X2_lonePushed) 3 = .ok (.istore 5, 2) := by decide +kernel
theorem d_X2_lonePushed_5 : decode (mB M_X2_lonePushed) 5 = .ok (.iload 5, 2) := by decide +kernel
theorem d_X2_lonePushed_7 : decode (mB M_X2_lonePushed) 7 = .ok (.iconst 4, 1) := by decide +kernel
theorem d_X2_lonePushed_8 : decode (mB M_X2_lonePushed) 8 = .ok (.if_icmp .ge 30, 3) := by decide +kernel
theorem d_X2_lonePushed_11 : decode (mB M_X2_lonePushed) 11 = .ok (.lload_n 3, 1) := by decide +kernel
theorem d_X2_lonePushed_12 : decode (mB M_X2_lonePushed) 12 = .ok (.aload_n 0, 1) := by decide +kernel
theorem d_X2_lonePushed_13 : decode (mB M_X2_lonePushed) 13 = .ok (.lload_n 1, 1) := by decide +kernel
theorem d_X2_lonePushed_14 : decode (mB M_X2_lonePushed) 14 = .ok (.aload_n 0, 1) := by decide +kernel
theorem d_X2_lonePushed_15 : decode (mB M_X2_lonePushed) 15 = .ok (.aload_n 0, 1) := by decide +kernel
theorem d_X2_lonePushed_16 : decode (mB M_X2_lonePushed) 16 = .ok (.getfield 18, 3) := by decide +kernel
theorem d_X2_lonePushed_19 : decode (mB M_X2_lonePushed) 19 = .ok (.iload 5, 2) := by decide +kernel
theorem d_X2_lonePushed_21 : decode (mB M_X2_lonePushed) 21 = .ok (.invokevirtual 50, 3) := by decide +kernel
theorem d_X2_lonePushed_24 : decode (mB M_X2_lonePushed) 24 = .ok (.land, 1) := by decide +kernel
theorem d_X2_lonePushed_25 : decode (mB M_X2_lonePushed) 25 = .ok (.iload 5, 2) := by decide +kernel
theorem d_X2_lonePushed_27 : decode (mB M_X2_lonePushed) 27 = .ok (.invokevirtual 50, 3) := by decide +kernel
theorem d_X2_lonePushed_30 : decode (mB M_X2_lonePushed) 30 = .ok (.lor, 1) := by decide +kernel
theorem d_X2_lonePushed_31 : decode (mB M_X2_lonePushed) 31 = .ok (.lstore_n 3, 1) := by decide +kernel
theorem d_X2_lonePushed_32 : decode (mB M_X2_lonePushed) 32 = .ok (.iinc 5 1, 3) := by decide +kernel
theorem d_X2_lonePushed_35 : decode (mB M_X2_lonePushed) 35 = .ok (.goto (-30), 3) := by decide +kernel
theorem d_X2_lonePushed_38 : decode (mB M_X2_lonePushed) 38 = .ok (.lload_n 3, 1) := by decide +kernel
theorem d_X2_lonePushed_39 : decode (mB M_X2_lonePushed) 39 = .ok (.lreturn, 1) := by decide +kernel
theorem l_lonePushed {E : mEnv} (hE : E.1.stackTraces = false) (r : Nat) (g : gT) (w : mW) (hg : mget w r = some (gcell g)) (s : Int64) : ∀ (n : Nat) (k : Nat) (q : Int64), k + n = 4 → Go E M_X2_lonePushed 0 (5, [some (.ref r), some (.long s), none, some (.long q), none, some (.int (nI k))], [], w) (.inr (.inl (some (.long (gLpL g s n k q)), w))) := by
  intro n
  induction n with
  | zero =>
    intro k q hk
    obtain rfl : k = 4 := by omega
    refine g_iload d_X2_lonePushed_5 rfl ?_
    refine g_iconst (v := 4) d_X2_lonePushed_7 (by decide) ?_
    refine g_icmp_ge (tgt := 38) d_X2_lonePushed_8 (by decide) (fun c_8 => ?_) (fun c_8 => absurd c_8 (absurd (nI_le (Nat.le_refl 4) (by decide)) c_8))
    refine g_lload_n d_X2_lonePushed_38 rfl ?_
    exact g_retL d_X2_lonePushed_39 rfl (rfl) (rfl)
  | succ n ih =>
    intro k q hk
    refine g_iload d_X2_lonePushed_5 rfl ?_
    refine g_iconst (v := 4) d_X2_lonePushed_7 (by decide) ?_
    refine g_icmp_ge (tgt := 38) d_X2_lonePushed_8 (by decide) (fun c_8 => absurd c_8 (nI_ge (a := k) (b := 4) (by omega) (by decide))) (fun c_8 => ?_)
    refine g_lload_n d_X2_lonePushed_11 rfl ?_
    refine g_aload_n d_X2_lonePushed_12 rfl ?_
    refine g_lload_n d_X2_lonePushed_13 rfl ?_
    refine g_aload_n d_X2_lonePushed_14 rfl ?_
    refine g_aload_n d_X2_lonePushed_15 rfl ?_
    refine g_getf d_X2_lonePushed_16 f_X2_18 hg rfl ?_
    refine g_iload d_X2_lonePushed_19 rfl ?_
    refine g_callV (As := [.long (gO g), .int (nI k)]) d_X2_lonePushed_21 o_X2_moved l_X2_50 ⟨Nat.le_of_ble_eq_true rfl, Nat.le_of_ble_eq_true rfl⟩ (c_moved hE r g w hg (gO g) (nI k)) hg rfl rfl rfl rfl rfl ?_ (Nat.zero_add _)
    refine g_land d_X2_lonePushed_24 ?_
    refine g_iload d_X2_lonePushed_25 rfl ?_
    refine g_callV (As := [.long (s &&& (gMv g (gO g) (nI k))), .int (nI k)]) d_X2_lonePushed_27 o_X2_moved l_X2_50 ⟨Nat.le_of_ble_eq_true rfl, Nat.le_of_ble_eq_true rfl⟩ (c_moved hE r g w hg (s &&& (gMv g (gO g) (nI k))) (nI k)) hg rfl rfl rfl rfl rfl ?_ (Nat.zero_add _)
    refine g_lor d_X2_lonePushed_30 ?_
    refine g_lstore_n (L' := [some (.ref r), some (.long s), none, some (.long (q ||| (gMv g (s &&& (gMv g (gO g) (nI k))) (nI k)))), none, some (.int (nI k))]) d_X2_lonePushed_31 rfl rfl ?_
    refine g_iinc (v := ((nI k) + 1)) (L' := [some (.ref r), some (.long s), none, some (.long (q ||| (gMv g (s &&& (gMv g (gO g) (nI k))) (nI k)))), none, some (.int ((nI k) + 1))]) d_X2_lonePushed_32 rfl rfl rfl ?_
    refine g_goto (tgt := 5) d_X2_lonePushed_35 (by decide) ?_
    refine g_eq (S' := (5, [some (.ref r), some (.long s), none, some (.long (q ||| gMv g (s &&& gMv g (gO g) (nI k)) (nI k))), none, some (.int (nI (k + 1)))], [], w)) (by first | rfl | (rw [nI_1]; rfl) | (simp only [nI_1]; rfl) | simp only [nI_1]) ?_
    exact ih (k + 1) _ (by omega)
theorem c_lonePushed {E : mEnv} (hE : E.1.stackTraces = false) (r : Nat) (g : gT) (w : mW) (hg : mget w r = some (gcell g)) (s : Int64) : Rt E M_X2_lonePushed 0 [.ref r, .long s] w (some (.long (gLp g s))) w := by
  refine Rt.of hE rfl pn_X2 (Nat.le_of_ble_eq_true rfl) ?_
  refine g_eq (S' := (0, [some (.ref r), some (.long s), none, none, none, none], [], w)) rfl ?_
  refine g_lconst (v := 0) d_X2_lonePushed_0 (by decide) ?_
  refine g_lstore_n (L' := [some (.ref r), some (.long s), none, some (.long 0), none, none]) d_X2_lonePushed_1 rfl rfl ?_
  refine g_iconst (v := 0) d_X2_lonePushed_2 (by decide) ?_
  refine g_istore (L' := [some (.ref r), some (.long s), none, some (.long 0), none, some (.int 0)]) d_X2_lonePushed_3 rfl rfl ?_
  refine g_eq (S' := (5, [some (.ref r), some (.long s), none, some (.long 0), none, some (.int (nI 0))], [], w)) (rfl) ?_
  exact l_lonePushed hE r g w hg s 4 0 _ (by omega)
def gLeL (g : gT) (t : Int64) : Nat → Nat → Int64 → Int64 → Int32
  | 0, _, _, _ => -1
  | n + 1, k, a, b => if a = 0 then -1 else if a &&& t = 0 then gLeL g t n (k + 1) (gLp g a &&& (b ^^^ (-1))) (b ||| (gLp g a &&& (b ^^^ (-1)))) else nI k
def gLe (g : gT) (s t : Int64) : Int32 := gLeL g t 64 0 s s
theorem d_X2_leastPushes_0 : decode (mB M_X2_leastPushes) 0 = .ok (.lload_n 1, 1) := by decide +kernel
theorem d_X2_leastPushes_1 : decode (mB M_X2_leastPushes) 1 = .ok (.lstore 5, 2) := by decide +kernel
theorem d_X2_leastPushes_3 : decode (mB M_X2_leastPushes) 3 = .ok (.lload_n 1, 1) := by decide +kernel
theorem d_X2_leastPushes_4 : decode (mB M_X2_leastPushes) 4 = .ok (.lstore 7, 2) := by decide +kernel
theorem d_X2_leastPushes_6 : decode (mB M_X2_leastPushes) 6 = .ok (.iconst 0, 1) := by decide +kernel
theorem d_X2_leastPushes_7 : decode (mB M_X2_leastPushes) 7 = .ok (.istore 9, 2) := by decide +kernel
theorem d_X2_leastPushes_9 : decode (mB M_X2_leastPushes) 9 = .ok (.iload 9, 2) := by decide +kernel
theorem d_X2_leastPushes_11 : decode (mB M_X2_leastPushes) 11 = .ok (.bipush 64, 2) := by decide +kernel
theorem d_X2_leastPushes_13 : decode (mB M_X2_leastPushes) 13 = .ok (.if_icmp .ge 50, 3) := by decide +kernel
theorem d_X2_leastPushes_16 : decode (mB M_X2_leastPushes) 16 = .ok (.lload 5, 2) := by decide +kernel
theorem d_X2_leastPushes_18 : decode (mB M_X2_leastPushes) 18 = .ok (.lconst 0, 1) := by decide +kernel
theorem d_X2_leastPushes_19 : decode (mB M_X2_leastPushes) 19 = .ok (.lcmp, 1) := by decide +kernel
theorem d_X2_leastPushes_20 : decode (mB M_X2_leastPushes) 20 = .ok (.ifCond .eq 43, 3) := by decide +kernel
theorem d_X2_leastPushes_23 : decode (mB M_X2_leastPushes) 23 = .ok (.lload 5, 2) := by decide +kernel
theorem d_X2_leastPushes_25 : decode (mB M_X2_leastPushes) 25 = .ok (.lload_n 3, 1) := by decide +kernel
theorem d_X2_leastPushes_26 : decode (mB M_X2_leastPushes) 26 = .ok (.land, 1) := by decide +kernel
theorem d_X2_leastPushes_27 : decode (mB M_X2_leastPushes) 27 = .ok (.lconst 0, 1) := by decide +kernel
theorem d_X2_leastPushes_28 : decode (mB M_X2_leastPushes) 28 = .ok (.lcmp, 1) := by decide +kernel
theorem d_X2_leastPushes_29 : decode (mB M_X2_leastPushes) 29 = .ok (.ifCond .eq 6, 3) := by decide +kernel
theorem d_X2_leastPushes_32 : decode (mB M_X2_leastPushes) 32 = .ok (.iload 9, 2) := by decide +kernel
theorem d_X2_leastPushes_34 : decode (mB M_X2_leastPushes) 34 = .ok (.ireturn, 1) := by decide +kernel
theorem d_X2_leastPushes_35 : decode (mB M_X2_leastPushes) 35 = .ok (.aload_n 0, 1) := by decide +kernel
theorem d_X2_leastPushes_36 : decode (mB M_X2_leastPushes) 36 = .ok (.lload 5, 2) := by decide +kernel
theorem d_X2_leastPushes_38 : decode (mB M_X2_leastPushes) 38 = .ok (.invokevirtual 65, 3) := by decide +kernel
theorem d_X2_leastPushes_41 : decode (mB M_X2_leastPushes) 41 = .ok (.lload 7, 2) := by decide +kernel
theorem d_X2_leastPushes_43 : decode (mB M_X2_leastPushes) 43 = .ok (.ldc2_w 48, 3) := by decide +kernel
theorem d_X2_leastPushes_46 : decode (mB M_X2_leastPushes) 46 = .ok (.lxor, 1) := by decide +kernel
theorem d_X2_leastPushes_47 : decode (mB M_X2_leastPushes) 47 = .ok (.land, 1) := by decide +kernel
theorem d_X2_leastPushes_48 : decode (mB M_X2_leastPushes) 48 = .ok (.lstore 5, 2) := by decide +kernel
theorem d_X2_leastPushes_50 : decode (mB M_X2_leastPushes) 50 = .ok (.lload 7, 2) := by decide +kernel
theorem d_X2_leastPushes_52 : decode (mB M_X2_leastPushes) 52 = .ok (.lload 5, 2) := by decide +kernel
theorem d_X2_leastPushes_54 : decode (mB M_X2_leastPushes) 54 = .ok (.lor, 1) := by decide +kernel
theorem d_X2_leastPushes_55 : decode (mB M_X2_leastPushes) 55 = .ok (.lstore 7, 2) := by decide +kernel
theorem d_X2_leastPushes_57 : decode (mB M_X2_leastPushes) 57 = .ok (.iinc 9 1, 3) := by decide +kernel
theorem d_X2_leastPushes_60 : decode (mB M_X2_leastPushes) 60 = .ok (.goto (-51), 3) := by decide +kernel
theorem d_X2_leastPushes_63 : decode (mB M_X2_leastPushes) 63 = .ok (.iconst (-1), 1) := by decide +kernel
theorem d_X2_leastPushes_64 : decode (mB M_X2_leastPushes) 64 = .ok (.ireturn, 1) := by decide +kernel
theorem l_leastPushes {E : mEnv} (hE : E.1.stackTraces = false) (r : Nat) (g : gT) (w : mW) (hg : mget w r = some (gcell g)) (t : Int64) : ∀ (n : Nat) (k : Nat) (a b : Int64), k + n = 64 → Go E M_X2_leastPushes 0 (9, [some (.ref r), none, none, some (.long t), none, some (.long a), none, some (.long b), none, some (.int (nI k))], [], w) (.inr (.inl (some (.int (gLeL g t n k a b)), w))) := by
  intro n
  induction n with
  | zero =>
    intro k a b hk
    obtain rfl : k = 64 := by omega
    refine g_iload d_X2_leastPushes_9 rfl ?_
    refine g_bipush (v := 64) d_X2_leastPushes_11 (by decide) ?_
    refine g_icmp_ge (tgt := 63) d_X2_leastPushes_13 (by decide) (fun c_13 => ?_) (fun c_13 => absurd c_13 (absurd (nI_le (Nat.le_refl 64) (by decide)) c_13))
    refine g_iconst (v := (-1)) d_X2_leastPushes_63 (by decide) ?_
    exact g_retI d_X2_leastPushes_64 rfl (rfl) (rfl)
  | succ n ih =>
    intro k a b hk
    refine g_iload d_X2_leastPushes_9 rfl ?_
    refine g_bipush (v := 64) d_X2_leastPushes_11 (by decide) ?_
    refine g_icmp_ge (tgt := 63) d_X2_leastPushes_13 (by decide) (fun c_13 => absurd c_13 (nI_ge (a := k) (b := 64) (by omega) (by decide))) (fun c_13 => ?_)
    refine g_lload d_X2_leastPushes_16 rfl ?_
    refine g_lconst (v := 0) d_X2_leastPushes_18 (by decide) ?_
    refine g_lcmp_eq (tgt := 63) d_X2_leastPushes_19 d_X2_leastPushes_20 (by decide) (fun c_19 => ?_) (fun c_19 => ?_)
    · refine g_iconst (v := (-1)) d_X2_leastPushes_63 (by decide) ?_
      exact g_retI d_X2_leastPushes_64 rfl (by first | (simp only [gLeL, *, ↓reduceIte]; done) | (simp [gLeL, *]; done)) (rfl)
    · refine g_lload d_X2_leastPushes_23 rfl ?_
      refine g_lload_n d_X2_leastPushes_25 rfl ?_
      refine g_land d_X2_leastPushes_26 ?_
      refine g_lconst (v := 0) d_X2_leastPushes_27 (by decide) ?_
      refine g_lcmp_eq (tgt := 35) d_X2_leastPushes_28 d_X2_leastPushes_29 (by decide) (fun c_28 => ?_) (fun c_28 => ?_)
      · refine g_aload_n d_X2_leastPushes_35 rfl ?_
        refine g_lload d_X2_leastPushes_36 rfl ?_
        refine g_callV (As := [.long a]) d_X2_leastPushes_38 o_X2_lonePushed l_X2_65 ⟨Nat.le_of_ble_eq_true rfl, Nat.le_of_ble_eq_true rfl⟩ (c_lonePushed hE r g w hg a) hg rfl rfl rfl rfl rfl ?_ (Nat.zero_add _)
        refine g_lload d_X2_leastPushes_41 rfl ?_
        refine g_ldc2 (v := (-1)) d_X2_leastPushes_43 k_X2_48 ?_
        refine g_lxor d_X2_leastPushes_46 ?_
        refine g_land d_X2_leastPushes_47 ?_
        refine g_lstore (L' := [some (.ref r), none, none, some (.long t), none, some (.long ((gLp g a) &&& (b ^^^ (-1)))), none, some (.long b), none, some (.int (nI k))]) d_X2_leastPushes_48 rfl rfl ?_
        refine g_lload d_X2_leastPushes_50 rfl ?_
        refine g_lload d_X2_leastPushes_52 rfl ?_
        refine g_lor d_X2_leastPushes_54 ?_
        refine g_lstore (L' := [some (.ref r), none, none, some (.long t), none, some (.long ((gLp g a) &&& (b ^^^ (-1)))), none, some (.long (b ||| ((gLp g a) &&& (b ^^^ (-1))))), none, some (.int (nI k))]) d_X2_leastPushes_55 rfl rfl ?_
        refine g_iinc (v := ((nI k) + 1)) (L' := [some (.ref r), none, none, some (.long t), none, some (.long ((gLp g a) &&& (b ^^^ (-1)))), none, some (.long (b ||| ((gLp g a) &&& (b ^^^ (-1))))), none, some (.int ((nI k) + 1))]) d_X2_leastPushes_57 rfl rfl rfl ?_
        refine g_goto (tgt := 9) d_X2_leastPushes_60 (by decide) ?_
        refine g_eq (S' := (9, [some (.ref r), none, none, some (.long t), none, some (.long (gLp g a &&& (b ^^^ (-1)))), none, some (.long (b ||| (gLp g a &&& (b ^^^ (-1))))), none, some (.int (nI (k + 1)))], [], w)) (by first | rfl | (rw [nI_1]; rfl) | (simp only [nI_1]; rfl) | simp only [nI_1]) ?_
        rw [show gLeL g t (n + 1) k a b = gLeL g t n (k + 1) (gLp g a &&& (b ^^^ (-1))) (b ||| (gLp g a &&& (b ^^^ (-1)))) by simp only [gLeL, *, ↓reduceIte]]
        exact ih (k + 1) _ _ (by omega)
      · refine g_iload d_X2_leastPushes_32 rfl ?_
        exact g_retI d_X2_leastPushes_34 rfl (by first | (simp only [gLeL, *, ↓reduceIte]; done) | (simp [gLeL, *]; done)) (rfl)
theorem c_leastPushes {E : mEnv} (hE : E.1.stackTraces = false) (r : Nat) (g : gT) (w : mW) (hg : mget w r = some (gcell g)) (s t : Int64) : Rt E M_X2_leastPushes 0 [.ref r, .long s, .long t] w (some (.int (gLe g s t))) w := by
  refine Rt.of hE rfl pn_X2 (Nat.le_of_ble_eq_true rfl) ?_
  refine g_eq (S' := (0, [some (.ref r), some (.long s), none, some (.long t), none, none, none, none, none, none], [], w)) rfl ?_
  refine g_lload_n d_X2_leastPushes_0 rfl ?_
  refine g_lstore (L' := [some (.ref r), some (.long s), none, some (.long t), none, some (.long s), none, none, none, none]) d_X2_leastPushes_1 rfl rfl ?_
  refine g_lload_n d_X2_leastPushes_3 rfl ?_
  refine g_lstore (L' := [some (.ref r), some (.long s), none, some (.long t), none, some (.long s), none, some (.long s), none, none]) d_X2_leastPushes_4 rfl rfl ?_
  refine g_iconst (v := 0) d_X2_leastPushes_6 (by decide) ?_
  refine g_istore (L' := [some (.ref r), some (.long s), none, some (.long t), none, some (.long s), none, some (.long s), none, some (.int 0)]) d_X2_leastPushes_7 rfl rfl ?_
  refine g_drop [1] (L1 := [some (.ref r), none, none, some (.long t), none, some (.long s), none, some (.long s), none, some (.int 0)]) rfl ?_
  refine g_eq (S' := (9, [some (.ref r), none, none, some (.long t), none, some (.long s), none, some (.long s), none, some (.int (nI 0))], [], w)) (rfl) ?_
  exact l_leastPushes hE r g w hg t 64 0 _ _ (by omega)
def gGrL (g : gT) (s : Int64) : Nat → Int64 → Int32 → Int32
  | 0, _, m => m
  | n + 1, q, m => if q = 0 then m else gGrL g s n (q &&& (gSp g (q &&& (-q)) s ^^^ (-1))) (m + 1)
def gGr (g : gT) (s : Int64) : Int32 := gGrL g s 64 s 0
theorem d_X2_groups_0 : decode (mB M_X2_groups) 0 = .ok (.iconst 0, 1) := by decide +kernel
theorem d_X2_groups_1 : decode (mB M_X2_groups) 1 = .ok (.istore_n 3, 1) := by decide +kernel
theorem d_X2_groups_2 : decode (mB M_X2_groups) 2 = .ok (.lload_n 1, 1) := by decide +kernel
theorem d_X2_groups_3 : decode (mB M_X2_groups) 3 = .ok (.lstore 4, 2) := by decide +kernel
theorem d_X2_groups_5 : decode (mB M_X2_groups) 5 = .ok (.iconst 0, 1) := by decide +kernel
theorem d_X2_groups_6 : decode (mB M_X2_groups) 6 = .ok (.istore 6, 2) := by decide +kernel
theorem d_X2_groups_8 : decode (mB M_X2_groups) 8 = .ok (.iload 6, 2) := by decide +kernel
theorem d_X2_groups_10 : decode (mB M_X2_groups) 10 = .ok (.bipush 64, 2) := by decide +kernel
theorem d_X2_groups_12 : decode (mB M_X2_groups) 12 = .ok (.if_icmp .ge 39, 3) := by decide +kernel
theorem d_X2_groups_15 : decode (mB M_X2_groups) 15 = .ok (.lload 4, 2) := by decide +kernel
theorem d_X2_groups_17 : decode (mB M_X2_groups) 17 = .ok (.lconst 0, 1) := by decide +kernel
theorem d_X2_groups_18 : decode (mB M_X2_groups) 18 = .ok (.lcmp, 1) := by decide +kernel
theorem d_X2_groups_19 : decode (mB M_X2_groups) 19 = .ok (.ifCond .eq 32, 3) := by decide +kernel
theorem d_X2_groups_22 : decode (mB M_X2_groups) 22 = .ok (.lload 4, 2) := by decide +kernel
theorem d_X2_groups_24 : decode (mB M_X2_groups) 24 = .ok (.aload_n 0, 1) := by decide +kernel
theorem d_X2_groups_25 : decode (mB M_X2_groups) 25 = .ok (.lload 4, 2) := by decide +kernel
theorem d_X2_groups_27 : decode (mB M_X2_groups) 27 = .ok (.lload 4, 2) := by decide +kernel
theorem d_X2_groups_29 : decode (mB M_X2_groups) 29 = .ok (.lneg, 1) := by decide +kernel
theorem d_X2_groups_30 : decode (mB M_X2_groups) 30 = .ok (.land, 1) := by decide +kernel
theorem d_X2_groups_31 : decode (mB M_X2_groups) 31 = .ok (.lload_n 1, 1) := by decide +kernel
theorem d_X2_groups_32 : decode (mB M_X2_groups) 32 = .ok (.invokevirtual 57, 3) := by decide +kernel
theorem d_X2_groups_35 : decode (mB M_X2_groups) 35 = .ok (.ldc2_w 48, 3) := by decide +kernel
theorem d_X2_groups_38 : decode (mB M_X2_groups) 38 = .ok (.lxor, 1) := by decide +kernel
theorem d_X2_groups_39 : decode (mB M_X2_groups) 39 = .ok (.land, 1) := by decide +kernel
theorem d_X2_groups_40 : decode (mB M_X2_groups) 40 = .ok (.lstore 4, 2) := by decide +kernel
theorem d_X2_groups_42 : decode (mB M_X2_groups) 42 = .ok (.iinc 3 1, 3) := by decide +kernel
theorem d_X2_groups_45 : decode (mB M_X2_groups) 45 = .ok (.iinc 6 1, 3) := by decide +kernel
theorem d_X2_groups_48 : decode (mB M_X2_groups) 48 = .ok (.goto (-40), 3) := by decide +kernel
theorem d_X2_groups_51 : decode (mB M_X2_groups) 51 = .ok (.iload_n 3, 1) := by decide +kernel
theorem d_X2_groups_52 : decode (mB M_X2_groups) 52 = .ok (.ireturn, 1) := by decide +kernel
theorem l_groups {E : mEnv} (hE : E.1.stackTraces = false) (r : Nat) (g : gT) (w : mW) (hg : mget w r = some (gcell g)) (s : Int64) : ∀ (n : Nat) (k : Nat) (q : Int64) (m : Int32), k + n = 64 → Go E M_X2_groups 0 (8, [some (.ref r), some (.long s), none, some (.int m), some (.long q), none, some (.int (nI k))], [], w) (.inr (.inl (some (.int (gGrL g s n q m)), w))) := by
  intro n
  induction n with
  | zero =>
    intro k q m hk
    obtain rfl : k = 64 := by omega
    refine g_iload d_X2_groups_8 rfl ?_
    refine g_bipush (v := 64) d_X2_groups_10 (by decide) ?_
    refine g_icmp_ge (tgt := 51) d_X2_groups_12 (by decide) (fun c_12 => ?_) (fun c_12 => absurd c_12 (absurd (nI_le (Nat.le_refl 64) (by decide)) c_12))
    refine g_iload_n d_X2_groups_51 rfl ?_
    exact g_retI d_X2_groups_52 rfl (rfl) (rfl)
  | succ n ih =>
    intro k q m hk
    refine g_iload d_X2_groups_8 rfl ?_
    refine g_bipush (v := 64) d_X2_groups_10 (by decide) ?_
    refine g_icmp_ge (tgt := 51) d_X2_groups_12 (by decide) (fun c_12 => absurd c_12 (nI_ge (a := k) (b := 64) (by omega) (by decide))) (fun c_12 => ?_)
    refine g_lload d_X2_groups_15 rfl ?_
    refine g_lconst (v := 0) d_X2_groups_17 (by decide) ?_
    refine g_lcmp_eq (tgt := 51) d_X2_groups_18 d_X2_groups_19 (by decide) (fun c_18 => ?_) (fun c_18 => ?_)
    · refine g_iload_n d_X2_groups_51 rfl ?_
      exact g_retI d_X2_groups_52 rfl (by first | (simp only [gGrL, *, ↓reduceIte]; done) | (simp [gGrL, *]; done)) (rfl)
    · refine g_lload d_X2_groups_22 rfl ?_
      refine g_aload_n d_X2_groups_24 rfl ?_
      refine g_lload d_X2_groups_25 rfl ?_
      refine g_lload d_X2_groups_27 rfl ?_
      refine g_lneg d_X2_groups_29 ?_
      refine g_land d_X2_groups_30 ?_
      refine g_lload_n d_X2_groups_31 rfl ?_
      refine g_callV (As := [.long (q &&& (-q)), .long s]) d_X2_groups_32 o_X2_spread l_X2_57 ⟨Nat.le_of_ble_eq_true rfl, Nat.le_of_ble_eq_true rfl⟩ (c_spread hE r g w hg (q &&& (-q)) s) hg rfl rfl rfl rfl rfl ?_ (Nat.zero_add _)
      refine g_ldc2 (v := (-1)) d_X2_groups_35 k_X2_48 ?_
      refine g_lxor d_X2_groups_38 ?_
      refine g_land d_X2_groups_39 ?_
      refine g_lstore (L' := [some (.ref r), some (.long s), none, some (.int m), some (.long (q &&& ((gSp g (q &&& (-q)) s) ^^^ (-1)))), none, some (.int (nI k))]) d_X2_groups_40 rfl rfl ?_
      refine g_iinc (v := (m + 1)) (L' := [some (.ref r), some (.long s), none, some (.int (m + 1)), some (.long (q &&& ((gSp g (q &&& (-q)) s) ^^^ (-1)))), none, some (.int (nI k))]) d_X2_groups_42 rfl rfl rfl ?_
      refine g_iinc (v := ((nI k) + 1)) (L' := [some (.ref r), some (.long s), none, some (.int (m + 1)), some (.long (q &&& ((gSp g (q &&& (-q)) s) ^^^ (-1)))), none, some (.int ((nI k) + 1))]) d_X2_groups_45 rfl rfl rfl ?_
      refine g_goto (tgt := 8) d_X2_groups_48 (by decide) ?_
      refine g_eq (S' := (8, [some (.ref r), some (.long s), none, some (.int (m + 1)), some (.long (q &&& (gSp g (q &&& (-q)) s ^^^ (-1)))), none, some (.int (nI (k + 1)))], [], w)) (by first | rfl | (rw [nI_1]; rfl) | (simp only [nI_1]; rfl) | simp only [nI_1]) ?_
      rw [show gGrL g s (n + 1) q m = gGrL g s n (q &&& (gSp g (q &&& (-q)) s ^^^ (-1))) (m + 1) by simp only [gGrL, *, ↓reduceIte]]
      exact ih (k + 1) _ _ (by omega)
theorem c_groups {E : mEnv} (hE : E.1.stackTraces = false) (r : Nat) (g : gT) (w : mW) (hg : mget w r = some (gcell g)) (s : Int64) : Rt E M_X2_groups 0 [.ref r, .long s] w (some (.int (gGr g s))) w := by
  refine Rt.of hE rfl pn_X2 (Nat.le_of_ble_eq_true rfl) ?_
  refine g_eq (S' := (0, [some (.ref r), some (.long s), none, none, none, none, none], [], w)) rfl ?_
  refine g_iconst (v := 0) d_X2_groups_0 (by decide) ?_
  refine g_istore_n (L' := [some (.ref r), some (.long s), none, some (.int 0), none, none, none]) d_X2_groups_1 rfl rfl ?_
  refine g_lload_n d_X2_groups_2 rfl ?_
  refine g_lstore (L' := [some (.ref r), some (.long s), none, some (.int 0), some (.long s), none, none]) d_X2_groups_3 rfl rfl ?_
  refine g_iconst (v := 0) d_X2_groups_5 (by decide) ?_
  refine g_istore (L' := [some (.ref r), some (.long s), none, some (.int 0), some (.long s), none, some (.int 0)]) d_X2_groups_6 rfl rfl ?_
  refine g_eq (S' := (8, [some (.ref r), some (.long s), none, some (.int 0), some (.long s), none, some (.int (nI 0))], [], w)) (rfl) ?_
  exact l_groups hE r g w hg s 64 0 _ _ (by omega)
def gPlI (g : gT) (q : Int64) : Nat → Nat → Int64 → Int64
  | 0, _, m => m
  | n + 1, k, m => gPlI g q n (k + 1) (m ||| (gMv g q ((nI k + 2) &&& 3) &&& gMv g (gO g) (nI k)))
def gPlS (g : gT) (q : Int64) : Int64 := gPlI g q 4 0 q
def gPlL (g : gT) : Nat → Int64 → Int64
  | 0, q => q
  | n + 1, q => if gPlS g q = q then q else gPlL g n (gPlS g q)
def gPl (g : gT) (s : Int64) : Int64 := gPlL g 64 s
theorem d_X2_pulled_0 : decode (mB M_X2_pulled) 0 = .ok (.lload_n 1, 1) := by decide +kernel
theorem d_X2_pulled_1 : decode (mB M_X2_pulled) 1 = .ok (.lstore_n 3, 1) := by decide +kernel
theorem d_X2_pulled_2 : decode (mB M_X2_pulled) 2 = .ok (.iconst 0, 1) := by decide +kernel
theorem d_X2_pulled_3 : decode (mB M_X2_pulled) 3 = .ok (.istore 5, 2) := by decide +kernel
theorem d_X2_pulled_5 : decode (mB M_X2_pulled) 5 = .ok (.iload 5, 2) := by decide +kernel
theorem d_X2_pulled_7 : decode (mB M_X2_pulled) 7 = .ok (.bipush 64, 2) := by decide +kernel
theorem d_X2_pulled_9 : decode (mB M_X2_pulled) 9 = .ok (.if_icmp .ge 66, 3) := by decide +kernel
theorem d_X2_pulled_12 : decode (mB M_X2_pulled) 12 = .ok (.lload_n 3, 1) := by decide +kernel
theorem d_X2_pulled_13 : decode (mB M_X2_pulled) 13 = .ok (.lstore 6, 2) := by decide +kernel
theorem d_X2_pulled_15 : decode (mB M_X2_pulled) 15 = .ok (.iconst 0, 1) := by decide +kernel
theorem d_X2_pulled_16 : decode (mB M_X2_pulled) 16 = .ok (.istore 8, 2) := by decide +kernel
theorem d_X2_pulled_18 : decode (mB M_X2_pulled) 18 = .ok (.iload 8, 2) := by decide +kernel
theorem d_X2_pulled_20 : decode (mB M_X2_pulled) 20 = .ok (.iconst 4, 1) := by decide +kernel
theorem d_X2_pulled_21 : decode (mB M_X2_pulled) 21 = .ok (.if_icmp .ge 35, 3) := by decide +kernel
theorem d_X2_pulled_24 : decode (mB M_X2_pulled) 24 = .ok (.lload 6, 2) := by decide +kernel
theorem d_X2_pulled_26 : decode (mB M_X2_pulled) 26 = .ok (.aload_n 0, 1) := by decide +kernel
theorem d_X2_pulled_27 : decode (mB M_X2_pulled) 27 = .ok (.lload_n 3, 1) := by decide +kernel
theorem d_X2_pulled_28 : decode (mB M_X2_pulled) 28 = .ok (.iload 8, 2) := by decide +kernel
theorem d_X2_pulled_30 : decode (mB M_X2_pulled) 30 = .ok (.invokestatic 61, 3) := by decide +kernel
theorem d_X2_pulled_33 : decode (mB M_X2_pulled) 33 = .ok (.invokevirtual 50, 3) := by decide +kernel
theorem d_X2_pulled_36 : decode (mB M_X2_pulled) 36 = .ok (.aload_n 0, 1) := by decide +kernel
theorem d_X2_pulled_37 : decode (mB M_X2_pulled) 37 = .ok (.aload_n 0, 1) := by decide +kernel
theorem d_X2_pulled_38 : decode (mB M_X2_pulled) 38 = .ok (.getfield 18, 3) := by decide +kernel
theorem d_X2_pulled_41 : decode (mB M_X2_pulled) 41 = .ok (.iload 8, 2) := by decide +kernel
theorem d_X2_pulled_43 : decode (mB M_X2_pulled) 43 = .ok (.invokevirtual 50, 3) := by decide +kernel
theorem d_X2_pulled_46 : decode (mB M_X2_pulled) 46 = .ok (.land, 1) := by decide +kernel
theorem d_X2_pulled_47 : decode (mB M_X2_pulled) 47 = .ok (.lor, 1) := by decide +kernel
theorem d_X2_pulled_48 : decode (mB M_X2_pulled) 48 = .ok (.lstore 6, 2) := by decide +kernel
theorem d_X2_pulled_50 : decode (mB M_X2_pulled) 50 = .ok (.iinc 8 1, 3) := by decide +kernel
theorem d_X2_pulled_53 : decode (mB M_X2_pulled) 53 = .ok (.goto (-35), 3) := by decide +kernel
theorem d_X2_pulled_56 : decode (mB M_X2_pulled) 56 = .ok (.lload 6, 2) := by decide +kernel
theorem d_X2_pulled_58 : decode (mB M_X2_pulled) 58 = .ok (.lload_n 3, 1) := by decide +kernel
theorem d_X2_pulled_59 : decode (mB M_X2_pulled) 59 = .ok (.lcmp, 1) := by decide +kernel
theorem d_X2_pulled_60 : decode (mB M_X2_pulled) 60 = .ok (.ifCond .ne 6, 3) := by decide +kernel
theorem d_X2_pulled_63 : decode (mB M_X2_pulled) 63 = .ok (.goto 12, 3) := by decide +kernel
theorem d_X2_pulled_66 : decode (mB M_X2_pulled) 66 = .ok (.lload 6, 2) := by decide +kernel
theorem d_X2_pulled_68 : decode (mB M_X2_pulled) 68 = .ok (.lstore_n 3, 1) := by decide +kernel
theorem d_X2_pulled_69 : decode (mB M_X2_pulled) 69 = .ok (.iinc 5 1, 3) := by decide +kernel
theorem d_X2_pulled_72 : decode (mB M_X2_pulled) 72 = .ok (.goto (-67), 3) := by decide +kernel
theorem d_X2_pulled_75 : decode (mB M_X2_pulled) 75 = .ok (.lload_n 3, 1) := by decide +kernel
theorem d_X2_pulled_76 : decode (mB M_X2_pulled) 76 = .ok (.lreturn, 1) := by decide +kernel
theorem l_pulledI {E : mEnv} (hE : E.1.stackTraces = false) (r : Nat) (g : gT) (w : mW) (hg : mget w r = some (gcell g)) (q : Int64) (j : Int32) : ∀ (n : Nat) (k : Nat) (m : Int64), k + n = 4 → Go E M_X2_pulled 0 (18, [some (.ref r), none, none, some (.long q), none, some (.int j), some (.long m), none, some (.int (nI k))], [], w) (.inl (56, [some (.ref r), none, none, some (.long q), none, some (.int j), some (.long (gPlI g q n k m)), none, none], [], w)) := by
  intro n
  induction n with
  | zero =>
    intro k m hk
    obtain rfl : k = 4 := by omega
    refine g_iload d_X2_pulled_18 rfl ?_
    refine g_iconst (v := 4) d_X2_pulled_20 (by decide) ?_
    refine g_icmp_ge (tgt := 56) d_X2_pulled_21 (by decide) (fun c_21 => ?_) (fun c_21 => absurd c_21 (absurd (nI_le (Nat.le_refl 4) (by decide)) c_21))
    refine g_drop [8] rfl ?_
    exact g_end rfl
  | succ n ih =>
    intro k m hk
    refine g_iload d_X2_pulled_18 rfl ?_
    refine g_iconst (v := 4) d_X2_pulled_20 (by decide) ?_
    refine g_icmp_ge (tgt := 56) d_X2_pulled_21 (by decide) (fun c_21 => absurd c_21 (nI_ge (a := k) (b := 4) (by omega) (by decide))) (fun c_21 => ?_)
    refine g_lload d_X2_pulled_24 rfl ?_
    refine g_aload_n d_X2_pulled_26 rfl ?_
    refine g_lload_n d_X2_pulled_27 rfl ?_
    refine g_iload d_X2_pulled_28 rfl ?_
    refine g_callN (As := [.int (nI k)]) d_X2_pulled_30 o_X11_opposite n_X2_61 ⟨Nat.le_of_ble_eq_true rfl, Nat.le_of_ble_eq_true rfl⟩ (c_opposite hE (nI k) _) rfl rfl ?_ (Nat.zero_add _)
    refine g_callV (As := [.long q, .int (((nI k) + 2) &&& 3)]) d_X2_pulled_33 o_X2_moved l_X2_50 ⟨Nat.le_of_ble_eq_true rfl, Nat.le_of_ble_eq_true rfl⟩ (c_moved hE r g w hg q (((nI k) + 2) &&& 3)) hg rfl rfl rfl rfl rfl ?_ (Nat.zero_add _)
    refine g_aload_n d_X2_pulled_36 rfl ?_
    refine g_aload_n d_X2_pulled_37 rfl ?_
    refine g_getf d_X2_pulled_38 f_X2_18 hg rfl ?_
    refine g_iload d_X2_pulled_41 rfl ?_
    refine g_callV (As := [.long (gO g), .int (nI k)]) d_X2_pulled_43 o_X2_moved l_X2_50 ⟨Nat.le_of_ble_eq_true rfl, Nat.le_of_ble_eq_true rfl⟩ (c_moved hE r g w hg (gO g) (nI k)) hg rfl rfl rfl rfl rfl ?_ (Nat.zero_add _)
    refine g_land d_X2_pulled_46 ?_
    refine g_lor d_X2_pulled_47 ?_
    refine g_lstore (L' := [some (.ref r), none, none, some (.long q), none, some (.int j), some (.long (m ||| ((gMv g q (((nI k) + 2) &&& 3)) &&& (gMv g (gO g) (nI k))))), none, some (.int (nI k))]) d_X2_pulled_48 rfl rfl ?_
    refine g_iinc (v := ((nI k) + 1)) (L' := [some (.ref r), none, none, some (.long q), none, some (.int j), some (.long (m ||| ((gMv g q (((nI k) + 2) &&& 3)) &&& (gMv g (gO g) (nI k))))), none, some (.int ((nI k) + 1))]) d_X2_pulled_50 rfl rfl rfl ?_
    refine g_goto (tgt := 18) d_X2_pulled_53 (by decide) ?_
    refine g_eq (S' := (18, [some (.ref r), none, none, some (.long q), none, some (.int j), some (.long (m ||| (gMv g q ((nI k + 2) &&& 3) &&& gMv g (gO g) (nI k)))), none, some (.int (nI (k + 1)))], [], w)) (by first | rfl | (rw [nI_1]; rfl) | (simp only [nI_1]; rfl) | simp only [nI_1]) ?_
    exact ih (k + 1) _ (by omega)
theorem l_pulled {E : mEnv} (hE : E.1.stackTraces = false) (r : Nat) (g : gT) (w : mW) (hg : mget w r = some (gcell g)) : ∀ (n : Nat) (k : Nat) (q : Int64), k + n = 64 → Go E M_X2_pulled 0 (5, [some (.ref r), none, none, some (.long q), none, some (.int (nI k)), none, none, none], [], w) (.inr (.inl (some (.long (gPlL g n q)), w))) := by
  intro n
  induction n with
  | zero =>
    intro k q hk
    obtain rfl : k = 64 := by omega
    refine g_iload d_X2_pulled_5 rfl ?_
    refine g_bipush (v := 64) d_X2_pulled_7 (by decide) ?_
    refine g_icmp_ge (tgt := 75) d_X2_pulled_9 (by decide) (fun c_9 => ?_) (fun c_9 => absurd c_9 (absurd (nI_le (Nat.le_refl 64) (by decide)) c_9))
    refine g_lload_n d_X2_pulled_75 rfl ?_
    exact g_retL d_X2_pulled_76 rfl (rfl) (rfl)
  | succ n ih =>
    intro k q hk
    refine g_iload d_X2_pulled_5 rfl ?_
    refine g_bipush (v := 64) d_X2_pulled_7 (by decide) ?_
    refine g_icmp_ge (tgt := 75) d_X2_pulled_9 (by decide) (fun c_9 => absurd c_9 (nI_ge (a := k) (b := 64) (by omega) (by decide))) (fun c_9 => ?_)
    refine g_lload_n d_X2_pulled_12 rfl ?_
    refine g_lstore (L' := [some (.ref r), none, none, some (.long q), none, some (.int (nI k)), some (.long q), none, none]) d_X2_pulled_13 rfl rfl ?_
    refine g_iconst (v := 0) d_X2_pulled_15 (by decide) ?_
    refine g_istore (L' := [some (.ref r), none, none, some (.long q), none, some (.int (nI k)), some (.long q), none, some (.int 0)]) d_X2_pulled_16 rfl rfl ?_
    refine g_eq (S' := (18, [some (.ref r), none, none, some (.long q), none, some (.int (nI k)), some (.long q), none, some (.int (nI 0))], [], w)) (by first | rfl | (rw [nI_1]; rfl) | (simp only [nI_1]; rfl) | simp only [nI_1]) ?_
    refine Go.trans0 (l_pulledI hE r g w hg q (nI k) 4 0 q (by omega)) ?_
    refine g_eq (S' := (56, [some (.ref r), none, none, some (.long q), none, some (.int (nI k)), some (.long (gPlS g q)), none, none], [], w)) rfl ?_
    refine g_lload d_X2_pulled_56 rfl ?_
    refine g_lload_n d_X2_pulled_58 rfl ?_
    refine g_lcmp_ne (tgt := 66) d_X2_pulled_59 d_X2_pulled_60 (by decide) (fun c_59 => ?_) (fun c_59 => ?_)
    · refine g_lload d_X2_pulled_66 rfl ?_
      refine g_lstore_n (L' := [some (.ref r), none, none, some (.long (gPlS g q)), none, some (.int (nI k)), some (.long (gPlS g q)), none, none]) d_X2_pulled_68 rfl rfl ?_
      refine g_iinc (v := ((nI k) + 1)) (L' := [some (.ref r), none, none, some (.long (gPlS g q)), none, some (.int ((nI k) + 1)), some (.long (gPlS g q)), none, none]) d_X2_pulled_69 rfl rfl rfl ?_
      refine g_goto (tgt := 5) d_X2_pulled_72 (by decide) ?_
      refine g_drop [6] (L1 := [some (.ref r), none, none, some (.long (gPlS g q)), none, some (.int ((nI k) + 1)), none, none, none]) rfl ?_
      refine g_eq (S' := (5, [some (.ref r), none, none, some (.long (gPlS g q)), none, some (.int (nI (k + 1))), none, none, none], [], w)) (by first | rfl | (rw [nI_1]; rfl) | (simp only [nI_1]; rfl) | simp only [nI_1]) ?_
      rw [show gPlL g (n + 1) q = gPlL g n (gPlS g q) by simp only [gPlL, *, ↓reduceIte]]
      exact ih (k + 1) _ (by omega)
    · refine g_goto (tgt := 75) d_X2_pulled_63 (by decide) ?_
      refine g_lload_n d_X2_pulled_75 rfl ?_
      exact g_retL d_X2_pulled_76 rfl (by first | (simp only [gPlL, *, ↓reduceIte]; done) | (simp [gPlL, *]; done)) (rfl)
theorem c_pulled {E : mEnv} (hE : E.1.stackTraces = false) (r : Nat) (g : gT) (w : mW) (hg : mget w r = some (gcell g)) (s : Int64) : Rt E M_X2_pulled 0 [.ref r, .long s] w (some (.long (gPl g s))) w := by
  refine Rt.of hE rfl pn_X2 (Nat.le_of_ble_eq_true rfl) ?_
  refine g_eq (S' := (0, [some (.ref r), some (.long s), none, none, none, none, none, none, none], [], w)) rfl ?_
  refine g_lload_n d_X2_pulled_0 rfl ?_
  refine g_lstore_n (L' := [some (.ref r), some (.long s), none, some (.long s), none, none, none, none, none]) d_X2_pulled_1 rfl rfl ?_
  refine g_iconst (v := 0) d_X2_pulled_2 (by decide) ?_
  refine g_istore (L' := [some (.ref r), some (.long s), none, some (.long s), none, some (.int 0), none, none, none]) d_X2_pulled_3 rfl rfl ?_
  refine g_drop [1] (L1 := [some (.ref r), none, none, some (.long s), none, some (.int 0), none, none, none]) rfl ?_
  refine g_eq (S' := (5, [some (.ref r), none, none, some (.long s), none, some (.int (nI 0)), none, none, none], [], w)) (rfl) ?_
  exact l_pulled hE r g w hg 64 0 _ (by omega)
def gDr (g : gT) : Int64 := gMv g (gD g) 3 &&& gMv g (gD g) 1
def gDc (g : gT) : Int64 := gMv g (gD g) 0 &&& gMv g (gD g) 2
def gFe (g : gT) (q : Int64) : Int64 := gO g &&& (q ^^^ (-1))
def gBr (g : gT) (q : Int64) : Int64 := gDr g ||| ((gMv g (gFe g q) 3 &&& gMv g (gFe g q) 1) ^^^ (-1))
def gBc (g : gT) (q : Int64) : Int64 := gDc g ||| ((gMv g (gFe g q) 0 &&& gMv g (gFe g q) 2) ^^^ (-1))
def gFzS (g : gT) (q : Int64) : Int64 := q &&& gBr g q &&& gBc g q
def gFzL (g : gT) : Nat → Int64 → Int64
  | 0, q => q
  | n + 1, q => if gFzS g q = q then q else gFzL g n (gFzS g q)
def gFz (g : gT) (b : Int64) : Int64 := gFzL g 64 b
theorem d_X2_frozen_0 : decode (mB M_X2_frozen) 0 = .ok (.aload_n 0, 1) := by decide +kernel
theorem d_X2_frozen_1 : decode (mB M_X2_frozen) 1 = .ok (.aload_n 0, 1) := by decide +kernel
theorem d_X2_frozen_2 : decode (mB M_X2_frozen) 2 = .ok (.getfield 25, 3) := by decide +kernel
theorem d_X2_frozen_5 : decode (mB M_X2_frozen) 5 = .ok (.iconst 3, 1) := by decide +kernel
theorem d_X2_frozen_6 : decode (mB M_X2_frozen) 6 = .ok (.invokevirtual 50, 3) := by decide +kernel
theorem d_X2_frozen_9 : decode (mB M_X2_frozen) 9 = .ok (.aload_n 0, 1) := by decide +kernel
theorem d_X2_frozen_10 : decode (mB M_X2_frozen) 10 = .ok (.aload_n 0, 1) := by decide +kernel
theorem d_X2_frozen_11 : decode (mB M_X2_frozen) 11 = .ok (.getfield 25, 3) := by decide +kernel
theorem d_X2_frozen_14 : decode (mB M_X2_frozen) 14 = .ok (.iconst 1, 1) := by decide +kernel
theorem d_X2_frozen_15 : decode (mB M_X2_frozen) 15 = .ok (.invokevirtual 50, 3) := by decide +kernel
theorem d_X2_frozen_18 : decode (mB M_X2_frozen) 18 = .ok (.land, 1) := by decide +kernel
theorem d_X2_frozen_19 : decode (mB M_X2_frozen) 19 = .ok (.lstore_n 3, 1) := by decide +kernel
theorem d_X2_frozen_20 : decode (mB M_X2_frozen) 20 = .ok (.aload_n 0, 1) := by decide +kernel
theorem d_X2_frozen_21 : decode (mB M_X2_frozen) 21 = .ok (.aload_n 0, 1) := by decide +kernel
theorem d_X2_frozen_22 : decode (mB M_X2_frozen) 22 = .ok (.getfield 25, 3) := by decide +kernel
theorem d_X2_frozen_25 : decode (mB M_X2_frozen) 25 = .ok (.iconst 0, 1) := by decide +kernel
theorem d_X2_frozen_26 : decode (mB M_X2_frozen) 26 = .ok (.invokevirtual 50, 3) := by decide +kernel
theorem d_X2_frozen_29 : decode (mB M_X2_frozen) 29 = .ok (.aload_n 0, 1) := by decide +kernel
theorem d_X2_frozen_30 : decode (mB M_X2_frozen) 30 = .ok (.aload_n 0, 1) := by decide +kernel
theorem d_X2_frozen_31 : decode (mB M_X2_frozen) 31 = .ok (.getfield 25, 3) := by decide +kernel
theorem d_X2_frozen_34 : decode (mB M_X2_frozen) 34 = .ok (.iconst 2, 1) := by decide +kernel
theorem d_X2_frozen_35 : decode (mB M_X2_frozen) 35 = .ok (.invokevirtual 50, 3) := by decide +kernel
theorem d_X2_frozen_38 : decode (mB M_X2_frozen) 38 = .ok (.land, 1) := by decide +kernel
theorem d_X2_frozen_39 : decode (mB M_X2_frozen) 39 = .ok (.lstore 5, 2) := by decide +kernel
theorem d_X2_frozen_41 : decode (mB M_X2_frozen) 41 = .ok (.lload_n 1, 1) := by decide +kernel
theorem d_X2_frozen_42 : decode (mB M_X2_frozen) 42 = .ok (.lstore 7, 2) := by decide +kernel
theorem d_X2_frozen_44 : decode (mB M_X2_frozen) 44 = .ok (.iconst 0, 1) := by decide +kernel
theorem d_X2_frozen_45 : decode (mB M_X2_frozen) 45 = .ok (.istore 9, 2) := by decide +kernel
theorem d_X2_frozen_47 : decode (mB M_X2_frozen) 47 = .ok (.iload 9, 2) := by decide +kernel
theorem d_X2_frozen_49 : decode (mB M_X2_frozen) 49 = .ok (.bipush 64, 2) := by decide +kernel
theorem d_X2_frozen_51 : decode (mB M_X2_frozen) 51 = .ok (.if_icmp .ge 94, 3) := by decide +kernel
theorem d_X2_frozen_54 : decode (mB M_X2_frozen) 54 = .ok (.aload_n 0, 1) := by decide +kernel
theorem d_X2_frozen_55 : decode (mB M_X2_frozen) 55 = .ok (.getfield 18, 3) := by decide +kernel
theorem d_X2_frozen_58 : decode (mB M_X2_frozen) 58 = .ok (.lload 7, 2) := by decide +kernel
theorem d_X2_frozen_60 : decode (mB M_X2_frozen) 60 = .ok (.ldc2_w 48, 3) := by decide +kernel
theorem d_X2_frozen_63 : decode (mB M_X2_frozen) 63 = .ok (.lxor, 1) := by decide +kernel
theorem d_X2_frozen_64 : decode (mB M_X2_frozen) 64 = .ok (.land, 1) := by decide +kernel
theorem d_X2_frozen_65 : decode (mB M_X2_frozen) 65 = .ok (.lstore 10, 2) := by decide +kernel
theorem d_X2_frozen_67 : decode (mB M_X2_frozen) 67 = .ok (.lload_n 3, 1) := by decide +kernel
theorem d_X2_frozen_68 : decode (mB M_X2_frozen) 68 = .ok (.aload_n 0, 1) := by decide +kernel
theorem d_X2_frozen_69 : decode (mB M_X2_frozen) 69 = .ok (.lload 10, 2) := by decide +kernel
theorem d_X2_frozen_71 : decode (mB M_X2_frozen) 71 = .ok (.iconst 3, 1) := by decide +kernel
theorem d_X2_frozen_72 : decode (mB M_X2_frozen) 72 = .ok (.invokevirtual 50, 3) := by decide +kernel
theorem d_X2_frozen_75 : decode (mB M_X2_frozen) 75 = .ok (.aload_n 0, 1) := by decide +kernel
theorem d_X2_frozen_76 : decode (mB M_X2_frozen) 76 = .ok (.lload 10, 2) := by decide +kernel
theorem d_X2_frozen_78 : decode (mB M_X2_frozen) 78 = .ok (.iconst 1, 1) := by decide +kernel
theorem d_X2_frozen_79 : decode (mB M_X2_frozen) 79 = .ok (.invokevirtual 50, 3) := by decide +kernel
theorem d_X2_frozen_82 : decode (mB M_X2_frozen) 82 = .ok (.land, 1) := by decide +kernel
theorem d_X2_frozen_83 : decode (mB M_X2_frozen) 83 = .ok (.ldc2_w 48, 3) := by decide +kernel
theorem d_X2_frozen_86 : decode (mB M_X2_frozen) 86 = .ok (.lxor, 1) := by decide +kernel
theorem d_X2_frozen_87 : decode (mB M_X2_frozen) 87 = .ok (.lor, 1) := by decide +kernel
theorem d_X2_frozen_88 : decode (mB M_X2_frozen) 88 = .ok (.lstore 12, 2) := by decide +kernel
theorem d_X2_frozen_90 : decode (mB M_X2_frozen) 90 = .ok (.lload 5, 2) := by decide +kernel
theorem d_X2_frozen_92 : decode (mB M_X2_frozen) 92 = .ok (.aload_n 0, 1) := by decide +kernel
theorem d_X2_frozen_93 : decode (mB M_X2_frozen) 93 = .ok (.lload 10, 2) := by decide +kernel
theorem d_X2_frozen_95 : decode (mB M_X2_frozen) 95 = .ok (.iconst 0, 1) := by decide +kernel
theorem d_X2_frozen_96 : decode (mB M_X2_frozen) 96 = .ok (.invokevirtual 50, 3) := by decide +kernel
theorem d_X2_frozen_99 : decode (mB M_X2_frozen) 99 = .ok (.aload_n 0, 1) := by decide +kernel
theorem d_X2_frozen_100 : decode (mB M_X2_frozen) 100 = .ok (.lload 10, 2) := by decide +kernel
theorem d_X2_frozen_102 : decode (mB M_X2_frozen) 102 = .ok (.iconst 2, 1) := by decide +kernel
theorem d_X2_frozen_103 : decode (mB M_X2_frozen) 103 = .ok (.invokevirtual 50, 3) := by decide +kernel
theorem d_X2_frozen_106 : decode (mB M_X2_frozen) 106 = .ok (.land, 1) := by decide +kernel
theorem d_X2_frozen_107 : decode (mB M_X2_frozen) 107 = .ok (.ldc2_w 48, 3) := by decide +kernel
theorem d_X2_frozen_110 : decode (mB M_X2_frozen) 110 = .ok (.lxor, 1) := by decide +kernel
theorem d_X2_frozen_111 : decode (mB M_X2_frozen) 111 = .ok (.lor, 1) := by decide +kernel
theorem d_X2_frozen_112 : decode (mB M_X2_frozen) 112 = .ok (.lstore 14, 2) := by decide +kernel
theorem d_X2_frozen_114 : decode (mB M_X2_frozen) 114 = .ok (.lload 7, 2) := by decide +kernel
theorem d_X2_frozen_116 : decode (mB M_X2_frozen) 116 = .ok (.lload 12, 2) := by decide +kernel
theorem d_X2_frozen_118 : decode (mB M_X2_frozen) 118 = .ok (.land, 1) := by decide +kernel
theorem d_X2_frozen_119 : decode (mB M_X2_frozen) 119 = .ok (.lload 14, 2) := by decide +kernel
theorem d_X2_frozen_121 : decode (mB M_X2_frozen) 121 = .ok (.land, 1) := by decide +kernel
theorem d_X2_frozen_122 : decode (mB M_X2_frozen) 122 = .ok (.lstore 16, 2) := by decide +kernel
theorem d_X2_frozen_124 : decode (mB M_X2_frozen) 124 = .ok (.lload 16, 2) := by decide +kernel
theorem d_X2_frozen_126 : decode (mB M_X2_frozen) 126 = .ok (.lload 7, 2) := by decide +kernel
theorem d_X2_frozen_128 : decode (mB M_X2_frozen) 128 = .ok (.lcmp, 1) := by decide +kernel
theorem d_X2_frozen_129 : decode (mB M_X2_frozen) 129 = .ok (.ifCond .ne 6, 3) := by decide +kernel
theorem d_X2_frozen_132 : decode (mB M_X2_frozen) 132 = .ok (.goto 13, 3) := by decide +kernel
theorem d_X2_frozen_135 : decode (mB M_X2_frozen) 135 = .ok (.lload 16, 2) := by decide +kernel
theorem d_X2_frozen_137 : decode (mB M_X2_frozen) 137 = .ok (.lstore 7, 2) := by decide +kernel
theorem d_X2_frozen_139 : decode (mB M_X2_frozen) 139 = .ok (.iinc 9 1, 3) := by decide +kernel
theorem d_X2_frozen_142 : decode (mB M_X2_frozen) 142 = .ok (.goto (-95), 3) := by decide +kernel
theorem d_X2_frozen_145 : decode (mB M_X2_frozen) 145 = .ok (.lload 7, 2) := by decide +kernel
theorem d_X2_frozen_147 : decode (mB M_X2_frozen) 147 = .ok (.lreturn, 1) := by decide +kernel
theorem l_frozen {E : mEnv} (hE : E.1.stackTraces = false) (r : Nat) (g : gT) (w : mW) (hg : mget w r = some (gcell g)) : ∀ (n : Nat) (k : Nat) (q : Int64), k + n = 64 → Go E M_X2_frozen 0 (47, [some (.ref r), none, none, some (.long (gDr g)), none, some (.long (gDc g)), none, some (.long q), none, some (.int (nI k)), none, none, none, none, none, none, none, none], [], w) (.inr (.inl (some (.long (gFzL g n q)), w))) := by
  intro n
  induction n with
  | zero =>
    intro k q hk
    obtain rfl : k = 64 := by omega
    refine g_iload d_X2_frozen_47 rfl ?_
    refine g_bipush (v := 64) d_X2_frozen_49 (by decide) ?_
    refine g_icmp_ge (tgt := 145) d_X2_frozen_51 (by decide) (fun c_51 => ?_) (fun c_51 => absurd c_51 (absurd (nI_le (Nat.le_refl 64) (by decide)) c_51))
    refine g_lload d_X2_frozen_145 rfl ?_
    exact g_retL d_X2_frozen_147 rfl (rfl) (rfl)
  | succ n ih =>
    intro k q hk
    refine g_iload d_X2_frozen_47 rfl ?_
    refine g_bipush (v := 64) d_X2_frozen_49 (by decide) ?_
    refine g_icmp_ge (tgt := 145) d_X2_frozen_51 (by decide) (fun c_51 => absurd c_51 (nI_ge (a := k) (b := 64) (by omega) (by decide))) (fun c_51 => ?_)
    refine g_aload_n d_X2_frozen_54 rfl ?_
    refine g_getf d_X2_frozen_55 f_X2_18 hg rfl ?_
    refine g_lload d_X2_frozen_58 rfl ?_
    refine g_ldc2 (v := (-1)) d_X2_frozen_60 k_X2_48 ?_
    refine g_lxor d_X2_frozen_63 ?_
    refine g_land d_X2_frozen_64 ?_
    refine g_lstore (L' := [some (.ref r), none, none, some (.long (gDr g)), none, some (.long (gDc g)), none, some (.long q), none, some (.int (nI k)), some (.long (gFe g q)), none, none, none, none, none, none, none]) d_X2_frozen_65 rfl rfl ?_
    refine g_lload_n d_X2_frozen_67 rfl ?_
    refine g_aload_n d_X2_frozen_68 rfl ?_
    refine g_lload d_X2_frozen_69 rfl ?_
    refine g_iconst (v := 3) d_X2_frozen_71 (by decide) ?_
    refine g_callV (As := [.long (gFe g q), .int 3]) d_X2_frozen_72 o_X2_moved l_X2_50 ⟨Nat.le_of_ble_eq_true rfl, Nat.le_of_ble_eq_true rfl⟩ (c_moved hE r g w hg (gFe g q) 3) hg rfl rfl rfl rfl rfl ?_ (Nat.zero_add _)
    refine g_aload_n d_X2_frozen_75 rfl ?_
    refine g_lload d_X2_frozen_76 rfl ?_
    refine g_iconst (v := 1) d_X2_frozen_78 (by decide) ?_
    refine g_callV (As := [.long (gFe g q), .int 1]) d_X2_frozen_79 o_X2_moved l_X2_50 ⟨Nat.le_of_ble_eq_true rfl, Nat.le_of_ble_eq_true rfl⟩ (c_moved hE r g w hg (gFe g q) 1) hg rfl rfl rfl rfl rfl ?_ (Nat.zero_add _)
    refine g_land d_X2_frozen_82 ?_
    refine g_ldc2 (v := (-1)) d_X2_frozen_83 k_X2_48 ?_
    refine g_lxor d_X2_frozen_86 ?_
    refine g_lor d_X2_frozen_87 ?_
    refine g_lstore (L' := [some (.ref r), none, none, some (.long (gDr g)), none, some (.long (gDc g)), none, some (.long q), none, some (.int (nI k)), some (.long (gFe g q)), none, some (.long (gBr g q)), none, none, none, none, none]) d_X2_frozen_88 rfl rfl ?_
    refine g_lload d_X2_frozen_90 rfl ?_
    refine g_aload_n d_X2_frozen_92 rfl ?_
    refine g_lload d_X2_frozen_93 rfl ?_
    refine g_iconst (v := 0) d_X2_frozen_95 (by decide) ?_
    refine g_callV (As := [.long (gFe g q), .int 0]) d_X2_frozen_96 o_X2_moved l_X2_50 ⟨Nat.le_of_ble_eq_true rfl, Nat.le_of_ble_eq_true rfl⟩ (c_moved hE r g w hg (gFe g q) 0) hg rfl rfl rfl rfl rfl ?_ (Nat.zero_add _)
    refine g_aload_n d_X2_frozen_99 rfl ?_
    refine g_lload d_X2_frozen_100 rfl ?_
    refine g_iconst (v := 2) d_X2_frozen_102 (by decide) ?_
    refine g_callV (As := [.long (gFe g q), .int 2]) d_X2_frozen_103 o_X2_moved l_X2_50 ⟨Nat.le_of_ble_eq_true rfl, Nat.le_of_ble_eq_true rfl⟩ (c_moved hE r g w hg (gFe g q) 2) hg rfl rfl rfl rfl rfl ?_ (Nat.zero_add _)
    refine g_land d_X2_frozen_106 ?_
    refine g_ldc2 (v := (-1)) d_X2_frozen_107 k_X2_48 ?_
    refine g_lxor d_X2_frozen_110 ?_
    refine g_lor d_X2_frozen_111 ?_
    refine g_lstore (L' := [some (.ref r), none, none, some (.long (gDr g)), none, some (.long (gDc g)), none, some (.long q), none, some (.int (nI k)), some (.long (gFe g q)), none, some (.long (gBr g q)), none, some (.long (gBc g q)), none, none, none]) d_X2_frozen_112 rfl rfl ?_
    refine g_lload d_X2_frozen_114 rfl ?_
    refine g_lload d_X2_frozen_116 rfl ?_
    refine g_land d_X2_frozen_118 ?_
    refine g_lload d_X2_frozen_119 rfl ?_
    refine g_land d_X2_frozen_121 ?_
    refine g_lstore (L' := [some (.ref r), none, none, some (.long (gDr g)), none, some (.long (gDc g)), none, some (.long q), none, some (.int (nI k)), some (.long (gFe g q)), none, some (.long (gBr g q)), none, some (.long (gBc g q)), none, some (.long (gFzS g q)), none]) d_X2_frozen_122 rfl rfl ?_
    refine g_lload d_X2_frozen_124 rfl ?_
    refine g_lload d_X2_frozen_126 rfl ?_
    refine g_lcmp_ne (tgt := 135) d_X2_frozen_128 d_X2_frozen_129 (by decide) (fun c_128 => ?_) (fun c_128 => ?_)
    · refine g_lload d_X2_frozen_135 rfl ?_
      refine g_lstore (L' := [some (.ref r), none, none, some (.long (gDr g)), none, some (.long (gDc g)), none, some (.long (gFzS g q)), none, some (.int (nI k)), some (.long (gFe g q)), none, some (.long (gBr g q)), none, some (.long (gBc g q)), none, some (.long (gFzS g q)), none]) d_X2_frozen_137 rfl rfl ?_
      refine g_iinc (v := ((nI k) + 1)) (L' := [some (.ref r), none, none, some (.long (gDr g)), none, some (.long (gDc g)), none, some (.long (gFzS g q)), none, some (.int ((nI k) + 1)), some (.long (gFe g q)), none, some (.long (gBr g q)), none, some (.long (gBc g q)), none, some (.long (gFzS g q)), none]) d_X2_frozen_139 rfl rfl rfl ?_
      refine g_goto (tgt := 47) d_X2_frozen_142 (by decide) ?_
      refine g_drop [10, 12, 14, 16] (L1 := [some (.ref r), none, none, some (.long (gDr g)), none, some (.long (gDc g)), none, some (.long (gFzS g q)), none, some (.int ((nI k) + 1)), none, none, none, none, none, none, none, none]) rfl ?_
      refine g_eq (S' := (47, [some (.ref r), none, none, some (.long (gDr g)), none, some (.long (gDc g)), none, some (.long (gFzS g q)), none, some (.int (nI (k + 1))), none, none, none, none, none, none, none, none], [], w)) (by first | rfl | (rw [nI_1]; rfl) | (simp only [nI_1]; rfl) | simp only [nI_1]) ?_
      rw [show gFzL g (n + 1) q = gFzL g n (gFzS g q) by simp only [gFzL, *, ↓reduceIte]]
      exact ih (k + 1) _ (by omega)
    · refine g_goto (tgt := 145) d_X2_frozen_132 (by decide) ?_
      refine g_lload d_X2_frozen_145 rfl ?_
      exact g_retL d_X2_frozen_147 rfl (by first | (simp only [gFzL, *, ↓reduceIte]; done) | (simp [gFzL, *]; done)) (rfl)
theorem c_frozen {E : mEnv} (hE : E.1.stackTraces = false) (r : Nat) (g : gT) (w : mW) (hg : mget w r = some (gcell g)) (s : Int64) : Rt E M_X2_frozen 0 [.ref r, .long s] w (some (.long (gFz g s))) w := by
  refine Rt.of hE rfl pn_X2 (Nat.le_of_ble_eq_true rfl) ?_
  refine g_eq (S' := (0, [some (.ref r), some (.long s), none, none, none, none, none, none, none, none, none, none, none, none, none, none, none, none], [], w)) rfl ?_
  refine g_aload_n d_X2_frozen_0 rfl ?_
  refine g_aload_n d_X2_frozen_1 rfl ?_
  refine g_getf d_X2_frozen_2 f_X2_25 hg rfl ?_
  refine g_iconst (v := 3) d_X2_frozen_5 (by decide) ?_
  refine g_callV (As := [.long (gD g), .int 3]) d_X2_frozen_6 o_X2_moved l_X2_50 ⟨Nat.le_of_ble_eq_true rfl, Nat.le_of_ble_eq_true rfl⟩ (c_moved hE r g w hg (gD g) 3) hg rfl rfl rfl rfl rfl ?_ (Nat.zero_add _)
  refine g_aload_n d_X2_frozen_9 rfl ?_
  refine g_aload_n d_X2_frozen_10 rfl ?_
  refine g_getf d_X2_frozen_11 f_X2_25 hg rfl ?_
  refine g_iconst (v := 1) d_X2_frozen_14 (by decide) ?_
  refine g_callV (As := [.long (gD g), .int 1]) d_X2_frozen_15 o_X2_moved l_X2_50 ⟨Nat.le_of_ble_eq_true rfl, Nat.le_of_ble_eq_true rfl⟩ (c_moved hE r g w hg (gD g) 1) hg rfl rfl rfl rfl rfl ?_ (Nat.zero_add _)
  refine g_land d_X2_frozen_18 ?_
  refine g_lstore_n (L' := [some (.ref r), some (.long s), none, some (.long (gDr g)), none, none, none, none, none, none, none, none, none, none, none, none, none, none]) d_X2_frozen_19 rfl rfl ?_
  refine g_aload_n d_X2_frozen_20 rfl ?_
  refine g_aload_n d_X2_frozen_21 rfl ?_
  refine g_getf d_X2_frozen_22 f_X2_25 hg rfl ?_
  refine g_iconst (v := 0) d_X2_frozen_25 (by decide) ?_
  refine g_callV (As := [.long (gD g), .int 0]) d_X2_frozen_26 o_X2_moved l_X2_50 ⟨Nat.le_of_ble_eq_true rfl, Nat.le_of_ble_eq_true rfl⟩ (c_moved hE r g w hg (gD g) 0) hg rfl rfl rfl rfl rfl ?_ (Nat.zero_add _)
  refine g_aload_n d_X2_frozen_29 rfl ?_
  refine g_aload_n d_X2_frozen_30 rfl ?_
  refine g_getf d_X2_frozen_31 f_X2_25 hg rfl ?_
  refine g_iconst (v := 2) d_X2_frozen_34 (by decide) ?_
  refine g_callV (As := [.long (gD g), .int 2]) d_X2_frozen_35 o_X2_moved l_X2_50 ⟨Nat.le_of_ble_eq_true rfl, Nat.le_of_ble_eq_true rfl⟩ (c_moved hE r g w hg (gD g) 2) hg rfl rfl rfl rfl rfl ?_ (Nat.zero_add _)
  refine g_land d_X2_frozen_38 ?_
  refine g_lstore (L' := [some (.ref r), some (.long s), none, some (.long (gDr g)), none, some (.long (gDc g)), none, none, none, none, none, none, none, none, none, none, none, none]) d_X2_frozen_39 rfl rfl ?_
  refine g_lload_n d_X2_frozen_41 rfl ?_
  refine g_lstore (L' := [some (.ref r), some (.long s), none, some (.long (gDr g)), none, some (.long (gDc g)), none, some (.long s), none, none, none, none, none, none, none, none, none, none]) d_X2_frozen_42 rfl rfl ?_
  refine g_iconst (v := 0) d_X2_frozen_44 (by decide) ?_
  refine g_istore (L' := [some (.ref r), some (.long s), none, some (.long (gDr g)), none, some (.long (gDc g)), none, some (.long s), none, some (.int 0), none, none, none, none, none, none, none, none]) d_X2_frozen_45 rfl rfl ?_
  refine g_drop [1] (L1 := [some (.ref r), none, none, some (.long (gDr g)), none, some (.long (gDc g)), none, some (.long s), none, some (.int 0), none, none, none, none, none, none, none, none]) rfl ?_
  refine g_eq (S' := (47, [some (.ref r), none, none, some (.long (gDr g)), none, some (.long (gDc g)), none, some (.long s), none, some (.int (nI 0)), none, none, none, none, none, none, none, none], [], w)) (rfl) ?_
  exact l_frozen hE r g w hg 64 0 _ (by omega)
def gSr (g : gT) (s : Int64) : Int32 := if s &&& gD g = 0 then (if gFz g s &&& (gG g ^^^ (-1)) = 0 then 0 else 2) else 1
theorem d_X2_stuckReason_0 : decode (mB M_X2_stuckReason) 0 = .ok (.lload_n 1, 1) := by decide +kernel
theorem d_X2_stuckReason_1 : decode (mB M_X2_stuckReason) 1 = .ok (.aload_n 0, 1) := by decide +kernel
theorem d_X2_stuckReason_2 : decode (mB M_X2_stuckReason) 2 = .ok (.getfield 25, 3) := by decide +kernel
theorem d_X2_stuckReason_5 : decode (mB M_X2_stuckReason) 5 = .ok (.land, 1) := by decide +kernel
theorem d_X2_stuckReason_6 : decode (mB M_X2_stuckReason) 6 = .ok (.lconst 0, 1) := by decide +kernel
theorem d_X2_stuckReason_7 : decode (mB M_X2_stuckReason) 7 = .ok (.lcmp, 1) := by decide +kernel
theorem d_X2_stuckReason_8 : decode (mB M_X2_stuckReason) 8 = .ok (.ifCond .eq 5, 3) := by decide +kernel
theorem d_X2_stuckReason_11 : decode (mB M_X2_stuckReason) 11 = .ok (.iconst 1, 1) := by decide +kernel
theorem d_X2_stuckReason_12 : decode (mB M_X2_stuckReason) 12 = .ok (.ireturn, 1) := by decide +kernel
theorem d_X2_stuckReason_13 : decode (mB M_X2_stuckReason) 13 = .ok (.aload_n 0, 1) := by decide +kernel
theorem d_X2_stuckReason_14 : decode (mB M_X2_stuckReason) 14 = .ok (.lload_n 1, 1) := by decide +kernel
theorem d_X2_stuckReason_15 : decode (mB M_X2_stuckReason) 15 = .ok (.invokevirtual 68, 3) := by decide +kernel
theorem d_X2_stuckReason_18 : decode (mB M_X2_stuckReason) 18 = .ok (.aload_n 0, 1) := by decide +kernel
theorem d_X2_stuckReason_19 : decode (mB M_X2_stuckReason) 19 = .ok (.getfield 22, 3) := by decide +kernel
theorem d_X2_stuckReason_22 : decode (mB M_X2_stuckReason) 22 = .ok (.ldc2_w 48, 3) := by decide +kernel
theorem d_X2_stuckReason_25 : decode (mB M_X2_stuckReason) 25 = .ok (.lxor, 1) := by decide +kernel
theorem d_X2_stuckReason_26 : decode (mB M_X2_stuckReason) 26 = .ok (.land, 1) := by decide +kernel
theorem d_X2_stuckReason_27 : decode (mB M_X2_stuckReason) 27 = .ok (.lconst 0, 1) := by decide +kernel
theorem d_X2_stuckReason_28 : decode (mB M_X2_stuckReason) 28 = .ok (.lcmp, 1) := by decide +kernel
theorem d_X2_stuckReason_29 : decode (mB M_X2_stuckReason) 29 = .ok (.ifCond .eq 7, 3) := by decide +kernel
theorem d_X2_stuckReason_32 : decode (mB M_X2_stuckReason) 32 = .ok (.iconst 2, 1) := by decide +kernel
theorem d_X2_stuckReason_33 : decode (mB M_X2_stuckReason) 33 = .ok (.goto 4, 3) := by decide +kernel
theorem d_X2_stuckReason_36 : decode (mB M_X2_stuckReason) 36 = .ok (.iconst 0, 1) := by decide +kernel
theorem d_X2_stuckReason_37 : decode (mB M_X2_stuckReason) 37 = .ok (.ireturn, 1) := by decide +kernel
theorem c_stuckReason {E : mEnv} (hE : E.1.stackTraces = false) (r : Nat) (g : gT) (w : mW) (hg : mget w r = some (gcell g)) (s : Int64) : Rt E M_X2_stuckReason 0 [.ref r, .long s] w (some (.int (gSr g s))) w := by
  refine Rt.of hE rfl pn_X2 (Nat.le_of_ble_eq_true rfl) ?_
  refine g_eq (S' := (0, [some (.ref r), some (.long s), none], [], w)) rfl ?_
  refine g_lload_n d_X2_stuckReason_0 rfl ?_
  refine g_aload_n d_X2_stuckReason_1 rfl ?_
  refine g_getf d_X2_stuckReason_2 f_X2_25 hg rfl ?_
  refine g_land d_X2_stuckReason_5 ?_
  refine g_lconst (v := 0) d_X2_stuckReason_6 (by decide) ?_
  refine g_lcmp_eq (tgt := 13) d_X2_stuckReason_7 d_X2_stuckReason_8 (by decide) (fun c_7 => ?_) (fun c_7 => ?_)
  · refine g_aload_n d_X2_stuckReason_13 rfl ?_
    refine g_lload_n d_X2_stuckReason_14 rfl ?_
    refine g_callV (As := [.long s]) d_X2_stuckReason_15 o_X2_frozen l_X2_68 ⟨Nat.le_of_ble_eq_true rfl, Nat.le_of_ble_eq_true rfl⟩ (c_frozen hE r g w hg s) hg rfl rfl rfl rfl rfl ?_ (Nat.zero_add _)
    refine g_aload_n d_X2_stuckReason_18 rfl ?_
    refine g_getf d_X2_stuckReason_19 f_X2_22 hg rfl ?_
    refine g_ldc2 (v := (-1)) d_X2_stuckReason_22 k_X2_48 ?_
    refine g_lxor d_X2_stuckReason_25 ?_
    refine g_land d_X2_stuckReason_26 ?_
    refine g_lconst (v := 0) d_X2_stuckReason_27 (by decide) ?_
    refine g_lcmp_eq (tgt := 36) d_X2_stuckReason_28 d_X2_stuckReason_29 (by decide) (fun c_28 => ?_) (fun c_28 => ?_)
    · refine g_iconst (v := 0) d_X2_stuckReason_36 (by decide) ?_
      exact g_retI d_X2_stuckReason_37 rfl (by first | (simp only [gSr, *, ↓reduceIte]; done) | (simp [gSr, *]; done)) (rfl)
    · refine g_iconst (v := 2) d_X2_stuckReason_32 (by decide) ?_
      refine g_goto (tgt := 37) d_X2_stuckReason_33 (by decide) ?_
      exact g_retI d_X2_stuckReason_37 rfl (by first | (simp only [gSr, *, ↓reduceIte]; done) | (simp [gSr, *]; done)) (rfl)
  · refine g_iconst (v := 1) d_X2_stuckReason_11 (by decide) ?_
    exact g_retI d_X2_stuckReason_12 rfl (by first | (simp only [gSr, *, ↓reduceIte]; done) | (simp [gSr, *]; done)) (rfl)
def gSd (g : gT) (s : Int64) (d : Int32) : Int32 := if d = 1 then lowF (s &&& gD g) else lowF (gFz g s &&& (gG g ^^^ (-1)))
theorem d_X2_stuckDetail_0 : decode (mB M_X2_stuckDetail) 0 = .ok (.iload_n 3, 1) := by decide +kernel
theorem d_X2_stuckDetail_1 : decode (mB M_X2_stuckDetail) 1 = .ok (.iconst 1, 1) := by decide +kernel
theorem d_X2_stuckDetail_2 : decode (mB M_X2_stuckDetail) 2 = .ok (.if_icmp .ne 12, 3) := by decide +kernel
theorem d_X2_stuckDetail_5 : decode (mB M_X2_stuckDetail) 5 = .ok (.lload_n 1, 1) := by decide +kernel
theorem d_X2_stuckDetail_6 : decode (mB M_X2_stuckDetail) 6 = .ok (.aload_n 0, 1) := by decide +kernel
theorem d_X2_stuckDetail_7 : decode (mB M_X2_stuckDetail) 7 = .ok (.getfield 25, 3) := by decide +kernel
theorem d_X2_stuckDetail_10 : decode (mB M_X2_stuckDetail) 10 = .ok (.land, 1) := by decide +kernel
theorem d_X2_stuckDetail_11 : decode (mB M_X2_stuckDetail) 11 = .ok (.goto 17, 3) := by decide +kernel
theorem d_X2_stuckDetail_14 : decode (mB M_X2_stuckDetail) 14 = .ok (.aload_n 0, 1) := by decide +kernel
theorem d_X2_stuckDetail_15 : decode (mB M_X2_stuckDetail) 15 = .ok (.lload_n 1, 1) := by decide +kernel
theorem d_X2_stuckDetail_16 : decode (mB M_X2_stuckDetail) 16 = .ok (.invokevirtual 68, 3) := by decide +kernel
theorem d_X2_stuckDetail_19 : decode (mB M_X2_stuckDetail) 19 = .ok (.aload_n 0, 1) := by decide +kernel
theorem d_X2_stuckDetail_20 : decode (mB M_X2_stuckDetail) 20 = .ok (.getfield 22, 3) := by decide +kernel
theorem d_X2_stuckDetail_23 : decode (mB M_X2_stuckDetail) 23 = .ok (.ldc2_w 48, 3) := by decide +kernel
theorem d_X2_stuckDetail_26 : decode (mB M_X2_stuckDetail) 26 = .ok (.lxor, 1) := by decide +kernel
theorem d_X2_stuckDetail_27 : decode (mB M_X2_stuckDetail) 27 = .ok (.land, 1) := by decide +kernel
theorem d_X2_stuckDetail_28 : decode (mB M_X2_stuckDetail) 28 = .ok (.invokestatic 71, 3) := by decide +kernel
theorem d_X2_stuckDetail_31 : decode (mB M_X2_stuckDetail) 31 = .ok (.ireturn, 1) := by decide +kernel
theorem c_stuckDetail {E : mEnv} (hE : E.1.stackTraces = false) (r : Nat) (g : gT) (w : mW) (hg : mget w r = some (gcell g)) (s : Int64) (d : Int32) : Rt E M_X2_stuckDetail 0 [.ref r, .long s, .int d] w (some (.int (gSd g s d))) w := by
  refine Rt.of hE rfl pn_X2 (Nat.le_of_ble_eq_true rfl) ?_
  refine g_eq (S' := (0, [some (.ref r), some (.long s), none, some (.int d)], [], w)) rfl ?_
  refine g_iload_n d_X2_stuckDetail_0 rfl ?_
  refine g_iconst (v := 1) d_X2_stuckDetail_1 (by decide) ?_
  refine g_icmp_ne (tgt := 14) d_X2_stuckDetail_2 (by decide) (fun c_2 => ?_) (fun c_2 => ?_)
  · refine g_aload_n d_X2_stuckDetail_14 rfl ?_
    refine g_lload_n d_X2_stuckDetail_15 rfl ?_
    refine g_callV (As := [.long s]) d_X2_stuckDetail_16 o_X2_frozen l_X2_68 ⟨Nat.le_of_ble_eq_true rfl, Nat.le_of_ble_eq_true rfl⟩ (c_frozen hE r g w hg s) hg rfl rfl rfl rfl rfl ?_ (Nat.zero_add _)
    refine g_aload_n d_X2_stuckDetail_19 rfl ?_
    refine g_getf d_X2_stuckDetail_20 f_X2_22 hg rfl ?_
    refine g_ldc2 (v := (-1)) d_X2_stuckDetail_23 k_X2_48 ?_
    refine g_lxor d_X2_stuckDetail_26 ?_
    refine g_land d_X2_stuckDetail_27 ?_
    refine g_callN (As := [.long ((gFz g s) &&& ((gG g) ^^^ (-1)))]) d_X2_stuckDetail_28 o_X11_lowest n_X2_71 ⟨Nat.le_of_ble_eq_true rfl, Nat.le_of_ble_eq_true rfl⟩ (c_lowest hE ((gFz g s) &&& ((gG g) ^^^ (-1))) _) rfl rfl ?_ (Nat.zero_add _)
    exact g_retI d_X2_stuckDetail_31 rfl (by first | (simp only [gSd, *, ↓reduceIte]; done) | (simp [gSd, *]; done)) (rfl)
  · refine g_lload_n d_X2_stuckDetail_5 rfl ?_
    refine g_aload_n d_X2_stuckDetail_6 rfl ?_
    refine g_getf d_X2_stuckDetail_7 f_X2_25 hg rfl ?_
    refine g_land d_X2_stuckDetail_10 ?_
    refine g_goto (tgt := 28) d_X2_stuckDetail_11 (by decide) ?_
    refine g_callN (As := [.long (s &&& (gD g))]) d_X2_stuckDetail_28 o_X11_lowest n_X2_71 ⟨Nat.le_of_ble_eq_true rfl, Nat.le_of_ble_eq_true rfl⟩ (c_lowest hE (s &&& (gD g)) _) rfl rfl ?_ (Nat.zero_add _)
    exact g_retI d_X2_stuckDetail_31 rfl (by first | (simp only [gSd, *, ↓reduceIte]; done) | (simp [gSd, *]; done)) (rfl)
def gTr (g : gT) : Int64 := gO g &&& (gG g ^^^ (-1)) &&& (gMv g (gO g) 0 ^^^ (-1)) &&& (gMv g (gO g) 2 ^^^ (-1))
theorem d_X2_tunnelsInRow_0 : decode (mB M_X2_tunnelsInRow) 0 = .ok (.aload_n 0, 1) := by decide +kernel
theorem d_X2_tunnelsInRow_1 : decode (mB M_X2_tunnelsInRow) 1 = .ok (.getfield 18, 3) := by decide +kernel
theorem d_X2_tunnelsInRow_4 : decode (mB M_X2_tunnelsInRow) 4 = .ok (.aload_n 0, 1) := by decide +kernel
theorem d_X2_tunnelsInRow_5 : decode (mB M_X2_tunnelsInRow) 5 = .ok (.getfield 22, 3) := by decide +kernel
theorem d_X2_tunnelsInRow_8 : decode (mB M_X2_tunnelsInRow) 8 = .ok (.ldc2_w 48, 3) := by decide +kernel
theorem d_X2_tunnelsInRow_11 : decode (mB M_X2_tunnelsInRow) 11 = .ok (.lxor, 1) := by decide +kernel
theorem d_X2_tunnelsInRow_12 : decode (mB M_X2_tunnelsInRow) 12 = .ok (.land, 1) := by decide +kernel
theorem d_X2_tunnelsInRow_13 : decode (mB M_X2_tunnelsInRow) 13 = .ok (.aload_n 0, 1) := by decide +kernel
theorem d_X2_tunnelsInRow_14 : decode (mB M_X2_tunnelsInRow) 14 = .ok (.aload_n 0, 1) := by decide +kernel
theorem d_X2_tunnelsInRow_15 : decode (mB M_X2_tunnelsInRow) 15 = .ok (.getfield 18, 3) := by decide +kernel
theorem d_X2_tunnelsInRow_18 : decode (mB M_X2_tunnelsInRow) 18 = .ok (.iconst 0, 1) := by decide +kernel
theorem d_X2_tunnelsInRow_19 : decode (mB M_X2_tunnelsInRow) 19 = .ok (.invokevirtual 50, 3) := by decide +kernel
theorem d_X2_tunnelsInRow_22 : decode (mB M_X2_tunnelsInRow) 22 = .ok (.ldc2_w 48, 3) := by decide +kernel
theorem d_X2_tunnelsInRow_25 : decode (mB M_X2_tunnelsInRow) 25 = .ok (.lxor, 1) := by decide +kernel
theorem d_X2_tunnelsInRow_26 : decode (mB M_X2_tunnelsInRow) 26 = .ok (.land, 1) := by decide +kernel
theorem d_X2_tunnelsInRow_27 : decode (mB M_X2_tunnelsInRow) 27 = .ok (.aload_n 0, 1) := by decide +kernel
theorem d_X2_tunnelsInRow_28 : decode (mB M_X2_tunnelsInRow) 28 = .ok (.aload_n 0, 1) := by decide +kernel
theorem d_X2_tunnelsInRow_29 : decode (mB M_X2_tunnelsInRow) 29 = .ok (.getfield 18, 3) := by decide +kernel
theorem d_X2_tunnelsInRow_32 : decode (mB M_X2_tunnelsInRow) 32 = .ok (.iconst 2, 1) := by decide +kernel
theorem d_X2_tunnelsInRow_33 : decode (mB M_X2_tunnelsInRow) 33 = .ok (.invokevirtual 50, 3) := by decide +kernel
theorem d_X2_tunnelsInRow_36 : decode (mB M_X2_tunnelsInRow) 36 = .ok (.ldc2_w 48, 3) := by decide +kernel
theorem d_X2_tunnelsInRow_39 : decode (mB M_X2_tunnelsInRow) 39 = .ok (.lxor, 1) := by decide +kernel
theorem d_X2_tunnelsInRow_40 : decode (mB M_X2_tunnelsInRow) 40 = .ok (.land, 1) := by decide +kernel
theorem d_X2_tunnelsInRow_41 : decode (mB M_X2_tunnelsInRow) 41 = .ok (.lreturn, 1) := by decide +kernel
theorem c_tunnelsInRow {E : mEnv} (hE : E.1.stackTraces = false) (r : Nat) (g : gT) (w : mW) (hg : mget w r = some (gcell g))  : Rt E M_X2_tunnelsInRow 0 [.ref r] w (some (.long (gTr g))) w := by
  refine Rt.of hE rfl pn_X2 (Nat.le_of_ble_eq_true rfl) ?_
  refine g_eq (S' := (0, [some (.ref r)], [], w)) rfl ?_
  refine g_aload_n d_X2_tunnelsInRow_0 rfl ?_
  refine g_getf d_X2_tunnelsInRow_1 f_X2_18 hg rfl ?_
  refine g_aload_n d_X2_tunnelsInRow_4 rfl ?_
  refine g_getf d_X2_tunnelsInRow_5 f_X2_22 hg rfl ?_
  refine g_ldc2 (v := (-1)) d_X2_tunnelsInRow_8 k_X2_48 ?_
  refine g_lxor d_X2_tunnelsInRow_11 ?_
  refine g_land d_X2_tunnelsInRow_12 ?_
  refine g_aload_n d_X2_tunnelsInRow_13 rfl ?_
  refine g_aload_n d_X2_tunnelsInRow_14 rfl ?_
  refine g_getf d_X2_tunnelsInRow_15 f_X2_18 hg rfl ?_
  refine g_iconst (v := 0) d_X2_tunnelsInRow_18 (by decide) ?_
  refine g_callV (As := [.long (gO g), .int 0]) d_X2_tunnelsInRow_19 o_X2_moved l_X2_50 ⟨Nat.le_of_ble_eq_true rfl, Nat.le_of_ble_eq_true rfl⟩ (c_moved hE r g w hg (gO g) 0) hg rfl rfl rfl rfl rfl ?_ (Nat.zero_add _)
  refine g_ldc2 (v := (-1)) d_X2_tunnelsInRow_22 k_X2_48 ?_
  refine g_lxor d_X2_tunnelsInRow_25 ?_
  refine g_land d_X2_tunnelsInRow_26 ?_
  refine g_aload_n d_X2_tunnelsInRow_27 rfl ?_
  refine g_aload_n d_X2_tunnelsInRow_28 rfl ?_
  refine g_getf d_X2_tunnelsInRow_29 f_X2_18 hg rfl ?_
  refine g_iconst (v := 2) d_X2_tunnelsInRow_32 (by decide) ?_
  refine g_callV (As := [.long (gO g), .int 2]) d_X2_tunnelsInRow_33 o_X2_moved l_X2_50 ⟨Nat.le_of_ble_eq_true rfl, Nat.le_of_ble_eq_true rfl⟩ (c_moved hE r g w hg (gO g) 2) hg rfl rfl rfl rfl rfl ?_ (Nat.zero_add _)
  refine g_ldc2 (v := (-1)) d_X2_tunnelsInRow_36 k_X2_48 ?_
  refine g_lxor d_X2_tunnelsInRow_39 ?_
  refine g_land d_X2_tunnelsInRow_40 ?_
  exact g_retL d_X2_tunnelsInRow_41 rfl (rfl) (rfl)
def gTc (g : gT) : Int64 := gO g &&& (gG g ^^^ (-1)) &&& (gMv g (gO g) 3 ^^^ (-1)) &&& (gMv g (gO g) 1 ^^^ (-1))
theorem d_X2_tunnelsInColumn_0 : decode (mB M_X2_tunnelsInColumn) 0 = .ok (.aload_n 0, 1) := by decide +kernel
theorem d_X2_tunnelsInColumn_1 : decode (mB M_X2_tunnelsInColumn) 1 = .ok (.getfield 18, 3) := by decide +kernel
theorem d_X2_tunnelsInColumn_4 : decode (mB M_X2_tunnelsInColumn) 4 = .ok (.aload_n 0, 1) := by decide +kernel
theorem d_X2_tunnelsInColumn_5 : decode (mB M_X2_tunnelsInColumn) 5 = .ok (.getfield 22, 3) := by decide +kernel
theorem d_X2_tunnelsInColumn_8 : decode (mB M_X2_tunnelsInColumn) 8 = .ok (.ldc2_w 48, 3) := by decide +kernel
theorem d_X2_tunnelsInColumn_11 : decode (mB M_X2_tunnelsInColumn) 11 = .ok (.lxor, 1) := by decide +kernel
theorem d_X2_tunnelsInColumn_12 : decode (mB M_X2_tunnelsInColumn) 12 = .ok (.land, 1) := by decide +kernel
theorem d_X2_tunnelsInColumn_13 : decode (mB M_X2_tunnelsInColumn) 13 = .ok (.aload_n 0, 1) := by decide +kernel
theorem d_X2_tunnelsInColumn_14 : decode (mB M_X2_tunnelsInColumn) 14 = .ok (.aload_n 0, 1) := by decide +kernel
theorem d_X2_tunnelsInColumn_15 : decode (mB M_X2_tunnelsInColumn) 15 = .ok (.getfield 18, 3) := by decide +kernel
theorem d_X2_tunnelsInColumn_18 : decode (mB M_X2_tunnelsInColumn) 18 = .ok (.iconst 3, 1) := by decide +kernel
theorem d_X2_tunnelsInColumn_19 : decode (mB M_X2_tunnelsInColumn) 19 = .ok (.invokevirtual 50, 3) := by decide +kernel
theorem d_X2_tunnelsInColumn_22 : decode (mB M_X2_tunnelsInColumn) 22 = .ok (.ldc2_w 48, 3) := by decide +kernel
theorem d_X2_tunnelsInColumn_25 : decode (mB M_X2_tunnelsInColumn) 25 = .ok (.lxor, 1) := by decide +kernel
theorem d_X2_tunnelsInColumn_26 : decode (mB M_X2_tunnelsInColumn) 26 = .ok (.land, 1) := by decide +kernel
theorem d_X2_tunnelsInColumn_27 : decode (mB M_X2_tunnelsInColumn) 27 = .ok (.aload_n 0, 1) := by decide +kernel
theorem d_X2_tunnelsInColumn_28 : decode (mB M_X2_tunnelsInColumn) 28 = .ok (.aload_n 0, 1) := by decide +kernel
theorem d_X2_tunnelsInColumn_29 : decode (mB M_X2_tunnelsInColumn) 29 = .ok (.getfield 18, 3) := by decide +kernel
theorem d_X2_tunnelsInColumn_32 : decode (mB M_X2_tunnelsInColumn) 32 = .ok (.iconst 1, 1) := by decide +kernel
theorem d_X2_tunnelsInColumn_33 : decode (mB M_X2_tunnelsInColumn) 33 = .ok (.invokevirtual 50, 3) := by decide +kernel
theorem d_X2_tunnelsInColumn_36 : decode (mB M_X2_tunnelsInColumn) 36 = .ok (.ldc2_w 48, 3) := by decide +kernel
theorem d_X2_tunnelsInColumn_39 : decode (mB M_X2_tunnelsInColumn) 39 = .ok (.lxor, 1) := by decide +kernel
theorem d_X2_tunnelsInColumn_40 : decode (mB M_X2_tunnelsInColumn) 40 = .ok (.land, 1) := by decide +kernel
theorem d_X2_tunnelsInColumn_41 : decode (mB M_X2_tunnelsInColumn) 41 = .ok (.lreturn, 1) := by decide +kernel
theorem c_tunnelsInColumn {E : mEnv} (hE : E.1.stackTraces = false) (r : Nat) (g : gT) (w : mW) (hg : mget w r = some (gcell g))  : Rt E M_X2_tunnelsInColumn 0 [.ref r] w (some (.long (gTc g))) w := by
  refine Rt.of hE rfl pn_X2 (Nat.le_of_ble_eq_true rfl) ?_
  refine g_eq (S' := (0, [some (.ref r)], [], w)) rfl ?_
  refine g_aload_n d_X2_tunnelsInColumn_0 rfl ?_
  refine g_getf d_X2_tunnelsInColumn_1 f_X2_18 hg rfl ?_
  refine g_aload_n d_X2_tunnelsInColumn_4 rfl ?_
  refine g_getf d_X2_tunnelsInColumn_5 f_X2_22 hg rfl ?_
  refine g_ldc2 (v := (-1)) d_X2_tunnelsInColumn_8 k_X2_48 ?_
  refine g_lxor d_X2_tunnelsInColumn_11 ?_
  refine g_land d_X2_tunnelsInColumn_12 ?_
  refine g_aload_n d_X2_tunnelsInColumn_13 rfl ?_
  refine g_aload_n d_X2_tunnelsInColumn_14 rfl ?_
  refine g_getf d_X2_tunnelsInColumn_15 f_X2_18 hg rfl ?_
  refine g_iconst (v := 3) d_X2_tunnelsInColumn_18 (by decide) ?_
  refine g_callV (As := [.long (gO g), .int 3]) d_X2_tunnelsInColumn_19 o_X2_moved l_X2_50 ⟨Nat.le_of_ble_eq_true rfl, Nat.le_of_ble_eq_true rfl⟩ (c_moved hE r g w hg (gO g) 3) hg rfl rfl rfl rfl rfl ?_ (Nat.zero_add _)
  refine g_ldc2 (v := (-1)) d_X2_tunnelsInColumn_22 k_X2_48 ?_
  refine g_lxor d_X2_tunnelsInColumn_25 ?_
  refine g_land d_X2_tunnelsInColumn_26 ?_
  refine g_aload_n d_X2_tunnelsInColumn_27 rfl ?_
  refine g_aload_n d_X2_tunnelsInColumn_28 rfl ?_
  refine g_getf d_X2_tunnelsInColumn_29 f_X2_18 hg rfl ?_
  refine g_iconst (v := 1) d_X2_tunnelsInColumn_32 (by decide) ?_
  refine g_callV (As := [.long (gO g), .int 1]) d_X2_tunnelsInColumn_33 o_X2_moved l_X2_50 ⟨Nat.le_of_ble_eq_true rfl, Nat.le_of_ble_eq_true rfl⟩ (c_moved hE r g w hg (gO g) 1) hg rfl rfl rfl rfl rfl ?_ (Nat.zero_add _)
  refine g_ldc2 (v := (-1)) d_X2_tunnelsInColumn_36 k_X2_48 ?_
  refine g_lxor d_X2_tunnelsInColumn_39 ?_
  refine g_land d_X2_tunnelsInColumn_40 ?_
  exact g_retL d_X2_tunnelsInColumn_41 rfl (rfl) (rfl)
def gTa (g : gT) (d : Int32) : Int64 := if d = 3 then gTr g else if d = 1 then gTr g else gTc g
theorem d_X2_tunnelsAlong_0 : decode (mB M_X2_tunnelsAlong) 0 = .ok (.iload_n 1, 1) := by decide +kernel
theorem d_X2_tunnelsAlong_1 : decode (mB M_X2_tunnelsAlong) 1 = .ok (.iconst 3, 1) := by decide +kernel
theorem d_X2_tunnelsAlong_2 : decode (mB M_X2_tunnelsAlong) 2 = .ok (.if_icmp .eq 8, 3) := by decide +kernel
theorem d_X2_tunnelsAlong_5 : decode (mB M_X2_tunnelsAlong) 5 = .ok (.iload_n 1, 1) := by decide +kernel
theorem d_X2_tunnelsAlong_6 : decode (mB M_X2_tunnelsAlong) 6 = .ok (.iconst 1, 1) := by decide +kernel
theorem d_X2_tunnelsAlong_7 : decode (mB M_X2_tunnelsAlong) 7 = .ok (.if_icmp .ne 10, 3) := by decide +kernel
theorem d_X2_tunnelsAlong_10 : decode (mB M_X2_tunnelsAlong) 10 = .ok (.aload_n 0, 1) := by decide +kernel
theorem d_X2_tunnelsAlong_11 : decode (mB M_X2_tunnelsAlong) 11 = .ok (.invokevirtual 75, 3) := by decide +kernel
theorem d_X2_tunnelsAlong_14 : decode (mB M_X2_tunnelsAlong) 14 = .ok (.goto 7, 3) := by decide +kernel
theorem d_X2_tunnelsAlong_17 : decode (mB M_X2_tunnelsAlong) 17 = .ok (.aload_n 0, 1) := by decide +kernel
theorem d_X2_tunnelsAlong_18 : decode (mB M_X2_tunnelsAlong) 18 = .ok (.invokevirtual 79, 3) := by decide +kernel
theorem d_X2_tunnelsAlong_21 : decode (mB M_X2_tunnelsAlong) 21 = .ok (.lreturn, 1) := by decide +kernel
theorem c_tunnelsAlong {E : mEnv} (hE : E.1.stackTraces = false) (r : Nat) (g : gT) (w : mW) (hg : mget w r = some (gcell g)) (d : Int32) : Rt E M_X2_tunnelsAlong 0 [.ref r, .int d] w (some (.long (gTa g d))) w := by
  refine Rt.of hE rfl pn_X2 (Nat.le_of_ble_eq_true rfl) ?_
  refine g_eq (S' := (0, [some (.ref r), some (.int d)], [], w)) rfl ?_
  refine g_iload_n d_X2_tunnelsAlong_0 rfl ?_
  refine g_iconst (v := 3) d_X2_tunnelsAlong_1 (by decide) ?_
  refine g_icmp_eq (tgt := 10) d_X2_tunnelsAlong_2 (by decide) (fun c_2 => ?_) (fun c_2 => ?_)
  · refine g_aload_n d_X2_tunnelsAlong_10 rfl ?_
    refine g_callV (As := []) d_X2_tunnelsAlong_11 o_X2_tunnelsInRow l_X2_75 ⟨Nat.le_of_ble_eq_true rfl, Nat.le_of_ble_eq_true rfl⟩ (c_tunnelsInRow hE r g w hg) hg rfl rfl rfl rfl rfl ?_ (Nat.zero_add _)
    refine g_goto (tgt := 21) d_X2_tunnelsAlong_14 (by decide) ?_
    exact g_retL d_X2_tunnelsAlong_21 rfl (by first | (simp only [gTa, *, ↓reduceIte]; done) | (simp [gTa, *]; done)) (rfl)
  · refine g_iload_n d_X2_tunnelsAlong_5 rfl ?_
    refine g_iconst (v := 1) d_X2_tunnelsAlong_6 (by decide) ?_
    refine g_icmp_ne (tgt := 17) d_X2_tunnelsAlong_7 (by decide) (fun c_7 => ?_) (fun c_7 => ?_)
    · refine g_aload_n d_X2_tunnelsAlong_17 rfl ?_
      refine g_callV (As := []) d_X2_tunnelsAlong_18 o_X2_tunnelsInColumn l_X2_79 ⟨Nat.le_of_ble_eq_true rfl, Nat.le_of_ble_eq_true rfl⟩ (c_tunnelsInColumn hE r g w hg) hg rfl rfl rfl rfl rfl ?_ (Nat.zero_add _)
      exact g_retL d_X2_tunnelsAlong_21 rfl (by first | (simp only [gTa, *, ↓reduceIte]; done) | (simp [gTa, *]; done)) (rfl)
    · refine g_aload_n d_X2_tunnelsAlong_10 rfl ?_
      refine g_callV (As := []) d_X2_tunnelsAlong_11 o_X2_tunnelsInRow l_X2_75 ⟨Nat.le_of_ble_eq_true rfl, Nat.le_of_ble_eq_true rfl⟩ (c_tunnelsInRow hE r g w hg) hg rfl rfl rfl rfl rfl ?_ (Nat.zero_add _)
      refine g_goto (tgt := 21) d_X2_tunnelsAlong_14 (by decide) ?_
      exact g_retL d_X2_tunnelsAlong_21 rfl (by first | (simp only [gTa, *, ↓reduceIte]; done) | (simp [gTa, *]; done)) (rfl)
end
