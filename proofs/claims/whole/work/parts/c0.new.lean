/-! WHAT MAKES CELLS: constructors, the law's beginning. The addresses grow: 'ad' may change at the numbers from k0 up to k1 -/
def mAg (k0 k1 : Nat) (ad ad' : Nat → Nat) : Prop := ∀ j : Nat, ¬ (k0 ≤ j ∧ j < k1) → ad' j = ad j
theorem mAg.rf {k0 k1 : Nat} {ad : Nat → Nat} : mAg k0 k1 ad ad := fun _ _ => rfl
theorem mAg.trans {k0 k1 : Nat} {a b c : Nat → Nat} (h : mAg k0 k1 a b) (h2 : mAg k0 k1 b c) : mAg k0 k1 a c := fun j hj => (h2 j hj).trans (h j hj)
theorem mAg.up {k0 k1 j0 j1 : Nat} {a b : Nat → Nat} (h : mAg j0 j1 a b) (h0 : k0 ≤ j0) (h1 : j1 ≤ k1) : mAg k0 k1 a b := fun j hj => h j (fun q => hj ⟨by omega, by omega⟩)
theorem mAg.mAd {k0 k1 : Nat} {E : mEnv} {ad ad' : Nat → Nat} (h : mAg k0 k1 ad ad') (hk : k1 ≤ 200) (a : mAd E ad) : mAd E ad' := ⟨fun q hq => ⟨(h _ (by omega)).trans (a.1 q hq).1, (h _ (by omega)).trans (a.1 q hq).2⟩, fun f hf => (h _ (by omega)).trans (a.2 f hf)⟩
theorem mCx.mad {E : mEnv} {y : mM} {ad : Nat → Nat} {p : Program} {R : Room} {s : State} {m : MethodId} {args : Array Value} {meth : Method} {c : Code} {A : Nat → Prop} (C : mCx E y ad p R s m args meth c A) : mAd E ad := C.2.2.2.2.2.2.2.2.2.2.2.2.1
theorem mCx.ad {E : mEnv} {y : mM} {ad ad' : Nat → Nat} {p : Program} {R : Room} {s : State} {m : MethodId} {args : Array Value} {meth : Method} {c : Code} {A : Nat → Prop} (C : mCx E y ad p R s m args meth c A) (h : mAd E ad') : mCx E y ad' p R s m args meth c A := by
  obtain ⟨a1, a2, a3, a4, a5, a6, a7, a8, a9, a10, a11, a12, _, a14⟩ := C
  exact ⟨a1, a2, a3, a4, a5, a6, a7, a8, a9, a10, a11, a12, h, a14⟩
/-! no reference to the numbers from j0 up to j1 -/
def vOut (j0 j1 : Nat) (v : Value) : Bool := match v with
  | .ref i => !(Nat.ble j0 i && Nat.ble (i + 1) j1)
  | _ => true
theorem vOut.cv {j0 j1 : Nat} {ad ad' : Nat → Nat} {v : Value} (h : vOut j0 j1 v = true) (g : mAg j0 j1 ad ad') : mcV ad' v = mcV ad v := by
  cases v with
  | ref i =>
    show Value.ref (ad' i) = .ref (ad i)
    rw [g i]
    intro q
    have e : vOut j0 j1 (.ref i) = !(Nat.ble j0 i && Nat.ble (i + 1) j1) := rfl
    rw [e, Nat.ble_eq_true_of_le q.1, Nat.ble_eq_true_of_le q.2] at h
    cases h
  | _ => rfl
def eOut (j0 j1 : Nat) (c : mE) : Bool := match c with
  | .inl _ => true
  | .inr o => o.2.all (vOut j0 j1)
theorem vsOut {j0 j1 : Nat} {ad ad' : Nat → Nat} {vs : List Value} (h : vs.all (vOut j0 j1) = true) (g : mAg j0 j1 ad ad') : vs.map (mcV ad') = vs.map (mcV ad) := List.map_congr_left fun v hv => vOut.cv (List.all_eq_true.mp h v hv) g
theorem eOut.ce {tA : Nat → ClassId} {j0 j1 : Nat} {ad ad' : Nat → Nat} {c : mE} (h : eOut j0 j1 c = true) (g : mAg j0 j1 ad ad') : mcE tA ad' c = mcE tA ad c := by
  cases c with
  | inl a => rfl
  | inr o =>
    show (Sum.inr (o.1, o.2.map (mcV ad')) : va_E) = .inr (o.1, o.2.map (mcV ad))
    rw [vsOut h g]
theorem eOut.cL {tA : Nat → ClassId} {j0 j1 : Nat} {ad ad' : Nat → Nat} (g : mAg j0 j1 ad ad') : ∀ (l : List mE) (k : Nat), l.all (eOut j0 j1) = true → (k + l.length ≤ j0 ∨ j1 ≤ k) → mcL tA ad' k l = mcL tA ad k l := by
  intro l
  induction l with
  | nil => intro k _ _; rfl
  | cons c t ih =>
    intro k h hk
    simp only [List.all_cons, Bool.and_eq_true] at h
    simp only [List.length_cons] at hk
    show (ad' k, mcE tA ad' c) :: mcL tA ad' (k + 1) t = (ad k, mcE tA ad c) :: mcL tA ad (k + 1) t
    rw [ih (k + 1) h.2 (by omega), eOut.ce h.1 g, g k (by omega)]
def wOut (j0 j1 : Nat) (w : mW) : Bool := (w.1.all (eOut j0 j1) && Nat.ble w.1.length j0) && (w.2.all (eOut j0 j1) && (Nat.ble (100 + w.2.length) j0 || Nat.ble j1 100))
theorem wOut.cW {tA : Nat → ClassId} {j0 j1 : Nat} {ad ad' : Nat → Nat} {w : mW} (h : wOut j0 j1 w = true) (g : mAg j0 j1 ad ad') : mcW tA ad' w = mcW tA ad w := by
  unfold wOut at h
  simp only [Bool.and_eq_true, Bool.or_eq_true] at h
  obtain ⟨⟨h1, h2⟩, h3, h4⟩ := h
  unfold mcW
  have a := Nat.le_of_ble_eq_true h2
  rw [eOut.cL g w.1 0 h1 (Or.inl (by omega)), eOut.cL g w.2 100 h3 (by
    rcases h4 with h4 | h4
    · exact Or.inl (Nat.le_of_ble_eq_true h4)
    · exact Or.inr (Nat.le_of_ble_eq_true h4))]
def sOut (j0 j1 : Nat) (L : List (Option Value)) (st : List Value) : Bool := L.all (fun o => match o with | some v => vOut j0 j1 v | none => true) && st.all (vOut j0 j1)
theorem sOut.ls {j0 j1 nL : Nat} {ad ad' : Nat → Nat} {L : List (Option Value)} {st : List Value} {ls : Array Slot} (h : sOut j0 j1 L st = true) (g : mAg j0 j1 ad ad') (hl : mLs ad nL ls L) : mLs ad' nL ls L := by
  unfold sOut at h
  simp only [Bool.and_eq_true] at h
  refine ⟨hl.1, hl.2.1, hl.2.2.1, fun i v hv => ?_⟩
  have q := List.all_eq_true.mp h.1 _ (List.mem_of_getElem? hv)
  rw [vOut.cv q g]
  exact hl.2.2.2 i v hv
theorem sOut.st {j0 j1 : Nat} {ad ad' : Nat → Nat} {L : List (Option Value)} {st : List Value} (h : sOut j0 j1 L st = true) (g : mAg j0 j1 ad ad') : st.map (mcV ad') = st.map (mcV ad) := by
  unfold sOut at h
  simp only [Bool.and_eq_true] at h
  exact vsOut h.2 g
/-! a new cell, behind a bank -/
def mpush (B : Bool) (w : mW) (c : mE) : mW := if B = true then (w.1, w.2 ++ [c]) else (w.1 ++ [c], w.2)
def mnum (B : Bool) (w : mW) : Nat := if B = true then 100 + w.2.length else w.1.length
theorem mcL_app (tA : Nat → ClassId) (ad : Nat → Nat) (c : mE) : ∀ (l : List mE) (k : Nat), mcL tA ad k (l ++ [c]) = mcL tA ad k l ++ [(ad (k + l.length), mcE tA ad c)] := by
  intro l
  induction l with
  | nil => intro k; rfl
  | cons a t ih =>
    intro k
    show (ad k, mcE tA ad a) :: mcL tA ad (k + 1) (t ++ [c]) = (ad k, mcE tA ad a) :: (mcL tA ad (k + 1) t ++ [_])
    rw [ih (k + 1), List.length_cons, show k + 1 + t.length = k + (t.length + 1) by omega]
theorem va_mid {D : va_G} {cl : List vw_C} {A : Nat → Prop} {a b : va_W} {x : Nat × va_E} {H : Heap} (hP : va_P D cl ((a ++ b) ++ [x]) H) (hD : va_D A ((a ++ b) ++ [x])) : va_P D cl ((a ++ [x]) ++ b) H ∧ va_D A ((a ++ [x]) ++ b) := by
  have key : ∀ i q, ((a ++ [x]) ++ b)[i]? = some q → ((a ++ b) ++ [x])[if i < a.length then i else if i = a.length then a.length + b.length else i - 1]? = some q ∧ i < a.length + 1 + b.length := by
    intro i q h
    have hl : i < a.length + 1 + b.length := by
      have := (List.getElem?_eq_some_iff.mp h).1
      simp only [List.length_append, List.length_cons, List.length_nil] at this
      omega
    refine ⟨?_, hl⟩
    by_cases h1 : i < a.length
    · rw [if_pos h1]
      rw [List.getElem?_append_left (by simp; omega), List.getElem?_append_left h1] at h
      rw [List.getElem?_append_left (by simp; omega), List.getElem?_append_left h1]
      exact h
    · rw [if_neg h1]
      by_cases h2 : i = a.length
      · rw [if_pos h2]
        subst h2
        rw [List.getElem?_append_left (by simp), List.getElem?_append_right (Nat.le_refl _), Nat.sub_self] at h
        rw [List.getElem?_append_right (by simp), List.length_append, Nat.sub_self]
        exact h
      · rw [if_neg h2]
        rw [List.getElem?_append_right (by simp; omega), List.length_append, List.length_cons, List.length_nil] at h
        rw [List.getElem?_append_left (by simp; omega), List.getElem?_append_right (by omega), show i - 1 - a.length = i - (a.length + (0 + 1)) by omega]
        exact h
  refine ⟨fun i q h => hP _ q (key i q h).1, fun i j p q h1 h2 h3 => ?_, fun i q h => hD.2 _ q (key i q h).1⟩
  have g1 := key i p h1
  have g2 := key j q h2
  have e := hD.1 _ _ p q g1.1 g2.1 h3
  have l1 := g1.2
  have l2 := g2.2
  by_cases a1 : i < a.length
  · rw [if_pos a1] at e
    by_cases b1 : j < a.length
    · rw [if_pos b1] at e; exact e
    · rw [if_neg b1] at e
      by_cases b2 : j = a.length
      · rw [if_pos b2] at e; omega
      · rw [if_neg b2] at e; omega
  · rw [if_neg a1] at e
    by_cases a2 : i = a.length
    · rw [if_pos a2] at e
      by_cases b1 : j < a.length
      · rw [if_pos b1] at e; omega
      · rw [if_neg b1] at e
        by_cases b2 : j = a.length
        · omega
        · rw [if_neg b2] at e; omega
    · rw [if_neg a2] at e
      by_cases b1 : j < a.length
      · rw [if_pos b1] at e; omega
      · rw [if_neg b1] at e
        by_cases b2 : j = a.length
        · rw [if_pos b2] at e; omega
        · rw [if_neg b2] at e; omega
theorem mpush_PD {E : mEnv} {ad : Nat → Nat} {A : Nat → Prop} {w : mW} {c : mE} {H : Heap} (B : Bool) (hP : va_P E.2.1 vwCl (mcW E.2.2.1 ad w ++ [(ad (mnum B w), mcE E.2.2.1 ad c)]) H) (hD : va_D A (mcW E.2.2.1 ad w ++ [(ad (mnum B w), mcE E.2.2.1 ad c)])) : va_P E.2.1 vwCl (mcW E.2.2.1 ad (mpush B w c)) H ∧ va_D A (mcW E.2.2.1 ad (mpush B w c)) := by
  cases B with
  | true =>
    have e : mcW E.2.2.1 ad (mpush true w c) = mcW E.2.2.1 ad w ++ [(ad (mnum true w), mcE E.2.2.1 ad c)] := by
      show mcL E.2.2.1 ad 0 w.1 ++ mcL E.2.2.1 ad 100 (w.2 ++ [c]) = (mcL E.2.2.1 ad 0 w.1 ++ mcL E.2.2.1 ad 100 w.2) ++ [(ad (100 + w.2.length), mcE E.2.2.1 ad c)]
      rw [mcL_app, List.append_assoc]
    rw [e]; exact ⟨hP, hD⟩
  | false =>
    have e : mcW E.2.2.1 ad (mpush false w c) = (mcL E.2.2.1 ad 0 w.1 ++ [(ad (mnum false w), mcE E.2.2.1 ad c)]) ++ mcL E.2.2.1 ad 100 w.2 := by
      show mcL E.2.2.1 ad 0 (w.1 ++ [c]) ++ mcL E.2.2.1 ad 100 w.2 = (mcL E.2.2.1 ad 0 w.1 ++ [(ad w.1.length, mcE E.2.2.1 ad c)]) ++ mcL E.2.2.1 ad 100 w.2
      rw [mcL_app, Nat.zero_add]
    rw [e]
    exact va_mid hP hD
/-! the judgement -/
def mAtA (E : mEnv) (y : mM) (k0 k1 : Nat) (ad0 : Nat → Nat) (p : Program) (e : Env) (R : Room) (s : State) (m : MethodId) (args : Array Value) (below : List Frame) (meth : Method) (c : Code) (A : Nat → Prop) (S : mS) (cells slots : Nat) (QQ : State → Prop) : Prop := ∀ ad : Nat → Nat, mAg k0 k1 ad0 ad → mAt E y ad p e R s m args below meth c A S cells slots QQ
abbrev mGA : Type := mS ⊕ mW
def mToA (E : mEnv) (y : mM) (k0 k1 : Nat) (ad0 : Nat → Nat) (p : Program) (e : Env) (R : Room) (s : State) (m : MethodId) (args : Array Value) (below : List Frame) (meth : Method) (c : Code) (A : Nat → Prop) (G : mGA) (cells slots : Nat) (QQ : State → Prop) : Prop := match G with
  | .inl S => mAtA E y k0 k1 ad0 p e R s m args below meth c A S cells slots QQ
  | .inr w => ∀ ad : Nat → Nat, mAg k0 k1 ad0 ad → ∀ (H : Heap) (locs : List Loc) (ls : Array Slot) (pc : Nat), mWd E ad s A w H locs → decode (mB y) pc = .ok (.return_, 1) → W p E.1 e R s m args below meth c H locs cells slots QQ (F0 m pc ls [])
/-- from S the body of y comes to G, making nc cells of ns slots; B: it is a constructor -/
def GoA (E : mEnv) (y : mM) (B : Bool) (k0 k1 nc ns : Nat) (S : mS) (G : mGA) : Prop := ∀ (ad0 : Nat → Nat) (p : Program) (e : Env) (R : Room) (s : State) (m : MethodId) (args : Array Value) (below : List Frame) (meth : Method) (c : Code) (A : Nat → Prop), mCx E y ad0 p R s m args meth c A → (B = true → meth.name = "<init>") → k1 ≤ 200 → ∀ (cells slots : Nat) (QQ : State → Prop), cells + nc ≤ R.cells → slots + ns ≤ R.slots → mToA E y k0 k1 ad0 p e R s m args below meth c A G (cells + nc) (slots + ns) QQ → mAtA E y k0 k1 ad0 p e R s m args below meth c A S cells slots QQ
def mRmA (y : mM) (nc ns : Nat) : Room := { frames := mFr y, cells := nc, slots := ns, locals := mLo y }
def mQA (E : mEnv) (ad : Nat → Nat) (k0 k1 : Nat) (w : mW) (sz : Nat) (w' : mW) : Array Value → State → Outcome → State → Prop := fun _ st o t => o = .returned none ∧ ∃ ad' : Nat → Nat, mAg k0 k1 ad ad' ∧ va_P E.2.1 vwCl (mcW E.2.2.1 ad' w') t.heap ∧ va_D (va_A (mcW E.2.2.1 ad w) sz) (mcW E.2.2.1 ad' w') ∧ va_F (va_A (mcW E.2.2.1 ad w) sz) st t
/-- the constructor y on the arguments As makes w' of w -/
def RtA (E : mEnv) (y : mM) (k0 k1 nc ns : Nat) (As : List Value) (w w' : mW) : Prop := ∀ (ad : Nat → Nat) (sz : Nat), Met E.1 (mN y) (mWs y) (mRmA y nc ns) (va_Pc (As.map (mcV ad)) (mPre E ad w sz)) (mQA E ad k0 k1 w sz w') nc ns (va_A (mcW E.2.2.1 ad w) sz)
section NEW
variable {E : mEnv} {y : mM} {B : Bool} {k0 k1 nc ns pc : Nat} {L : List (Option Value)} {st : List Value} {w w' : mW} {S S1 : mS} {G : mGA}
theorem a_go (h : Go E y 0 S (.inl S1)) (k : GoA E y B k0 k1 nc ns S1 G) : GoA E y B k0 k1 nc ns S G := by
  intro ad0 p e R s m args below meth c A C hb hk1 cells slots QQ hc hs hT ad hag
  exact h ad p e R s m args below meth c A (C.ad (hag.mAd hk1 C.mad)) cells slots QQ (by omega) (by omega) (k ad0 p e R s m args below meth c A C hb hk1 cells slots QQ hc hs hT ad hag)
theorem a_end (hS : S = S1) : GoA E y B k0 k1 nc ns S (.inl S1) := by
  subst hS
  intro ad0 p e R s m args below meth c A C hb hk1 cells slots QQ hc hs hT ad hag H locs ls hw hl
  exact W.widen (by omega) (by omega) (hT ad hag H locs ls hw hl)
theorem a_ret (d : decode (mB y) pc = .ok (.return_, 1)) (hw' : w = w') : GoA E y B k0 k1 nc ns (pc, L, [], w) (.inr w') := by
  subst hw'
  intro ad0 p e R s m args below meth c A C hb hk1 cells slots QQ hc hs hT ad hag H locs ls hw hl
  exact W.widen (by omega) (by omega) (hT ad hag H locs ls pc hw d)
theorem a_obj {ix r : Nat} (d : decode (mB y) pc = .ok (.invokespecial ix, 3)) (hlk : Cond.methodLink (mN y).cls ix objectInit ∈ mTBL) (hi : Cond.instanceMethod objectInit ∈ mTBL) (hcd : Cond.code objectInit ⟨#[0xb1]⟩ 1 none ∈ mTBL) (hfr : 1 ≤ mFr y) (hlo : 12 ≤ mLo y) (k : GoA E y B k0 k1 nc ns (pc + 3, L, [], w) G) : GoA E y B k0 k1 nc ns (pc, L, [.ref r], w) G := by
  intro ad0 p e R s m args below meth c A C hb hk1 cells slots QQ hc hs hT ad hag H locs ls hw hl
  have C1 := C.ad (hag.mAd hk1 C.mad)
  have kk := k ad0 p e R s m args below meth c A C hb hk1 cells slots QQ hc hs hT ad hag H locs ls hw hl
  have a1 : mFr y ≤ R.frames := C.2.2.2.2.2.2.2.1
  have a2 : mLo y ≤ R.locals := C.2.2.2.2.2.2.2.2.1
  exact W.objInit C.1 C.2.1 C.2.2.2.2.1 (C.2.2.2.2.2.1 _ hlk) (C.2.2.2.2.2.1 _ hi) (C.2.2.2.2.2.1 _ hcd) rfl (hl.1.trans C.2.2.2.1.symm) rfl d (Nat.le_trans hfr a1) (Nat.le_trans (show 2 * (F0 m pc ls [.ref (ad r)]).monitorRoom + (([] : List Value).map fun v => v.category).sum + 12 ≤ 12 from Nat.le_of_ble_eq_true rfl) (Nat.le_trans hlo a2)) kk
/-- a new cell with the number k -/
theorem a_cell {pc1 k sl cells slots : Nat} {cl : mE} {ad0 ad : Nat → Nat} {p : Program} {e : Env} {R : Room} {s : State} {m : MethodId} {args : Array Value} {below : List Frame} {meth : Method} {c : Code} {A : Nat → Prop} {QQ : State → Prop} {ls : Array Slot} {bk : Bool} {q : Nat} {H1 : Heap} {locs : List Loc} {ce : va_E}
    (hce : ∀ a : Nat → Nat, mcE E.2.2.1 a cl = ce) (hk : mnum bk w = k) (hk0 : k0 ≤ k) (hkk : k < k1) (ho : wOut k (k + 1) w = true) (hso : sOut k (k + 1) L st = true) (hw' : mpush bk w cl = w')
    (hag : mAg k0 k1 ad0 ad) (hl : mLs ad (mL y) ls L) (hP : va_P E.2.1 vwCl (mcW E.2.2.1 ad w ++ [(q, ce)]) H1) (hD : va_D A (mcW E.2.2.1 ad w ++ [(q, ce)])) (hS : va_S A s.heap H1 locs)
    (kk : mAtA E y k0 k1 ad0 p e R s m args below meth c A (pc1, L, .ref k :: st, w') (cells + 1) (slots + sl) QQ) : W p E.1 e R s m args below meth c H1 locs (cells + 1) (slots + sl) QQ (F0 m pc1 ls (.ref q :: st.map (mcV ad))) := by
  subst hw'
  have g : mAg k (k + 1) ad (fun j => if j = k then q else ad j) := fun j hj => if_neg (by omega)
  have gk : (fun j => if j = k then q else ad j) k = q := if_pos rfl
  generalize (fun j => if j = k then q else ad j) = ad' at g gk
  have eW : mcW E.2.2.1 ad' w = mcW E.2.2.1 ad w := wOut.cW ho g
  have eC : (q, ce) = (ad' (mnum bk w), mcE E.2.2.1 ad' cl) := by rw [hk, gk, hce]
  rw [← eW, eC] at hP hD
  have PD := mpush_PD bk hP hD
  have := kk ad' (hag.trans (g.up hk0 hkk)) H1 locs ls ⟨PD.1, PD.2, hS⟩ (sOut.ls hso g hl)
  have e2 : (Value.ref k :: st).map (mcV ad') = .ref q :: st.map (mcV ad) := by
    show Value.ref (ad' k) :: st.map (mcV ad') = _
    rw [gk, sOut.st hso g]
  have e3 : F0 m (pc1, L, Value.ref k :: st, mpush bk w cl).1 ls (((pc1, L, Value.ref k :: st, mpush bk w cl) : mS).2.2.1.map (mcV ad')) = F0 m pc1 ls (.ref q :: st.map (mcV ad)) := by
    show F0 m pc1 ls ((Value.ref k :: st).map (mcV ad')) = _
    rw [e2]
  rw [e3] at this
  exact this
theorem a_new {bk : Bool} {ix ci k N nc1 ns1 : Nat} {fs : List Value} {CN : String} {T : u_T} {ty : Nat → FieldType} (d : decode (mB y) pc = .ok (.new ix, 3)) (hlk : Cond.classLink (mN y).cls ix CN ∈ mTBL) (hin : Cond.instantiable CN N ∈ mTBL) (hi : Cond.initialized CN ∈ mTBL) (hiw : ∀ wd ∈ u_ws CN T N, wd ∈ mTBL) (hty : ∀ k, k < N → parseFieldDescriptor (T k).2.2.1 = some (ty k)) (hcl : vwCl[ci]? = some (CN, T, N)) (hfs : ∀ j, j < N → defaultValue (ty j) = vp_V fs j) (hno : ∀ a : Nat → Nat, fs.map (mcV a) = fs)
    (hk : mnum bk w = k) (hk0 : k0 ≤ k) (hkk : k < k1) (ho : wOut k (k + 1) w = true) (hso : sOut k (k + 1) L st = true) (hw' : mpush bk w (.inr (ci, fs)) = w') (kk : GoA E y B k0 k1 nc ns (pc + 3, L, .ref k :: st, w') G) (hn1 : 1 + nc = nc1) (hn2 : N + ns = ns1) : GoA E y B k0 k1 nc1 ns1 (pc, L, st, w) G := by
  subst hn1; subst hn2
  intro ad0 p e R s m args below meth c A C hb hk1 cells slots QQ hc hs hT ad hag H locs ls hw hl
  obtain ⟨hP, hD, hS⟩ := hw
  refine va_new C.1 C.2.1 C.2.2.2.2.2.1 hiw ty hty C.2.2.2.2.1 (C.2.2.2.2.2.1 _ hlk) (C.2.2.2.2.2.1 _ hin) (C.2.2.2.2.2.1 _ hi) C.2.2.2.2.2.2.2.2.2.2.1.1 hP hD hS C.2.2.2.2.2.2.2.2.2.1 hcl hfs (by omega) (by omega) d (fun q H1 hP1 hD1 hS1 => ?_)
  refine a_cell (cl := .inr (ci, fs)) (fun a => by show (Sum.inr (ci, fs.map (mcV a)) : va_E) = _; rw [hno]) hk hk0 hkk ho hso hw' hag hl hP1 hD1 hS1 ?_
  refine kk ad0 p e R s m args below meth c A C hb hk1 (cells + 1) (slots + N) QQ (by omega) (by omega) ?_
  rw [show cells + 1 + nc = cells + (1 + nc) by omega, show slots + N + ns = slots + (N + ns) by omega]
  exact hT
theorem a_newa {bk : Bool} {k t len nc1 ns1 : Nat} {atype : ArrayType} {ty : FieldType} {a0 : vp_A} {n : Int32} (d : decode (mB y) pc = .ok (.newarray atype, 2)) (harr : Cond.arrayClass (newarray.typeOf atype) ∈ mTBL) (hty : newarray.typeOf atype = ty) (ht : (mTy E.2.2.1)[t]? = some (E.2.2.1 t, ty)) (hRA : ∀ (U : State) (a b : ClassId), va_RA U a ty → va_RA U b ty → a = b) (ha : ∀ cA : ClassId, vp_cell cA a0 = arrV cA len (fun _ => defaultValue ty)) (hn : ¬ n < 0) (hN : n.toNatClampNeg = len) (hby : Nat.ble (len * componentBytes ty) 536870912 = true)
    (hk : mnum bk w = k) (hk0 : k0 ≤ k) (hkk : k < k1) (ho : wOut k (k + 1) w = true) (hso : sOut k (k + 1) L st = true) (hw' : mpush bk w (.inl (t, a0)) = w') (kk : GoA E y B k0 k1 nc ns (pc + 2, L, .ref k :: st, w') G) (hn1 : 1 + nc = nc1) (hn2 : len + ns = ns1) : GoA E y B k0 k1 nc1 ns1 (pc, L, .int n :: st, w) G := by
  subst hn1; subst hn2
  intro ad0 p e R s m args below meth c A C hb hk1 cells slots QQ hc hs hT ad hag H locs ls hw hl
  obtain ⟨hP, hD, hS⟩ := hw
  have hK := C.2.2.2.2.2.2.2.2.2.2.1.1
  refine va_newa C.1 C.2.1 (C.2.2.2.2.2.1 _ harr) hty hK hP hD hS C.2.2.2.2.2.2.2.2.2.1 ha hn hN (Nat.le_of_ble_eq_true hby) (by omega) (by omega) d (fun q cA H1 hK1 hP1 hD1 hS1 => ?_)
  have e1 : E.2.2.1 t = cA := hRA s _ _ (hK.2 t _ ht).2 (hK1.2 4 (cA, ty) rfl).2
  subst e1
  refine a_cell (cl := .inl (t, a0)) (fun a => rfl) hk hk0 hkk ho hso hw' hag hl hP1 hD1 hS1 ?_
  refine kk ad0 p e R s m args below meth c A C hb hk1 (cells + 1) (slots + len) QQ (by omega) (by omega) ?_
  rw [show cells + 1 + nc = cells + (1 + nc) by omega, show slots + len + ns = slots + (len + ns) by omega]
  exact hT
theorem ra_int (U : State) (a b : ClassId) (h1 : va_RA U a .int) (h2 : va_RA U b .int) : a = b := Option.some.inj (h1.symm.trans h2)
theorem ra_long (U : State) (a b : ClassId) (h1 : va_RA U a .long) (h2 : va_RA U b .long) : a = b := Option.some.inj (h1.symm.trans h2)
theorem ra_char (U : State) (a b : ClassId) (h1 : va_RA U a .char) (h2 : va_RA U b .char) : a = b := Option.some.inj (h1.symm.trans h2)
theorem ra_bool (U : State) (a b : ClassId) (h1 : va_RA U a .boolean) (h2 : va_RA U b .boolean) : a = b := Option.some.inj (h1.symm.trans h2)
/-- a final field in a constructor -/
def mPutF (own : String) (ix ci k : Nat) (ty : FieldType) : Prop := ∃ (C : String) (T : u_T) (N : Nat) (t0 : Nat → FieldType), vwCl[ci]? = some (C, T, N) ∧ k < N ∧ (∀ wd ∈ u_ws C T N, wd ∈ mTBL) ∧ Cond.fieldLink own ix (T k).1 (T k).2.1 (T k).2.2.1 ∈ mTBL ∧ (∀ k, k < N → parseFieldDescriptor (T k).2.2.1 = some (t0 k)) ∧ (∀ a, a < N → ∀ b, b < N → a ≠ b → (T a).2.1 ≠ (T b).2.1) ∧ (T k).2.2.2 = true ∧ (T k).1 = own ∧ parseFieldDescriptor (T k).2.2.1 = some ty
theorem a_putF {ix ci kf r : Nat} {fs : List Value} {v : Value} {ty : FieldType} (d : decode (mB y) pc = .ok (.putfield ix, 3)) (hf : mPutF (mN y).cls ix ci kf ty) (hn : ∀ a : Nat → Nat, narrow ty (mcV a v) = mcV a v) (hfit : ∀ a : Nat → Nat, fits ty (mcV a v) = true) (hm : mget w r = some (.inr (ci, fs))) (hlen : kf < fs.length) (hw' : mset w r (.inr (ci, fs.set kf v)) = w') (k : GoA E y true k0 k1 nc ns (pc + 3, L, st, w') G) : GoA E y true k0 k1 nc ns (pc, L, v :: .ref r :: st, w) G := by
  intro ad0 p e R s m args below meth c A C hb hk1 cells slots QQ hc hs hT ad hag H locs ls hw hl
  subst hw'
  obtain ⟨CN, T, N, t0, h1, h2, h3, h4, h5, h6, h7, h8, h9⟩ := hf
  obtain ⟨q0, hq, hset⟩ := mcW_at E.2.2.1 ad hm
  refine va_putF C.1 C.2.1 C.2.2.2.2.2.1 h3 t0 h5 h6 C.2.2.2.2.1 C.2.2.2.2.2.2.2.2.2.2.1.1 hw.1 hw.2.1 hw.2.2 q0 hq h1 kf h2 (C.2.2.2.2.2.1 _ h4) (fun _ h => h) h7 (hb rfl) h8 h9 (hn ad) (hfit ad) (by rw [List.length_map]; exact hlen) d (fun H1 locs1 g1 g2 g3 => k ad0 p e R s m args below meth c A C hb hk1 cells slots QQ hc hs hT ad hag H1 locs1 ls (mWd_put (c := .inr (ci, fs)) (c' := .inr (ci, fs.set kf v)) hset ?_ ?_ g3) hl)
  · have e : mcE E.2.2.1 ad (.inr (ci, fs.set kf v)) = .inr (ci, (fs.map (mcV ad)).set kf (mcV ad v)) := by simp [mcE, List.map_set]
    rw [e]; exact g1
  · have e : mcE E.2.2.1 ad (.inr (ci, fs.set kf v)) = .inr (ci, (fs.map (mcV ad)).set kf (mcV ad v)) := by simp [mcE, List.map_set]
    rw [e]; exact g2
/-- a constructor that can be called -/
def mOkI (z : mM) (k : Nat) : Prop := mOk z k ∧ Cond.instanceMethod (mN z) ∈ mTBL ∧ (mN z).name = "<init>"
theorem a_call {z : mM} {ix nc0 ns0 r j0 j1 nc1 ns1 : Nat} {As : List Value} (d : decode (mB y) pc = .ok (.invokespecial ix, 3)) (hz : mOkI z As.length) (hws : mWs z = .code (mN z) (mB z) (mL z) none :: mTBL) (hlk : mLk y ix z) (hft : mFit y z) (hR : RtA E z j0 j1 nc0 ns0 (.ref r :: As) w w') (hcat : Nat.ble ((st.map fun v => v.category).sum) 8 = true) (hj0 : k0 ≤ j0) (hj1 : j1 ≤ k1) (hso : sOut j0 j1 L st = true) {st9 : List Value} (h9 : As.reverse ++ .ref r :: st = st9)
    (kk : GoA E y B k0 k1 nc ns (pc + 3, L, st, w') G) (hn1 : nc0 + nc = nc1) (hn2 : ns0 + ns = ns1) : GoA E y B k0 k1 nc1 ns1 (pc, L, st9, w) G := by
  subst hn1; subst hn2; subst h9
  intro ad0 p e R s m args below meth c A C0 hb hk1 cells slots QQ hc hs hT ad hag H locs ls hw hl
  have C := C0.ad (hag.mAd hk1 C0.mad)
  show W p E.1 e R s m args below meth c H locs cells slots QQ (F0 m pc ls ((As.reverse ++ .ref r :: st).map (mcV ad)))
  rw [mStk]
  have hM := hR ad H.size
  have cw : CallB R s args (mN y).cls ix (mN z) (mB z) (mL z) none (mWs z) (mRmA z nc0 ns0) nc0 ns0 As.length ∧ (mN z).name = "<init>" ∧ (Cond.instanceMethod (mN z)).before args s = true :=
    cwI As.length C.2.2.2.2.2.1 (mTBL_good (mWs_in hz.1)) hws rfl rfl (C.2.2.2.2.2.1 _ hz.1.2.1) (C.2.2.2.2.2.1 _ hlk) (C.2.2.2.2.2.1 _ hz.2.1) hz.2.2 ⟨hz.1.2.2.1.1, hz.1.2.2.1.2, hz.1.2.2.2⟩ ⟨Nat.le_trans hft.1 C.2.2.2.2.2.2.2.1, Nat.le_trans hft.2 C.2.2.2.2.2.2.2.2.1⟩
  have hrun := va_runI (p := p) (e := e) (below := below) (meth := meth) (H := H) (locs := locs) (cells := cells) (slots := slots) (As := As.map (mcV ad)) (rest := st.map (mcV ad)) (g := F0 m pc ls ((As.map (mcV ad)).reverse ++ .ref (ad r) :: st.map (mcV ad))) (mFix C) hM cw
    ⟨mPre.blind, fun U hU hW => ⟨rfl, mPre.of C hw hU hW⟩⟩ rfl (by rw [List.length_map]) hl.1 rfl (mRoom hcat) d ⟨by omega, by omega⟩
  intro T hT0 Y
  obtain ⟨v0, st₀, t, T', L0, h0, X', hL, e1, e2, ⟨hv, ad', hg, hP, hD, hF⟩, hst⟩ := hrun T hT0 Y
  cases hv
  have hfree := mWd.free C.2.2.2.2.2.2.2.2.2.1 hw
  obtain ⟨hz9, hk⟩ := hF
  rw [h0] at hz9 hk
  have hS := hw.2.2
  have hd : mWd E ad' s A w' T'.heap (locs ++ L0) := ⟨by rw [e1]; exact hP, hD.weaken (fun _ q _ h => hfree q.1 h), Nat.le_trans hS.1 (by rw [e1]; exact hz9), fun q h1 h2 => by rw [e1, hk q (Nat.lt_of_lt_of_le h1 hS.1) (fun b => h2 (hfree q b))]; exact hS.2.1 q h1 h2, fun q hq => by
    rcases List.mem_append.mp hq with h | h
    · exact hS.2.2 q h
    · exact hfree _ (hL q h)⟩
  have hT1 : mToA E y k0 k1 ad0 p e R s m args below meth c A G (cells + nc0 + nc) (slots + ns0 + ns) QQ := by
    rw [show cells + nc0 + nc = cells + (nc0 + nc) by omega, show slots + ns0 + ns = slots + (ns0 + ns) by omega]
    exact hT
  obtain ⟨t2, a1, b1⟩ := kk ad0 p e R s m args below meth c A C0 hb hk1 (cells + nc0) (slots + ns0) QQ (by omega) (by omega) hT1 ad' (hag.trans (hg.up hj0 hj1)) T'.heap (locs ++ L0) ls hd (sOut.ls hso hg hl) T' rfl X'
  refine ⟨t2, hst t2 ?_, b1⟩
  have e3 : ((pc + 3, L, st, w') : mS).2.2.1.map (mcV ad') = st.map (mcV ad) := sOut.st hso hg
  rw [e3] at a1
  exact a1
end NEW
/-- a constructor's contract out of its body -/
theorem RtA.of {E : mEnv} {y : mM} {k0 k1 nc ns : Nat} {As : List Value} {w w' : mW} (hl : E.1.stackTraces = false) (h0 : mHH y = []) (hy : plainName (mN y).cls = true) (hi : (mN y).name = "<init>") (hk1 : k1 ≤ 200) (hr : mT y = none) (he : (mEnt As).length ≤ mL y) (h : GoA E y true k0 k1 nc ns (0, mEnd As (mL y), [], w) (.inr w')) : RtA E y k0 k1 nc ns As w w' := by
  intro ad sz
  refine Met.ofW (cc := mB y) (maxL := mL y) (ret := mT y) hy rfl ?_
  intro p e s m args below meth c s₁ B hml hv
  obtain ⟨rfl, hsz, hP, hD0, hst, had⟩ := hv
  have hts := atoms_spec (ws := mWs y) B.pre
  have hown : s.vm.findClass (mN y).cls = some m.cls := findClass_of_methodNamed B.named
  have hlocks := B.notSynchronized
  have hname : meth.name = "<init>" := (name_of_methodNamed B.named B.method).1.trans hi
  subst hsz
  have hD := hD0.self (sz := s.heap.size)
  rw [lg_entry_eq]
  have C : mCx E y ad p (mRmA y nc ns) s m (As.map (mcV ad)).toArray meth c (va_A (mcW E.2.2.1 ad w) s.heap.size) := ⟨B.exec, B.bytes, B.returns, hml, hown, fun w h => hts w (List.mem_cons_of_mem _ h), hlocks, Nat.le_refl _, Nat.le_refl _, fun q hq => Or.inr hq, hst, hl, had, fun h => absurd h0 h⟩
  refine h ad p e (mRmA y nc ns) s m _ below meth c (va_A (mcW E.2.2.1 ad w) s.heap.size) C (fun _ => hname) hk1 0 0 _ (by show 0 + nc ≤ nc; omega) (by show 0 + ns ≤ ns; omega) ?_ ad mAg.rf s.heap [] _ ⟨hP, hD, va_S.rf⟩ (mEnd_ls ad As he)
  intro ad' hag H locs ls pc hw hd
  rw [Nat.zero_add, Nat.zero_add]
  obtain ⟨qP, qD, qS⟩ := hw
  exact W.vret B.exec B.bytes (B.returns.trans hr) (fun t ht _ => ⟨rfl, ad', hag, by rw [ht]; exact qP, qD, qS.F ht⟩) qS.2.2 hd hlocks
