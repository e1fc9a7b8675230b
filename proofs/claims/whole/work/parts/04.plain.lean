/-! THE PLAIN MACHINE, its worlds: cells in two banks (numbers below 100, and from 100 on); a reference in them is a cell's number. 'ad' says at which address a number lies. -/
abbrev mE : Type := (Nat × vp_A) ⊕ (Nat × List Value)
abbrev mW : Type := List mE × List mE
def mget (w : mW) (i : Nat) : Option mE := if i < 100 then w.1[i]? else w.2[i - 100]?
def mset (w : mW) (i : Nat) (c : mE) : mW := if i < 100 then (w.1.set i c, w.2) else (w.1, w.2.set (i - 100) c)
def mcV (ad : Nat → Nat) (v : Value) : Value := match v with
  | .ref i => .ref (ad i)
  | .int x => .int x
  | .long x => .long x
  | .float x => .float x
  | .double x => .double x
  | .null => .null
  | .retAddr x => .retAddr x
theorem mcV_cat (ad : Nat → Nat) (v : Value) : (mcV ad v).category = v.category := by cases v <;> rfl
theorem mcV_cats (ad : Nat → Nat) (st : List Value) : ((st.map (mcV ad)).map fun v => v.category) = st.map fun v => v.category := by
  rw [List.map_map]
  exact List.map_congr_left fun v _ => mcV_cat ad v
def mcE (tA : Nat → ClassId) (ad : Nat → Nat) (c : mE) : va_E := match c with
  | .inl (t, a) => .inl (tA t, a)
  | .inr (ci, fs) => .inr (ci, fs.map (mcV ad))
def mcL (tA : Nat → ClassId) (ad : Nat → Nat) : Nat → List mE → va_W
  | _, [] => []
  | k, c :: t => (ad k, mcE tA ad c) :: mcL tA ad (k + 1) t
def mcW (tA : Nat → ClassId) (ad : Nat → Nat) (w : mW) : va_W := mcL tA ad 0 w.1 ++ mcL tA ad 100 w.2
theorem mcL_len (tA : Nat → ClassId) (ad : Nat → Nat) : ∀ (l : List mE) (k : Nat), (mcL tA ad k l).length = l.length := by
  intro l
  induction l with
  | nil => intro k; rfl
  | cons c t ih => intro k; simp [mcL, ih]
theorem mcL_get (tA : Nat → ClassId) (ad : Nat → Nat) : ∀ (l : List mE) (k i : Nat), (mcL tA ad k l)[i]? = (l[i]?).map (fun c => (ad (k + i), mcE tA ad c)) := by
  intro l
  induction l with
  | nil => intro k i; simp [mcL]
  | cons c t ih =>
    intro k i
    cases i with
    | zero => simp [mcL]
    | succ j =>
      simp only [mcL, List.getElem?_cons_succ, ih]
      rw [show k + 1 + j = k + (j + 1) by omega]
theorem mcL_set (tA : Nat → ClassId) (ad : Nat → Nat) (c : mE) : ∀ (l : List mE) (k i : Nat), mcL tA ad k (l.set i c) = (mcL tA ad k l).set i (ad (k + i), mcE tA ad c) := by
  intro l
  induction l with
  | nil => intro k i; simp [mcL]
  | cons c0 t ih =>
    intro k i
    cases i with
    | zero => simp [mcL]
    | succ j =>
      simp only [mcL, List.set_cons_succ, ih]
      rw [show k + 1 + j = k + (j + 1) by omega]
/-- a cell of the plain world, where it stands among the machine's cells -/
theorem mcW_at (tA : Nat → ClassId) (ad : Nat → Nat) {w : mW} {i : Nat} {c : mE} (h : mget w i = some c) : ∃ q0 : Nat, (mcW tA ad w)[q0]? = some (ad i, mcE tA ad c) ∧ ∀ c' : mE, (mcW tA ad w).set q0 (ad i, mcE tA ad c') = mcW tA ad (mset w i c') := by
  unfold mget at h
  by_cases hi : i < 100
  · rw [if_pos hi] at h
    have hl : i < w.1.length := (List.getElem?_eq_some_iff.mp h).1
    refine ⟨i, ?_, fun c' => ?_⟩
    · unfold mcW
      rw [List.getElem?_append_left (by rw [mcL_len]; exact hl), mcL_get, h]
      simp
    · unfold mcW mset
      rw [if_pos hi, List.set_append, if_pos (by rw [mcL_len]; exact hl)]
      simp [mcL_set]
  · rw [if_neg hi] at h
    refine ⟨w.1.length + (i - 100), ?_, fun c' => ?_⟩
    · unfold mcW
      rw [List.getElem?_append_right (by rw [mcL_len]; omega), mcL_len, show w.1.length + (i - 100) - w.1.length = i - 100 by omega, mcL_get, h]
      simp only [Option.map_some]
      rw [show 100 + (i - 100) = i by omega]
    · unfold mcW mset
      rw [if_neg hi, List.set_append, if_neg (by rw [mcL_len]; omega), mcL_len, show w.1.length + (i - 100) - w.1.length = i - 100 by omega]
      simp only [mcL_set]
      rw [show 100 + (i - 100) = i by omega]
/-! locals -/
def mstF (i : Nat) (v : Value) (j : Nat) (o : Option Value) : Option Value :=
  if j = i then some v else if v.category = 2 ∧ j = i + 1 then none else match o with
    | some u => if j + 1 = i ∧ u.category = 2 then none else some u
    | none => none
def mstR (i : Nat) (v : Value) : Nat → List (Option Value) → List (Option Value)
  | _, [] => []
  | j, o :: t => mstF i v j o :: mstR i v (j + 1) t
def mst (L : List (Option Value)) (i : Nat) (v : Value) : List (Option Value) := mstR i v 0 L
theorem mstR_len (i : Nat) (v : Value) : ∀ (L : List (Option Value)) (j : Nat), (mstR i v j L).length = L.length := by
  intro L
  induction L with
  | nil => intro j; rfl
  | cons o t ih => intro j; simp [mstR, ih]
theorem mstR_get (i : Nat) (v : Value) : ∀ (L : List (Option Value)) (j k : Nat), (mstR i v j L)[k]? = (L[k]?).map (mstF i v (j + k)) := by
  intro L
  induction L with
  | nil => intro j k; simp [mstR]
  | cons o t ih =>
    intro j k
    cases k with
    | zero => simp [mstR]
    | succ n =>
      simp only [mstR, List.getElem?_cons_succ, ih]
      rw [show j + 1 + n = j + (n + 1) by omega]
theorem mst_len (L : List (Option Value)) (i : Nat) (v : Value) : (mst L i v).length = L.length := mstR_len i v L 0
theorem mst_get {L : List (Option Value)} {i j : Nat} {v u : Value} (h : (mst L i v)[j]? = some (some u)) : (j = i ∧ u = v) ∨ (j ≠ i ∧ ¬ (v.category = 2 ∧ j = i + 1) ∧ ¬ (j + 1 = i ∧ u.category = 2) ∧ L[j]? = some (some u)) := by
  unfold mst at h
  rw [mstR_get, Nat.zero_add] at h
  cases hL : L[j]? with
  | none => rw [hL] at h; cases h
  | some o =>
    rw [hL] at h
    have h : mstF i v j o = some u := Option.some.inj h
    unfold mstF at h
    by_cases h1 : j = i
    · rw [if_pos h1] at h
      exact Or.inl ⟨h1, (Option.some.inj h).symm⟩
    · rw [if_neg h1] at h
      by_cases h2 : v.category = 2 ∧ j = i + 1
      · rw [if_pos h2] at h; cases h
      · rw [if_neg h2] at h
        cases o with
        | none => cases h
        | some u' =>
          dsimp only at h
          by_cases h3 : j + 1 = i ∧ u'.category = 2
          · rw [if_pos h3] at h; cases h
          · rw [if_neg h3] at h
            cases h
            exact Or.inr ⟨h1, h2, h3, rfl⟩
def mLs (ad : Nat → Nat) (nL : Nat) (ls : Array Slot) (L : List (Option Value)) : Prop := ls.size = nL ∧ lv_wf ls ∧ L.length = nL ∧ ∀ (i : Nat) (v : Value), L[i]? = some (some v) → ls[i]? = some (.val (mcV ad v))
def mLv (ad : Nat → Nat) (L : List (Option Value)) : List (Nat × Value) := (List.range L.length).filterMap fun i => match L[i]? with
  | some (some v) => some (i, mcV ad v)
  | _ => none
theorem mLv_mem {ad : Nat → Nat} {L : List (Option Value)} {i : Nat} {v : Value} (h : L[i]? = some (some v)) : (i, mcV ad v) ∈ mLv ad L := by
  refine List.mem_filterMap.mpr ⟨i, List.mem_range.mpr (List.getElem?_eq_some_iff.mp h).1, ?_⟩
  rw [h]
theorem mLv_of {ad : Nat → Nat} {L : List (Option Value)} {q : Nat × Value} (h : q ∈ mLv ad L) : ∃ v, L[q.1]? = some (some v) ∧ q.2 = mcV ad v := by
  obtain ⟨i, -, hi⟩ := List.mem_filterMap.mp h
  split at hi
  · rename_i v hv
    cases hi
    exact ⟨v, hv, rfl⟩
  · cases hi
theorem mLs.has {ad : Nat → Nat} {nL : Nat} {ls : Array Slot} {L : List (Option Value)} (h : mLs ad nL ls L) : lv_has ls nL (mLv ad L) := by
  refine ⟨h.1, h.2.1, fun q hq => ?_⟩
  obtain ⟨v, h1, h2⟩ := mLv_of hq
  rw [h2]
  exact h.2.2.2 _ _ h1
theorem mLs.store1 {ad : Nat → Nat} {nL i : Nat} {ls ls' : Array Slot} {L : List (Option Value)} {v : Value} (h : mLs ad nL ls L) (hv : v.category = 1) (hs : lv_has ls' nL ((i, mcV ad v) :: (mLv ad L).filter (fun q => !(q.1 == i) && !(q.1 + 1 == i && q.2.category == 2)))) : mLs ad nL ls' (mst L i v) := by
  refine ⟨hs.1, hs.2.1, by rw [mst_len]; exact h.2.2.1, fun j u hj => ?_⟩
  rcases mst_get hj with ⟨h1, h2⟩ | ⟨h1, h2, h3, h4⟩
  · rw [h1, h2]
    exact hs.2.2 _ List.mem_cons_self
  · refine hs.2.2 (j, mcV ad u) (List.mem_cons_of_mem _ (List.mem_filter.mpr ⟨mLv_mem h4, ?_⟩))
    have e1 : (j == i) = false := by simp [h1]
    have e2 : (j + 1 == i && (mcV ad u).category == 2) = false := by
      rw [mcV_cat]
      simp only [Bool.and_eq_false_iff, beq_eq_false_iff_ne]
      by_cases q : j + 1 = i
      · exact Or.inr fun z => h3 ⟨q, z⟩
      · exact Or.inl q
    show (!(j == i) && !(j + 1 == i && (mcV ad u).category == 2)) = true
    rw [e1, e2]; rfl
theorem mLs.store2 {ad : Nat → Nat} {nL i : Nat} {ls ls' : Array Slot} {L : List (Option Value)} {v : Value} (h : mLs ad nL ls L) (hv : v.category = 2) (hs : lv_has ls' nL ((i, mcV ad v) :: (mLv ad L).filter (fun q => !(q.1 == i) && (!(q.1 == i + 1) && !(q.1 + 1 == i && q.2.category == 2))))) : mLs ad nL ls' (mst L i v) := by
  refine ⟨hs.1, hs.2.1, by rw [mst_len]; exact h.2.2.1, fun j u hj => ?_⟩
  rcases mst_get hj with ⟨h1, h2⟩ | ⟨h1, h2, h3, h4⟩
  · rw [h1, h2]
    exact hs.2.2 _ List.mem_cons_self
  · refine hs.2.2 (j, mcV ad u) (List.mem_cons_of_mem _ (List.mem_filter.mpr ⟨mLv_mem h4, ?_⟩))
    have e1 : (j == i) = false := by simp [h1]
    have e3 : (j == i + 1) = false := by
      simp only [beq_eq_false_iff_ne]
      exact fun z => h2 ⟨hv, z⟩
    have e2 : (j + 1 == i && (mcV ad u).category == 2) = false := by
      rw [mcV_cat]
      simp only [Bool.and_eq_false_iff, beq_eq_false_iff_ne]
      by_cases q : j + 1 = i
      · exact Or.inr fun z => h3 ⟨q, z⟩
      · exact Or.inl q
    show (!(j == i) && (!(j == i + 1) && !(j + 1 == i && (mcV ad u).category == 2))) = true
    rw [e1, e2, e3]; rfl
/-- the locals with which a method begins -/
def mEnt : List Value → List (Option Value)
  | [] => []
  | v :: t => if v.category = 2 then some v :: none :: mEnt t else some v :: mEnt t
theorem mEnt_at (ad : Nat → Nat) : ∀ (vs : List Value) (k i : Nat) (v : Value), (mEnt vs)[i]? = some (some v) → (k + i, mcV ad v) ∈ lv_args k (vs.map (mcV ad)) := by
  intro vs
  induction vs with
  | nil => intro k i v h; simp [mEnt] at h
  | cons u t ih =>
    intro k i v h
    unfold mEnt at h
    simp only [List.map_cons, lv_args, mcV_cat]
    by_cases hc : u.category = 2
    · rw [if_pos hc] at h ⊢
      match i, h with
      | 0, h => cases h; exact List.mem_cons_self
      | 1, h => cases h
      | j + 2, h =>
        have := ih (k + 2) j v h
        rw [show k + 2 + j = k + (j + 2) by omega] at this
        exact List.mem_cons_of_mem _ this
    · rw [if_neg hc] at h ⊢
      match i, h with
      | 0, h => cases h; exact List.mem_cons_self
      | j + 1, h =>
        have := ih (k + 1) j v h
        rw [show k + 1 + j = k + (j + 1) by omega] at this
        exact List.mem_cons_of_mem _ this
theorem lg_sl_len (ad : Nat → Nat) : ∀ vs : List Value, (lg_sl (vs.map (mcV ad))).length = (mEnt vs).length := by
  intro vs
  induction vs with
  | nil => rfl
  | cons v t ih =>
    unfold lg_sl at ih ⊢
    simp only [List.map_cons, List.flatMap_cons, List.length_append, ih, mEnt, mcV_cat]
    by_cases hc : v.category = 2
    · simp [hc]; omega
    · simp [hc]; omega
/-- .. padded to n places -/
def mEnd (vs : List Value) (n : Nat) : List (Option Value) := mEnt vs ++ List.replicate (n - (mEnt vs).length) none
theorem mEnd_ls (ad : Nat → Nat) (vs : List Value) {n : Nat} (h : (mEnt vs).length ≤ n) : mLs ad n ((lg_sl (vs.map (mcV ad)) ++ List.replicate (n - (lg_sl (vs.map (mcV ad))).length) Slot.unset).toArray) (mEnd vs n) := by
  have h0 := lv_entry (vs.map (mcV ad)) (n := n) (by rw [lg_sl_len]; exact h)
  refine ⟨h0.1, h0.2.1, by unfold mEnd; simp; omega, fun i v hi => ?_⟩
  unfold mEnd at hi
  by_cases hl : i < (mEnt vs).length
  · rw [List.getElem?_append_left hl] at hi
    have := mEnt_at ad vs 0 i v hi
    rw [Nat.zero_add] at this
    exact h0.2.2 _ this
  · rw [List.getElem?_append_right (by omega), List.getElem?_replicate] at hi
    split at hi <;> simp at hi
