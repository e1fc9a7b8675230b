/-! further rules of the plain machine: compares of longs, booleans, ends, forgetting locals, worlds -/
def bI (b : Bool) : Int32 := if b then 1 else 0
theorem bI_t : bI true = 1 := rfl
theorem bI_f : bI false = 0 := rfl
theorem bI_0 {b : Bool} : bI b = 0 ↔ b = false := by cases b <;> decide
theorem bI_and (b : Bool) : bI b &&& 1 = bI b := by cases b <;> decide
theorem lg_cmp_0 (x y : Int64) : lg_cmp x y = 0 ↔ x = y := by
  unfold lg_cmp
  by_cases h : x > y
  · rw [if_pos h]
    constructor
    · intro q; exact absurd q (by decide)
    · intro q; subst q; exact absurd h (by simp)
  · rw [if_neg h]
    by_cases h2 : x = y
    · rw [if_pos h2]; simp [h2]
    · rw [if_neg h2]
      constructor
      · intro q; exact absurd q (by decide)
      · intro q; exact absurd q h2
theorem mget_eq {w : mW} {i : Nat} {c0 c : mE} (h : mget w i = some c0) : mget (mset w i c) i = some c := by
  unfold mget at h
  unfold mget mset
  by_cases hi : i < 100
  · rw [if_pos hi] at h ⊢
    rw [if_pos hi]
    have := (List.getElem?_eq_some_iff.mp h).1
    simp [List.getElem?_set, this]
  · rw [if_neg hi] at h ⊢
    rw [if_neg hi]
    have := (List.getElem?_eq_some_iff.mp h).1
    simp [List.getElem?_set, this]
theorem mget_ne {w : mW} {i j : Nat} {c : mE} (h : i ≠ j) : mget (mset w i c) j = mget w j := by
  unfold mget mset
  by_cases hi : i < 100 <;> by_cases hj : j < 100
  · simp [hi, hj, h]
  · simp [hi, hj]
  · simp [hi, hj]
  · simp only [if_neg hi, if_neg hj]
    rw [List.getElem?_set_ne (by omega)]
theorem mset_mset {w : mW} {i : Nat} {c d : mE} : mset (mset w i c) i d = mset w i d := by
  unfold mset
  by_cases hi : i < 100
  · simp [hi]
  · simp [hi]
theorem mset_self {w : mW} {i : Nat} {c : mE} (h : mget w i = some c) : mset w i c = w := by
  unfold mget at h
  unfold mset
  by_cases hi : i < 100
  · rw [if_pos hi] at h ⊢
    obtain ⟨hl, e⟩ := List.getElem?_eq_some_iff.mp h
    rw [← e, List.set_getElem_self]
  · rw [if_neg hi] at h ⊢
    obtain ⟨hl, e⟩ := List.getElem?_eq_some_iff.mp h
    rw [← e, List.set_getElem_self]
theorem mset_comm {w : mW} {i j : Nat} {c d : mE} (h : i ≠ j) : mset (mset w i c) j d = mset (mset w j d) i c := by
  unfold mset
  by_cases hi : i < 100 <;> by_cases hj : j < 100
  · simp only [if_pos hi, if_pos hj]; rw [List.set_comm _ _ h]
  · simp [hi, hj]
  · simp [hi, hj]
  · simp only [if_neg hi, if_neg hj]; rw [List.set_comm _ _ (by omega)]
/-- less is known of the locals -/
def mdrop (ks : List Nat) : Nat → List (Option Value) → List (Option Value)
  | _, [] => []
  | j, o :: t => (if ks.contains j then none else o) :: mdrop ks (j + 1) t
theorem mdrop_len (ks : List Nat) : ∀ (L : List (Option Value)) (j : Nat), (mdrop ks j L).length = L.length := by
  intro L
  induction L with
  | nil => intro j; rfl
  | cons o t ih => intro j; simp [mdrop, ih]
theorem mdrop_get (ks : List Nat) : ∀ (L : List (Option Value)) (j i : Nat) (v : Value), (mdrop ks j L)[i]? = some (some v) → L[i]? = some (some v) := by
  intro L
  induction L with
  | nil => intro j i v h; simp [mdrop] at h
  | cons o t ih =>
    intro j i v h
    cases i with
    | zero =>
      simp only [mdrop, List.getElem?_cons_zero] at h ⊢
      split at h
      · simp at h
      · exact h
    | succ n =>
      simp only [mdrop, List.getElem?_cons_succ] at h ⊢
      exact ih (j + 1) n v h
section MORE
variable {E : mEnv} {y : mM} {n pc : Nat} {L : List (Option Value)} {st : List Value} {w w' : mW} {G : mG}
theorem g_drop (ks : List Nat) {L1 : List (Option Value)} (h : mdrop ks 0 L = L1) (k : Go E y n (pc, L1, st, w) G) : Go E y n (pc, L, st, w) G := by
  intro ad p e R s m args below meth c A C cells slots QQ hc hs hT H locs ls hw hl
  subst h
  exact k ad p e R s m args below meth c A C cells slots QQ hc hs hT H locs ls hw ⟨hl.1, hl.2.1, (mdrop_len ks L 0).trans hl.2.2.1, fun i v h => hl.2.2.2 i v (mdrop_get ks L 0 i v h)⟩
theorem g_eq {S S' : mS} (h : S = S') (k : Go E y n S' G) : Go E y n S G := h ▸ k
theorem g_lcmp_eq {a b : Int64} {off : Int} {tgt : Nat} (d0 : decode (mB y) pc = .ok (.lcmp, 1)) (d : decode (mB y) (pc + 1) = .ok (.ifCond .eq off, 3)) (ht : ((pc + 1 : Nat) : Int) + off = (tgt : Int)) (kt : a = b → Go E y n (tgt, L, st, w) G) (kf : ¬ a = b → Go E y n (pc + 4, L, st, w) G) : Go E y n (pc, L, .long b :: .long a :: st, w) G :=
  g_lcmp d0 (g_if_eq d ht (fun h => kt ((lg_cmp_0 a b).mp h)) (fun h => kf (fun q => h ((lg_cmp_0 a b).mpr q))))
theorem g_lcmp_ne {a b : Int64} {off : Int} {tgt : Nat} (d0 : decode (mB y) pc = .ok (.lcmp, 1)) (d : decode (mB y) (pc + 1) = .ok (.ifCond .ne off, 3)) (ht : ((pc + 1 : Nat) : Int) + off = (tgt : Int)) (kt : ¬ a = b → Go E y n (tgt, L, st, w) G) (kf : a = b → Go E y n (pc + 4, L, st, w) G) : Go E y n (pc, L, .long b :: .long a :: st, w) G :=
  g_lcmp d0 (g_if_ne d ht (fun h => kt (fun q => h ((lg_cmp_0 a b).mpr q))) (fun h => kf ((lg_cmp_0 a b).mp h)))
theorem g_ifb_eq {b : Bool} {off : Int} {tgt : Nat} (d : decode (mB y) pc = .ok (.ifCond .eq off, 3)) (ht : (pc : Int) + off = (tgt : Int)) (kt : b = false → Go E y n (tgt, L, st, w) G) (kf : b = true → Go E y n (pc + 3, L, st, w) G) : Go E y n (pc, L, .int (bI b) :: st, w) G :=
  g_if_eq d ht (fun h => kt (bI_0.mp h)) (fun h => kf (by cases b with | false => exact absurd rfl h | true => rfl))
theorem g_ifb_ne {b : Bool} {off : Int} {tgt : Nat} (d : decode (mB y) pc = .ok (.ifCond .ne off, 3)) (ht : (pc : Int) + off = (tgt : Int)) (kt : b = true → Go E y n (tgt, L, st, w) G) (kf : b = false → Go E y n (pc + 3, L, st, w) G) : Go E y n (pc, L, .int (bI b) :: st, w) G :=
  g_if_ne d ht (fun h => kt (by cases b with | false => exact absurd rfl h | true => rfl)) (fun h => kf (bI_0.mp h))
theorem g_retI {x : Int32} {v : Option Value} (d : decode (mB y) pc = .ok (.ireturn, 1)) (hT : mT y = some .int) (hv : some (.int x) = v) (hw : w = w') : Go E y n (pc, L, [.int x], w) (.inr (.inl (v, w'))) := by
  subst hv; subst hw
  exact g_ret d (Or.inl ⟨rfl, _, _, hT, rfl, rfl⟩) rfl
theorem g_retZ {x : Int32} {v : Option Value} (d : decode (mB y) pc = .ok (.ireturn, 1)) (hT : mT y = some .boolean) (hx : x &&& 1 = x) (hv : some (.int x) = v) (hw : w = w') : Go E y n (pc, L, [.int x], w) (.inr (.inl (v, w'))) := by
  subst hv; subst hw
  exact g_ret d (Or.inl ⟨rfl, _, _, hT, rfl, by show Value.int (x &&& 1) = _; rw [hx]⟩) rfl
theorem g_retC {x : Int32} {v : Option Value} (d : decode (mB y) pc = .ok (.ireturn, 1)) (hT : mT y = some .char) (hx : narrow .char (.int x) = .int x) (hv : some (.int x) = v) (hw : w = w') : Go E y n (pc, L, [.int x], w) (.inr (.inl (v, w'))) := by
  subst hv; subst hw
  exact g_ret d (Or.inl ⟨rfl, _, _, hT, rfl, hx⟩) rfl
theorem g_retL {x : Int64} {v : Option Value} (d : decode (mB y) pc = .ok (.lreturn, 1)) (hT : mT y = some .long) (hv : some (.long x) = v) (hw : w = w') : Go E y n (pc, L, [.long x], w) (.inr (.inl (v, w'))) := by
  subst hv; subst hw
  exact g_ret d (Or.inr (Or.inl ⟨rfl, hT, _, rfl⟩)) rfl
theorem g_retV (d : decode (mB y) pc = .ok (.return_, 1)) (hT : mT y = none) (hw : w = w') : Go E y n (pc, L, [], w) (.inr (.inl (none, w'))) := by
  subst hw
  exact g_ret d (Or.inr (Or.inr ⟨rfl, hT, rfl⟩)) rfl
end MORE
/-! shifts of longs as the machine writes them -/
def jshl (a : Int64) (b : Int32) : Int64 := a <<< (b.toInt64 &&& 63)
def jshr (a : Int64) (b : Int32) : Int64 := a >>> (b.toInt64 &&& 63)
def jushr (a : Int64) (b : Int32) : Int64 := (a.toUInt64 >>> (b.toInt64.toUInt64 &&& Int64.toUInt64 63)).toInt64
theorem nar_bI (b : Bool) : narrow .boolean (.int (bI b)) = .int (bI b) := by cases b <;> rfl
theorem fit_bI (b : Bool) : fits .boolean (.int (bI b)) = true := by cases b <;> rfl
/-- a virtual call on a String constant -/
theorem g_callVs {E : mEnv} {y z : mM} {w w' : mW} {pc n : Nat} {L : List (Option Value)} {st As : List Value} {G : mG} {v : Option Value} {ix n0 n1 r : Nat} {q : String × Nat × Nat × List Int32} (d : decode (mB y) pc = .ok (.invokevirtual ix, 3)) (hz : mOkV z As.length) (hlk : mLk y ix z) (hft : mFit y z) (hR : Rt E z n0 (.ref r :: As) w v w')
    (hq : q ∈ mSC) (hrr : r = 1000 + q.2.2.1) (hcls : "java/lang/String" = (mN z).cls) (hcat : Nat.ble ((st.map fun v => v.category).sum) 8 = true) (hst : L.length = L.length) {st9 : List Value} (h9 : As.reverse ++ .ref r :: st = st9)
    (k : Go E y n (pc + 3, L, v.toList ++ st, w') G) (hn : n0 + n = n1) : Go E y n1 (pc, L, st9, w) G := by
  intro ad p e R s m args below meth c A C cells slots QQ hc hs hT H locs ls hw hl
  subst h9; subst hn
  show W p E.1 e R s m args below meth c H locs cells slots QQ (F0 m pc ls ((As.reverse ++ .ref r :: st).map (mcV ad)))
  rw [mStk]
  have hM := hR ad H.size
  have hrec : ∃ cell : Cell, H[ad r]? = some cell ∧ cell.vm.isStatics = false ∧ s.vm.findClass (mN z).cls = some cell.cls := by
    have had := C.2.2.2.2.2.2.2.2.2.2.2.2.1.1 _ hq
    obtain ⟨cell, g1, g2, g3, -⟩ := (mStr E C.2.2.2.2.2.2.2.2.2.2.1 hq).1.kept hw.2.2.2.1
    rw [hrr, had.1, ← hcls]
    exact ⟨cell, g1, g2, g3⟩
  have cw : CallW R s args (mN y).cls (mN z).cls ix (mN z) (mB z) (mL z) (mT z) (mWs z) (mRm z n0) n0 (6 * n0) As.length :=
    cwV As.length C.2.2.2.2.2.1 (mTBL_good fun w0 h0 => by
      unfold wsV at h0
      rcases List.mem_append.mp h0 with h0 | h0
      · simp only [List.mem_cons, List.not_mem_nil, or_false] at h0
        rcases h0 with rfl | rfl | rfl | rfl
        · exact hlk
        · exact hz.2.1
        · exact hz.2.2
        · exact hz.1.2.1
      · exact mWs_in hz.1 w0 h0) rfl rfl rfl ⟨rfl, hz.1.2.2.1.1, hz.1.2.2.1.2, hz.1.2.2.2⟩ ⟨Nat.le_trans hft.1 C.2.2.2.2.2.2.2.1, Nat.le_trans hft.2 C.2.2.2.2.2.2.2.2.1⟩
  have hrun := va_runV (p := p) (e := e) (below := below) (meth := meth) (H := H) (locs := locs) (cells := cells) (slots := slots) (As := As.map (mcV ad)) (rest := st.map (mcV ad)) (g := F0 m pc ls ((As.map (mcV ad)).reverse ++ .ref (ad r) :: st.map (mcV ad))) (mFix C) hM cw
    ⟨mPre.blind, hrec, fun U hU hW => ⟨rfl, mPre.of C hw hU hW⟩⟩ rfl (by rw [List.length_map]) hl.1 rfl (mRoom hcat) d ⟨by omega, by omega⟩
  refine mRun_go C hw hrun (fun H1 locs1 hd => ?_)
  refine k ad p e R s m args below meth c A C (cells + n0) (slots + 6 * n0) QQ (by omega) (by omega) ?_ H1 locs1 ls hd hl
  rw [show cells + n0 + n = cells + (n0 + n) by omega, show slots + 6 * n0 + 6 * n = slots + 6 * (n0 + n) by omega]
  exact hT
