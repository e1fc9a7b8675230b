/-! the law's own walk: the script is read besides the world -/
section LAW
variable {E : mEnv} {b L : Nat} {xs : Nat → Int32} {y : mM} {n n0 n1 pc : Nat} {Lc : List (Option Value)} {st : List Value} {w : mW} {S S1 : mS} {G : mG}
/-- as Go, where number 1200 is the script's row b of L ints xs -/
def GoL (E : mEnv) (b L : Nat) (xs : Nat → Int32) (y : mM) (n : Nat) (S : mS) (G : mG) : Prop := ∀ (ad : Nat → Nat) (p : Program) (e : Env) (R : Room) (s : State) (m : MethodId) (args : Array Value) (below : List Frame) (meth : Method) (c : Code) (A : Nat → Prop), mCx E y ad p R s m args meth c A → va_X b L xs s s.heap → b < s.heap.size → ¬ A b → ad 1200 = b → ∀ (cells slots : Nat) (QQ : State → Prop), cells + n ≤ R.cells → slots + 6 * n ≤ R.slots → mTo E y ad p e R s m args below meth c A G (cells + n) (slots + 6 * n) QQ → mAt E y ad p e R s m args below meth c A S cells slots QQ
theorem GoL.of (h : Go E y n S G) : GoL E b L xs y n S G := fun ad p e R s m args below meth c A C _ _ _ _ => h ad p e R s m args below meth c A C
theorem l_go (h1 : Go E y n0 S (.inl S1)) (h2 : GoL E b L xs y n S1 G) (hn : n0 + n = n1) : GoL E b L xs y n1 S G := by
  subst hn
  intro ad p e R s m args below meth c A C x1 x2 x3 x4 cells slots QQ hc hs hT
  refine h1 ad p e R s m args below meth c A C cells slots QQ (by omega) (by omega) ?_
  refine h2 ad p e R s m args below meth c A C x1 x2 x3 x4 (cells + n0) (slots + 6 * n0) QQ (by omega) (by omega) ?_
  rw [show cells + n0 + n = cells + (n0 + n) by omega, show slots + 6 * n0 + 6 * n = slots + 6 * (n0 + n) by omega]
  exact hT
theorem l_go0 (h1 : Go E y 0 S (.inl S1)) (h2 : GoL E b L xs y n S1 G) : GoL E b L xs y n S G := l_go h1 h2 (Nat.zero_add n)
theorem GoL.trans (h1 : GoL E b L xs y n0 S (.inl S1)) (h2 : GoL E b L xs y n S1 G) : GoL E b L xs y (n0 + n) S G := by
  intro ad p e R s m args below meth c A C x1 x2 x3 x4 cells slots QQ hc hs hT
  refine h1 ad p e R s m args below meth c A C x1 x2 x3 x4 cells slots QQ (by omega) (by omega) ?_
  refine h2 ad p e R s m args below meth c A C x1 x2 x3 x4 (cells + n0) (slots + 6 * n0) QQ (by omega) (by omega) ?_
  rw [show cells + n0 + n = cells + (n0 + n) by omega, show slots + 6 * n0 + 6 * n = slots + 6 * (n0 + n) by omega]
  exact hT
theorem GoL.widen {v : Option Value} {w1 : mW} (h : GoL E b L xs y n0 S (.inr (.inl (v, w1)))) (hn : n0 ≤ n) : GoL E b L xs y n S (.inr (.inl (v, w1))) := by
  intro ad p e R s m args below meth c A C x1 x2 x3 x4 cells slots QQ hc hs hT
  refine h ad p e R s m args below meth c A C x1 x2 x3 x4 cells slots QQ (by omega) (by omega) ?_
  intro H locs ls pc i hw hd hr
  exact W.widen (by omega) (by omega) (hT H locs ls pc i hw hd hr)
theorem GoL.widenS {S1 : mS} (h : GoL E b L xs y n0 S (.inl S1)) (hn : n0 ≤ n) : GoL E b L xs y n S (.inl S1) := by
  intro ad p e R s m args below meth c A C x1 x2 x3 x4 cells slots QQ hc hs hT
  refine h ad p e R s m args below meth c A C x1 x2 x3 x4 cells slots QQ (by omega) (by omega) ?_
  intro H locs ls hw hl
  exact W.widen (by omega) (by omega) (hT H locs ls hw hl)
theorem l_sld {i : Int32} {j : Nat} (d : decode (mB y) pc = .ok (.iaload, 1)) (hi : i = nI j) (hj : j < L) (hL : L ≤ 1536) (k : GoL E b L xs y n (pc + 1, Lc, .int (xs j) :: st, w) G) : GoL E b L xs y n (pc, Lc, .int i :: .ref 1200 :: st, w) G := by
  intro ad p e R s m args below meth c A C x1 x2 x3 x4 cells slots QQ hc hs hT H locs ls hw hl
  subst hi
  have hcl : (nI j).toNatClampNeg = j := nI_clamp (by omega)
  have hin : vp_in (nI j) L := by
    intro q
    rcases q with q | q
    · exact nI_pos (by omega) q
    · rw [hcl] at q; omega
  have kk := k ad p e R s m args below meth c A C x1 x2 x3 x4 cells slots QQ hc hs hT H locs ls hw hl
  show W p E.1 e R s m args below meth c H locs cells slots QQ (F0 m pc ls (.int (nI j) :: .ref (ad 1200) :: st.map (mcV ad)))
  rw [x4]
  refine va_sld C.1 C.2.1 x1 x2 x3 hw.2.2 hin d ?_
  rw [hcl]
  exact kk
theorem l_slen (d : decode (mB y) pc = .ok (.arraylength, 1)) (k : GoL E b L xs y n (pc + 1, Lc, .int (nI L) :: st, w) G) : GoL E b L xs y n (pc, Lc, .ref 1200 :: st, w) G := by
  intro ad p e R s m args below meth c A C x1 x2 x3 x4 cells slots QQ hc hs hT H locs ls hw hl
  have kk := k ad p e R s m args below meth c A C x1 x2 x3 x4 cells slots QQ hc hs hT H locs ls hw hl
  show W p E.1 e R s m args below meth c H locs cells slots QQ (F0 m pc ls (.ref (ad 1200) :: st.map (mcV ad)))
  rw [x4]
  exact va_slen C.1 C.2.1 x1 x2 x3 hw.2.2 d kk
end LAW
/-- script[..] != 0 -/
def nzF (x : Int32) : Int32 := bI (!decide (x = 0))
theorem nz_0 {x : Int32} (h : x = 0) : nzF x = 0 := by unfold nzF; rw [decide_eq_true h]; rfl
theorem nz_1 {x : Int32} (h : ¬ x = 0) : nzF x = 1 := by unfold nzF; rw [decide_eq_false h]; rfl
theorem l_nz {E : mEnv} {y : mM} {pc T : Nat} {L : List (Option Value)} {st : List Value} {w : mW} {x : Int32} {off off2 : Int} (d0 : decode (mB y) pc = .ok (.ifCond .eq off, 3)) (ht : (pc : Int) + off = (T : Int)) (d1 : decode (mB y) (pc + 3) = .ok (.iconst 1, 1)) (d2 : decode (mB y) (pc + 4) = .ok (.goto off2, 3)) (ht2 : ((pc + 4 : Nat) : Int) + off2 = ((T + 1 : Nat) : Int)) (d3 : decode (mB y) T = .ok (.iconst 0, 1)) : Go E y 0 (pc, L, .int x :: st, w) (.inl (T + 1, L, .int (nzF x) :: st, w)) :=
  g_if_eq d0 ht (fun h => g_iconst (v := 0) d3 (by decide) (g_end (by rw [nz_0 h]))) (fun h => g_iconst (v := 1) d1 (by decide) (g_goto d2 ht2 (g_end (by rw [nz_1 h]))))
abbrev i2cF (x : Int32) : Int32 := (x.toUInt32 % 65536).toInt32
/-- the law's locals: at a loop's turn, with k, with the answer -/
abbrev LL (k : Nat) : List (Option Value) := [some (.ref 1200), some (.ref 100), some (.ref 0), some (.ref 19), some (.int (nI k)), none, none, none]
abbrev LL5 (k : Nat) (kk : Int32) : List (Option Value) := [some (.ref 1200), some (.ref 100), some (.ref 0), some (.ref 19), some (.int (nI k)), some (.int kk), none, none]
abbrev LL6 (k : Nat) (kk r : Int32) : List (Option Value) := [some (.ref 1200), some (.ref 100), some (.ref 0), some (.ref 19), some (.int (nI k)), some (.int kk), some (.int r), none]
abbrev LLJ (k : Nat) (kk : Int32) (r : Int64) : List (Option Value) := [some (.ref 1200), some (.ref 100), some (.ref 0), some (.ref 19), some (.int (nI k)), some (.int kk), some (.long r), none]
/-- the second and third of a step's numbers -/
theorem ix_1 (k : Nat) : nI k + 1 = nI (k + 1) := nI_1 k
theorem ix_2 (k : Nat) : nI k + 2 = nI (k + 2) := nI_add k 2
theorem ReL.wo {c : cT} {t : xT} (h : ReL c t) (g : Nat → Int64) : ReL c (wo t g) := h
/-- the two cases of a call of both -/
theorem PM.two {cd : List (String × Int32)} {o : mO} {f : xT → Option (Int32 × xT)} {t : xT} (P0 : PM cd o (f t) t) (P : ∀ g, PM cd o (f (wo t g)) (wo t g)) :
    (∃ v c', o = .inl (some (.int v), c') ∧ ∀ g, ∃ u, f (wo t g) = some (v, u) ∧ ro u = g ∧ rs u 9 = 0 ∧ ReL c' u) ∨ (∃ X k c' r u, o = .inr (X, c') ∧ (X, k) ∈ cd ∧ f t = some (r, u) ∧ rs u 9 = k ∧ ReL c' u) := by
  obtain ⟨r, u, e1, e2, ⟨c', e3, e4, e5⟩ | ⟨X, c', e3, e4, e5⟩⟩ := P0
  · refine Or.inl ⟨r, c', e3, fun g => ?_⟩
    obtain ⟨r2, u2, g1, g2, ⟨c2, g3, g4, g5⟩ | ⟨X, c2, g3, g4, g5⟩⟩ := P g
    · have q := Sum.inl.inj (e3.symm.trans g3)
      have q1 : r = r2 := Value.int.inj (Option.some.inj (congrArg Prod.fst q))
      have q2 : c' = c2 := congrArg Prod.snd q
      subst q1; subst q2
      exact ⟨u2, g1, g2, g4, g5⟩
    · rw [e3] at g3; cases g3
  · exact Or.inr ⟨X, rs u 9, c', r, u, e3, e4, e1, rfl, e5⟩
theorem PML.two {cd : List (String × Int32)} {o : mO} {f : xT → Option (Int64 × xT)} {t : xT} (P0 : PML cd o (f t) t) (P : ∀ g, PML cd o (f (wo t g)) (wo t g)) :
    (∃ v c', o = .inl (some (.long v), c') ∧ ∀ g, ∃ u, f (wo t g) = some (v, u) ∧ ro u = g ∧ rs u 9 = 0 ∧ ReL c' u) ∨ (∃ X k c' r u, o = .inr (X, c') ∧ (X, k) ∈ cd ∧ f t = some (r, u) ∧ rs u 9 = k ∧ ReL c' u) := by
  obtain ⟨r, u, e1, e2, ⟨c', e3, e4, e5⟩ | ⟨X, c', e3, e4, e5⟩⟩ := P0
  · refine Or.inl ⟨r, c', e3, fun g => ?_⟩
    obtain ⟨r2, u2, g1, g2, ⟨c2, g3, g4, g5⟩ | ⟨X, c2, g3, g4, g5⟩⟩ := P g
    · have q := Sum.inl.inj (e3.symm.trans g3)
      have q1 : r = r2 := Value.long.inj (Option.some.inj (congrArg Prod.fst q))
      have q2 : c' = c2 := congrArg Prod.snd q
      subst q1; subst q2
      exact ⟨u2, g1, g2, g4, g5⟩
    · rw [e3] at g3; cases g3
  · exact Or.inr ⟨X, rs u 9, c', r, u, e3, e4, e1, rfl, e5⟩
