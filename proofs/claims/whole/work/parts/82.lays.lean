/-! the text of a room: its counts, and the room laid out -/
theorem ends_same (x : RtT) : rO (rEndS x) = rO x ∧ rG (rEndS x) = rG x ∧ rB (rEndS x) = rB x ∧ rP (rEndS x) = rP x ∧ rN (rEndS x) = rN x ∧ rBc (rEndS x) = rBc x ∧ rGc (rEndS x) = rGc x := by
  unfold rEndS
  split <;> exact ⟨rfl, rfl, rfl, rfl, rfl, rfl, rfl⟩
/-- one more sign of a text without a fault -/
theorem rd_step {f : Nat → Int32} {len n k : Nat} {x : RtT} {ch : Nat} (hk : k < 80) (hf : f k = nI ch) (h : (rdL f (nI len) (n + 1) k x).1 = -1) : (nI ch = 47 ∧ rEndB x = true ∧ rdL f (nI len) (n + 1) k x = rdL f (nI len) n (k + 1) (rEndS x)) ∨ (¬ nI ch = 47 ∧ rAddB x (nI ch) = true ∧ rdL f (nI len) (n + 1) k x = rdL f (nI len) n (k + 1) (rAddS x (nI ch))) := by
  have e : rdL f (nI len) (n + 1) k x = if rStB x (nI ch) = true then rdL f (nI len) n (k + 1) (rStS x (nI ch)) else (nI k, rStS x (nI ch)) := by
    show (if rStB x (iAt f (nI k)) = true then _ else _) = _
    rw [iAt_k f hk, hf]
  rw [e] at h ⊢
  by_cases z : rStB x (nI ch) = true
  · rw [if_pos z]
    unfold rStB at z
    unfold rStS
    by_cases y : nI ch = (47 : Int32)
    · rw [if_pos y] at z
      exact Or.inl ⟨y, z, by rw [if_pos y]⟩
    · rw [if_neg y] at z
      exact Or.inr ⟨y, z, by rw [if_neg y, if_pos z]⟩
  · rw [if_neg z] at h
    exact absurd h (nI_m1 (by omega))
theorem rd_mono {f : Nat → Int32} {len : Nat} : ∀ n k x rr cc w m nb ng, k + n ≤ 80 → (∀ i, i < k + n → ∃ ch, ch < 127 ∧ f i = nI ch) → SI x k rr cc w m nb ng → (rdL f (nI len) n k x).1 = -1 → ∃ M, rN (rdL f (nI len) n k x).2 = nI M ∧ m ≤ M ∧ M < 2 ^ 20 := by
  intro n
  induction n with
  | zero =>
    intro k x rr cc w m nb ng hk hT h _
    have b2 : m ≤ k := h.2.1.2.1
    exact ⟨m, (ends_same x).2.2.2.2.1.trans h.1.2.2.2.1, Nat.le_refl _, by omega⟩
  | succ n ih =>
    intro k x rr cc w m nb ng hk hT h e
    obtain ⟨ch, c1, c2⟩ := hT k (by omega)
    rcases rd_step (show k < 80 by omega) c2 e with ⟨_, z, y⟩ | ⟨_, z, y⟩
    · rw [y] at e ⊢
      exact ih (k + 1) _ _ _ _ _ _ _ (by omega) (fun i hi => hT i (by omega)) ((h.end (by omega)).2 z) e
    · rw [y] at e ⊢
      obtain ⟨M, a, b, d⟩ := ih (k + 1) _ _ _ _ _ _ _ (by omega) (fun i hi => hT i (by omega)) (h.add (by omega) z) e
      exact ⟨M, a, by omega, d⟩
theorem ng_add (n : Nat) (b : Bool) : nI n + bI b = nI (if b = true then n + 1 else n) := by
  cases b with
  | true => exact nI_1 n
  | false => exact Int32.add_zero _
theorem cr_ok {N : Nat} {f : Nat → Int32} {len : Nat} : ∀ n k x rr cc w m nb ng t1 r, k + n = len → TX f len t1 → SI x k rr cc w m nb ng → (rdL f (nI len) n k x).1 = -1 → f_readRoom_L N (r + 1 + n) (nI len) (nI nb) (nI ng) (bI (!decide (rP x = -1))) (nI k) t1 = f_readRoom_L N (r + 1) (nI len) (rBc (rdL f (nI len) n k x).2) (rGc (rdL f (nI len) n k x).2) (bI (!decide (rP (rdL f (nI len) n k x).2 = -1))) (nI len) t1 := by
  intro n
  induction n with
  | zero =>
    intro k x rr cc w m nb ng t1 r hk hT h _
    obtain ⟨_, _, _, e4, _, e6, e7⟩ := ends_same x
    show f_readRoom_L N (r + 1 + 0) (nI len) (nI nb) (nI ng) (bI (!decide (rP x = -1))) (nI k) t1 = f_readRoom_L N (r + 1) (nI len) (rBc (rEndS x)) (rGc (rEndS x)) (bI (!decide (rP (rEndS x) = -1))) (nI len) t1
    rw [Nat.add_zero, e4, e6, e7, h.1.2.2.2.2.1, h.1.2.2.2.2.2, show k = len by omega]
  | succ n ih =>
    intro k x rr cc w m nb ng t1 r hk hT h e
    have hl := hT.1
    obtain ⟨e5, ch, c1, c2⟩ := hT.2 k (by omega)
    have n5 : nb ≤ 5 := h.2.2.2.2.2.2.2.1
    rw [← Nat.add_assoc, u_readRoom_40, if_neg (nI_ge (show k < len by omega) (by omega)), if_pos (inB_nI (show k < 80 by omega) (by decide)), nI_clamp (by omega), e5, c2, m_isBoxText, Option.bind_some, ifb, Option.bind_some, m_goalText, Option.bind_some, m_isPlayerText, Option.bind_some, ifb, Option.bind_some, ng_add, ng_add, nI_1]
    rcases rd_step (show k < 80 by omega) c2 e with ⟨c47, z, y⟩ | ⟨c47, z, y⟩
    · rw [y] at e ⊢
      rw [c47, show bCh 47 = false from rfl, show gCh 47 = false from rfl, show pCh 47 = false from rfl, if_neg (by decide), if_neg (by decide), show ∀ v : Int32, v + bI false = v from fun v => Int32.add_zero v, ← (ends_same x).2.2.2.1]
      exact ih (k + 1) _ _ _ _ _ _ _ t1 r (by omega) hT ((h.end (by omega)).2 z) e
    · rw [y] at e ⊢
      have ai := (addB_iff h (by omega) (nI ch)).mp z
      have s3 : pCh (nI ch) = true → (!decide (rP x = -1)) = false := fun q => by rw [ai.2.2.1 q]; rfl
      rw [(np_add _ _).2 s3, ← hasP_add h (by omega)]
      exact ih (k + 1) _ _ _ _ _ _ _ t1 r (by omega) hT (h.add (by omega) z) e
/-- a room's masks in the model -/
def LR (x : RtT) (t : xT) : Prop := (∀ c, c < 64 → ra t 1 (10 + c) = if tb (rO x) c then (if tb (rG x) c then 3 else 1) else 0) ∧ (∀ c, c < 64 → ra t 1 (74 + c) = bI (tb (rB x) c)) ∧ (rP x = -1 ∨ ra t 1 3 = rP x)
theorem addS_tb {x : RtT} {k rr cc w m nb ng : Nat} (h : SI x k rr cc w m nb ng) (h64 : m < 64) (c : Int32) (i : Nat) : tb (rO (rAddS x c)) i = (if i = m then !decide (c = 35) else tb (rO x) i) ∧ tb (rG (rAddS x c)) i = (if i = m then gCh c else tb (rG x) i) ∧ tb (rB (rAddS x c)) i = (if i = m then bCh c else tb (rB x) i) := by
  obtain ⟨⟨a1, a2, a3, a4, a5, a6⟩, ⟨b1, b2, b3, b4, b5, b6⟩, ⟨c1, c2⟩, d1, d2, d3, d4, d5, d6⟩ := h
  have pt := pl_tb a4 (by omega) i
  have om : tb (rO x) m = false := by
    cases z : tb (rO x) m with
    | false => rfl
    | true => have := d1 m z; omega
  have gm : tb (rG x) m = false := by
    cases z : tb (rG x) m with
    | false => rfl
    | true => rw [d2 m z] at om; exact ff om
  have bm : tb (rB x) m = false := by
    cases z : tb (rB x) m with
    | false => rfl
    | true => rw [d3 m z] at om; exact ff om
  have gen : ∀ (b : Int64) (v : Bool), tb b m = false → tb (if v = true then b ||| rPl x else b) i = if i = m then v else tb b i := fun b v hb => by
    apply bool_iff
    rw [or_if, pt]
    by_cases z : i = m
    · subst z
      rw [if_pos rfl, hb]
      exact ⟨fun y => (y.resolve_left fun q => ff q.symm).1, fun y => Or.inr ⟨y, rfl, h64⟩⟩
    · rw [if_neg z]
      exact ⟨fun y => y.resolve_right fun q => z q.2.1, Or.inl⟩
  refine ⟨?_, gen _ _ gm, gen _ _ bm⟩
  have := gen (rO x) (!decide (c = 35)) om
  show tb (if c = 35 then rO x else rO x ||| rPl x) i = _
  rw [← this]
  by_cases z : c = 35
  · rw [if_pos z, decide_eq_true z]; rfl
  · rw [if_neg z, decide_eq_false z]; rfl
