/-! the text of a room: one more cell -/
theorem ff {P : Prop} (h : true = false) : P := Bool.noConfusion h
theorem pl_tb {x : RtT} {m : Nat} (h : rN x = nI m) (hm : m < 2 ^ 30) (i : Nat) : tb (rPl x) i = true ↔ i = m ∧ m < 64 := by
  unfold rPl
  rw [h]
  by_cases z : m < 64
  · rw [if_neg (show ¬ (64 : Int32) ≤ nI m from nI_ge (b := 64) z (by decide)), bit_eqL z]
    exact ⟨fun y => ⟨y, z⟩, fun y => y.1⟩
  · rw [if_pos (show (64 : Int32) ≤ nI m from nI_le (a := 64) (by omega) (by omega))]
    exact ⟨fun y => cl_no y, fun y => absurd y.2 z⟩
theorem or_if {b s : Int64} {v : Bool} (i : Nat) : tb (if v = true then b ||| s else b) i = true ↔ tb b i = true ∨ (v = true ∧ tb s i = true) := by
  cases v with
  | false => rw [if_neg (by decide)]; exact ⟨Or.inl, fun y => y.resolve_right fun z => Bool.noConfusion z.1⟩
  | true => rw [if_pos rfl, tb_or, or_t]; exact ⟨fun y => y.imp id fun z => ⟨rfl, z⟩, fun y => y.imp id fun z => z.2⟩
theorem addB_iff {x : RtT} {k rr cc w m nb ng : Nat} (h : SI x k rr cc w m nb ng) (hk : k < 2 ^ 20) (c : Int32) : rAddB x c = true ↔ ¬ sIx SGN c < 0 ∧ (rr = 0 ∨ w ≠ cc) ∧ (pCh c = true → rP x = -1) ∧ (bCh c = true → nb ≠ 5) := by
  obtain ⟨⟨a1, a2, a3, a4, a5, a6⟩, ⟨b1, b2, b3, b4, b5, b6⟩, ⟨c1, c2⟩, d1, d2, d3, d4, d5, d6⟩ := h
  unfold rAddB
  rw [a1, a2, a3, a5]
  have e5 : (nI nb = (5 : Int32)) ↔ nb = 5 := nI_eq (b := 5) (by omega) (by decide)
  have ew : (nI w = nI cc) ↔ w = cc := nI_eq (by omega) (by omega)
  have er : (nI rr ≤ (0 : Int32)) ↔ rr = 0 := by
    refine ⟨fun q => ?_, fun q => by rw [q]; decide⟩
    rcases Nat.eq_zero_or_pos rr with z | z
    · exact z
    · exact absurd (nI_lt (a := 0) z (by omega)) (Int32.not_lt.mpr q)
  by_cases s1 : sIx SGN c < 0
  · rw [if_pos s1]
    exact ⟨fun z => Bool.noConfusion z, fun z => absurd s1 z.1⟩
  rw [if_neg s1]
  by_cases s2 : rr = 0 ∨ w ≠ cc
  · have n2 : ¬ ((if nI rr ≤ 0 then false else decide (nI w = nI cc)) = true) := by
      by_cases z : rr = 0
      · rw [if_pos (er.mpr z)]; decide
      · rw [if_neg (fun y => z (er.mp y)), decide_eq_true_iff, ew]
        exact fun y => by rcases s2 with s2 | s2 <;> contradiction
    rw [if_neg n2]
    by_cases s3 : pCh c = true → rP x = -1
    · have n3 : ¬ ((if pCh c = true then !decide (rP x = -1) else false) = true) := by
        by_cases z : pCh c = true
        · rw [if_pos z, decide_eq_true (s3 z)]; decide
        · rw [if_neg z]; decide
      rw [if_neg n3]
      by_cases s4 : bCh c = true → nb ≠ 5
      · have n4 : ¬ ((if bCh c = true then decide (nI nb = 5) else false) = true) := by
          by_cases z : bCh c = true
          · rw [if_pos z, decide_eq_true_iff, e5]; exact s4 z
          · rw [if_neg z]; decide
        rw [if_neg n4]
        exact ⟨fun _ => ⟨s1, s2, s3, s4⟩, fun _ => rfl⟩
      · have z : bCh c = true ∧ nb = 5 := by
          refine ⟨Classical.byContradiction fun q => s4 fun r => absurd r q, Classical.byContradiction fun q => s4 fun _ => q⟩
        rw [if_pos z.1, if_pos (by rw [decide_eq_true_iff, e5]; exact z.2)]
        exact ⟨fun z => Bool.noConfusion z, fun z => absurd z.2.2.2 s4⟩
    · have z : pCh c = true ∧ ¬ rP x = -1 := by
        refine ⟨Classical.byContradiction fun q => s3 fun r => absurd r q, fun q => s3 fun _ => q⟩
      rw [if_pos z.1, decide_eq_false z.2, if_pos (show (!false) = true from rfl)]
      exact ⟨fun z => Bool.noConfusion z, fun z => absurd z.2.2.1 s3⟩
  · have z : ¬ rr = 0 ∧ w = cc := ⟨fun q => s2 (Or.inl q), Classical.byContradiction fun q => s2 (Or.inr q)⟩
    rw [if_neg (fun y => z.1 (er.mp y)), if_pos (by rw [decide_eq_true_iff, ew]; exact z.2)]
    exact ⟨fun z => Bool.noConfusion z, fun z => absurd z.2.1 s2⟩
theorem SI.add {x : RtT} {k rr cc w m nb ng : Nat} (h : SI x k rr cc w m nb ng) (hk : k < 2 ^ 20) {c : Int32} (e : rAddB x c = true) : SI (rAddS x c) (k + 1) rr cc (w + 1) (m + 1) (if bCh c = true then nb + 1 else nb) (if gCh c = true then ng + 1 else ng) := by
  obtain ⟨s1, s2, s3, s4⟩ := (addB_iff h hk c).mp e
  obtain ⟨⟨a1, a2, a3, a4, a5, a6⟩, ⟨b1, b2, b3, b4, b5, b6⟩, ⟨c1, c2⟩, d1, d2, d3, d4, d5, d6⟩ := h
  have pt := pl_tb a4 (by omega)
  have oO : ∀ i, tb (rO (rAddS x c)) i = true ↔ tb (rO x) i = true ∨ (¬ c = 35 ∧ i = m ∧ m < 64) := fun i => by
    show tb (if c = 35 then rO x else rO x ||| rPl x) i = true ↔ _
    by_cases z : c = 35
    · rw [if_pos z]; exact ⟨Or.inl, fun y => y.resolve_right fun q => q.1 z⟩
    · rw [if_neg z, tb_or, or_t, pt]; exact ⟨fun y => y.imp id fun q => ⟨z, q⟩, fun y => y.imp id fun q => q.2⟩
  have oG : ∀ i, tb (rG (rAddS x c)) i = true ↔ tb (rG x) i = true ∨ (gCh c = true ∧ i = m ∧ m < 64) := fun i => by
    show tb (if gCh c = true then rG x ||| rPl x else rG x) i = true ↔ _
    rw [or_if, pt]
  have oB : ∀ i, tb (rB (rAddS x c)) i = true ↔ tb (rB x) i = true ∨ (bCh c = true ∧ i = m ∧ m < 64) := fun i => by
    show tb (if bCh c = true then rB x ||| rPl x else rB x) i = true ↔ _
    rw [or_if, pt]
  have bm : tb (rB x) m = false := by
    cases z : tb (rB x) m with
    | false => rfl
    | true => have := d1 m (d3 m z); omega
  refine ⟨⟨a1, a2, ?_, ?_, ?_, ?_⟩, ⟨by omega, by omega, by omega, ?_, by omega, by omega⟩, ⟨c1, fun q => ?_⟩, ?_, ?_, ?_, ?_, ?_, ?_⟩
  · show rW x + 1 = _; rw [a3, nI_1]
  · show rN x + 1 = _; rw [a4, nI_1]
  · show (if bCh c = true then rBc x + 1 else rBc x) = _
    rw [a5]; split
    · exact nI_1 nb
    · rfl
  · show (if gCh c = true then rGc x + 1 else rGc x) = _
    rw [a6]; split
    · exact nI_1 ng
    · rfl
  · split <;> omega
  · have := c2 q
    rcases s2 with s2 | s2 <;> omega
  · intro i hi
    rcases (oO i).mp hi with z | z
    · have := d1 i z; omega
    · omega
  · intro i hi
    rcases (oG i).mp hi with z | ⟨z, z2⟩
    · exact (oO i).mpr (Or.inl (d2 i z))
    · exact (oO i).mpr (Or.inr ⟨fun y => ff (z.symm.trans (ch_wall y).1), z2⟩)
  · intro i hi
    rcases (oB i).mp hi with z | ⟨z, z2⟩
    · exact (oO i).mpr (Or.inl (d3 i z))
    · exact (oO i).mpr (Or.inr ⟨fun y => ff (z.symm.trans (ch_wall y).2.1), z2⟩)
  · show (if pCh c = true then rN x else rP x) = -1 ∨ ∃ p, p < m + 1 ∧ (if pCh c = true then rN x else rP x) = nI p ∧ _
    by_cases z : pCh c = true
    · rw [if_pos z, a4]
      refine Or.inr ⟨m, Nat.lt_succ_self m, rfl, fun h64 => ⟨(oO m).mpr (Or.inr ⟨fun y => ff (z.symm.trans (ch_wall y).2.2), rfl, h64⟩), ?_⟩⟩
      cases v : tb (rB (rAddS x c)) m with
      | false => rfl
      | true =>
        rcases (oB m).mp v with y | y
        · rw [bm] at y; cases y
        · rw [ch_bp z] at y; exact Bool.noConfusion y.1
    · rw [if_neg z]
      rcases d4 with y | ⟨p, p1, p2, p3⟩
      · exact Or.inl y
      · refine Or.inr ⟨p, by omega, p2, fun h64 => ⟨(oO p).mpr (Or.inl (p3 h64).1), ?_⟩⟩
        cases v : tb (rB (rAddS x c)) p with
        | false => rfl
        | true =>
          rcases (oB p).mp v with y | y
          · rw [(p3 h64).2] at y; cases y
          · omega
  · split
    · rename_i z; have := s4 z; omega
    · exact d5
  · show fb_ct (tb (if bCh c = true then rB x ||| rPl x else rB x)) 64 ≤ _
    by_cases z : bCh c = true
    · rw [if_pos z, if_pos z]
      unfold rPl
      rw [a4]
      by_cases y : m < 64
      · rw [if_neg (show ¬ (64 : Int32) ≤ nI m from nI_ge (b := 64) y (by decide)), ct_or y bm]; omega
      · rw [if_pos (show (64 : Int32) ≤ nI m from nI_le (a := 64) (by omega) (by omega)), show rB x ||| 0 = rB x from Int64.or_zero]; omega
    · rw [if_neg z, if_neg z]; exact d6
