/-! the text of a room: its fault -/
theorem ifb (b : Bool) : (if bI b = 0 then (some (0 : Int32)) else some 1) = some (bI b) := by cases b <;> rfl
theorem nI_m1 {k : Nat} (h : k < 2 ^ 30) : ¬ nI k = (-1 : Int32) := fun z => nI_pos (show k < 2 ^ 31 by omega) (by rw [z]; decide)
theorem nb_add {nb : Nat} (h : nb ≤ 5) (b : Bool) : nI nb + bI b = nI (if b = true then nb + 1 else nb) ∧ (¬ (5 : Int32) < nI nb + bI b ↔ (b = true → nb ≠ 5)) := by
  have : ∀ n, n < 6 → ∀ b, nI n + bI b = nI (if b = true then n + 1 else n) ∧ (¬ (5 : Int32) < nI n + bI b ↔ (b = true → n ≠ 5)) := by decide +kernel
  exact this nb (by omega) b
theorem np_add (a b : Bool) : (bI a + bI b ≤ 1 ↔ (b = true → a = false)) ∧ ((b = true → a = false) → bI a + bI b = bI (a || b)) := by cases a <;> cases b <;> decide
theorem hasP_add {x : RtT} {k rr cc w m nb ng : Nat} (h : SI x k rr cc w m nb ng) (hk : k < 2 ^ 20) (c : Int32) : (!decide (rP (rAddS x c) = -1)) = ((!decide (rP x = -1)) || pCh c) := by
  have e : rP (rAddS x c) = if pCh c = true then rN x else rP x := rfl
  rw [e, h.1.2.2.2.1]
  cases z : pCh c with
  | true => rw [if_pos rfl, decide_eq_false (nI_m1 (by have := h.2.1.2.1; omega)), Bool.or_true]; rfl
  | false => rw [if_neg (by decide), Bool.or_false]
theorem rf_ok {N : Nat} {f : Nat → Int32} {len : Nat} : ∀ n k x rr cc w m nb ng t1 r, k + n = len → TX f len t1 → rs t1 11 = nI len → SI x k rr cc w m nb ng → rs t1 14 = nI rr → rs t1 13 = (if rr = 0 then -1 else nI cc) → ∃ u, f_roomFault_L N (r + 1 + n) (nI w) (nI nb) (bI (!decide (rP x = -1))) (nI k) t1 = some ((rdL f (nI len) n k x).1, u) ∧ Frm [] [13, 14] t1 u ∧ ((rdL f (nI len) n k x).1 = -1 ∨ ¬ (rdL f (nI len) n k x).1 < 0) ∧ ((rdL f (nI len) n k x).1 = -1 → ∃ rr' cc' nb' ng', SI (rdL f (nI len) n k x).2 (len + 1) rr' cc' 0 (rr' * cc') nb' ng' ∧ 1 ≤ rr' ∧ rs u 14 = nI rr' ∧ rs u 13 = nI cc') := by
  intro n
  induction n with
  | zero =>
    intro k x rr cc w m nb ng t1 r hk hT h11 h h14 h13
    have hl := hT.1
    have kl : k = len := by omega
    subst kl
    obtain ⟨key, en⟩ := h.end (by omega)
    have b5 : w ≤ k := h.2.1.2.2.2.2.1
    have b6 : cc ≤ k := h.2.1.2.2.2.2.2
    have c2 := h.2.2.1.2
    have cwx : ∀ i, rs t1 13 = i → 0 ≤ i ∨ i = -1 := by
      intro i hi
      rw [h13] at hi
      by_cases z : rr = 0
      · rw [if_pos z] at hi; exact Or.inr hi.symm
      · rw [if_neg z] at hi; rw [← hi]; exact Or.inl (nI_pos' (by omega))
    have wide : (if 0 ≤ rs t1 13 then some (rs t1 13) else some (nI w)) = some (nI (if rr = 0 then w else cc)) := by
      rw [h13]
      by_cases z : rr = 0
      · rw [if_pos z, if_pos z, if_neg (by decide)]
      · rw [if_neg z, if_neg z, if_pos (nI_pos' (by omega))]
    refine ⟨ws (ws t1 13 (nI (if rr = 0 then w else cc))) 14 (nI (rr + 1)), ?_, Frm.ws (Frm.ws Frm.rf (by decide) _) (by decide) _, ?_, ?_⟩
    · have e14 : rs (ws t1 13 (nI (if rr = 0 then w else cc))) 14 = nI rr := h14
      have e11 : rs (ws (ws t1 13 (nI (if rr = 0 then w else cc))) 14 (nI (rr + 1))) 11 = nI k := h11
      have e13 : rs (ws (ws t1 13 (nI (if rr = 0 then w else cc))) 14 (nI (rr + 1))) 13 = nI (if rr = 0 then w else cc) := rfl
      rw [Nat.add_zero, u_roomFault_19, h11, if_pos (Int32.le_refl _), wide, Option.bind_some, Option.bind_some, Option.bind_some, e14, nI_1, e11, e13]
      show _ = some ((if rEndB x = true then (-1 : Int32) else nI k), _)
      by_cases z : w = 0
      · rw [if_pos (show nI w = (0 : Int32) by rw [z]; rfl), Option.bind_some, if_neg (fun y => (key.mp y).1 z)]
      · rw [if_neg (show ¬ nI w = (0 : Int32) from nI_ne (b := 0) (by omega) (by decide) z)]
        by_cases y : rr = 0 ∨ cc ≤ w
        · have le : (if rr = 0 then w else cc) ≤ w := by split <;> omega
          rw [if_pos (nI_le le (by omega)), Option.bind_some, if_pos (key.mpr ⟨z, y⟩)]
        · have le : w < (if rr = 0 then w else cc) := by split <;> omega
          rw [if_neg (nI_ge le (by split <;> omega)), Option.bind_some, if_neg (fun q => y (key.mp q).2)]
    · show (if rEndB x = true then (-1 : Int32) else nI k) = -1 ∨ ¬ (if rEndB x = true then (-1 : Int32) else nI k) < 0
      split
      · exact Or.inl rfl
      · exact Or.inr (nI_pos (by omega))
    · intro z
      have z : (if rEndB x = true then (-1 : Int32) else nI k) = -1 := z
      have eb : rEndB x = true := Classical.byContradiction fun q => by rw [if_neg q] at z; exact nI_m1 (by omega) z
      have sx := en eb
      obtain ⟨k1, k2⟩ := key.mp eb
      have em : m = (rr + 1) * w := sx.2.1.1
      subst em
      refine ⟨rr + 1, w, nb, ng, sx, by omega, rfl, ?_⟩
      show nI (if rr = 0 then w else cc) = nI w
      congr 1
      split
      · rfl
      · have := (c2 (by omega)).1; omega
  | succ n ih =>
    intro k x rr cc w m nb ng t1 r hk hT h11 h h14 h13
    have hl := hT.1
    obtain ⟨e5, ch, c1, c2⟩ := hT.2 k (by omega)
    have ia : iAt f (nI k) = nI ch := by rw [iAt_k f (by omega), c2]
    obtain ⟨key, en⟩ := h.end (by omega)
    have b3 : rr ≤ k := h.2.1.2.2.1
    have b5 : w ≤ k := h.2.1.2.2.2.2.1
    have b6 : cc ≤ k := h.2.1.2.2.2.2.2
    have n5 : nb ≤ 5 := h.2.2.2.2.2.2.2.1
    have fault : ∀ y, ∃ u, (some (nI k, t1) : Option (Int32 × xT)) = some (((nI k, y) : Int32 × RtT).1, u) ∧ Frm [] [13, 14] t1 u ∧ (((nI k, y) : Int32 × RtT).1 = -1 ∨ ¬ ((nI k, y) : Int32 × RtT).1 < 0) ∧ (((nI k, y) : Int32 × RtT).1 = -1 → ∃ rr' cc' nb' ng', SI ((nI k, y) : Int32 × RtT).2 (len + 1) rr' cc' 0 (rr' * cc') nb' ng' ∧ 1 ≤ rr' ∧ rs u 14 = nI rr' ∧ rs u 13 = nI cc') := fun y => ⟨t1, rfl, Frm.rf, Or.inr (nI_pos (by omega)), fun q => absurd q (nI_m1 (by omega))⟩
    rw [← Nat.add_assoc, u_roomFault_19, h11, if_neg (nI_ge (show k < len by omega) (by omega)), if_pos (inB_nI (show k < 80 by omega) (by decide)), nI_clamp (by omega), e5, c2]
    unfold rdL
    rw [ia]
    unfold rStB rStS
    by_cases c47 : nI ch = (47 : Int32)
    · rw [if_pos c47, if_pos c47, if_pos c47]
      by_cases z : w = 0
      · rw [if_pos (show nI w = (0 : Int32) by rw [z]; rfl), if_neg (fun y => (key.mp y).1 z)]
        exact fault _
      · rw [if_neg (show ¬ nI w = (0 : Int32) from nI_ne (b := 0) (by omega) (by decide) z)]
        have go : rEndB x = true → ∃ u, f_roomFault_L N (r + 1 + n) 0 (nI nb) (bI (!decide (rP x = -1))) (nI k + 1) (ws (ws t1 13 (nI w)) 14 (rs (ws t1 13 (nI w)) 14 + 1)) = some ((rdL f (nI len) n (k + 1) (rEndS x)).1, u) ∧ Frm [] [13, 14] t1 u ∧ ((rdL f (nI len) n (k + 1) (rEndS x)).1 = -1 ∨ ¬ (rdL f (nI len) n (k + 1) (rEndS x)).1 < 0) ∧ ((rdL f (nI len) n (k + 1) (rEndS x)).1 = -1 → ∃ rr' cc' nb' ng', SI (rdL f (nI len) n (k + 1) (rEndS x)).2 (len + 1) rr' cc' 0 (rr' * cc') nb' ng' ∧ 1 ≤ rr' ∧ rs u 14 = nI rr' ∧ rs u 13 = nI cc') := fun eb => by
          have e14 : rs (ws t1 13 (nI w)) 14 = nI rr := h14
          have eP : rP (rEndS x) = rP x := by unfold rEndS; rw [if_pos eb]; rfl
          rw [e14, nI_1, nI_1, ← eP]
          obtain ⟨u, q1, q2, q3, q4⟩ := ih (k + 1) (rEndS x) (rr + 1) w 0 m nb ng (ws (ws t1 13 (nI w)) 14 (nI (rr + 1))) r (by omega) hT h11 (en eb) rfl (by rw [if_neg (Nat.succ_ne_zero rr)]; rfl)
          exact ⟨u, q1, (Frm.ws (Frm.ws Frm.rf (by decide) _) (by decide) _).trans q2, q3, q4⟩
        rw [h13]
        by_cases y : rr = 0
        · rw [if_pos y, if_pos (show (-1 : Int32) < 0 by decide)]
          have eb := key.mpr ⟨z, Or.inl y⟩
          rw [if_pos eb]
          exact go eb
        · rw [if_neg y, if_neg (show ¬ nI cc < 0 from nI_pos (by omega))]
          by_cases v : cc ≤ w
          · have eb := key.mpr ⟨z, Or.inr v⟩
            rw [if_pos (nI_le v (by omega)), if_pos eb]
            exact go eb
          · rw [if_neg (nI_ge (show w < cc by omega) (by omega)), if_neg (fun q => by rcases (key.mp q).2 with q | q <;> contradiction)]
            exact fault _
    · rw [if_neg c47, if_neg c47, if_neg c47, m_isBoxText, Option.bind_some, ifb, Option.bind_some, m_isPlayerText, Option.bind_some, ifb, Option.bind_some, (sg_t ch c1).1, Option.bind_some]
      have ai := addB_iff h (by omega) (nI ch)
      obtain ⟨na1, na2⟩ := nb_add n5 (bCh (nI ch))
      obtain ⟨np1, np2⟩ := np_add (!decide (rP x = -1)) (pCh (nI ch))
      by_cases s1 : sIx SGN (nI ch) < 0
      · rw [if_pos (show bI (!decide (sIx SGN (nI ch) < 0)) = 0 by rw [decide_eq_true s1]; rfl), if_neg (fun q => (ai.mp q).1 s1)]
        exact fault _
      rw [if_neg (show ¬ bI (!decide (sIx SGN (nI ch) < 0)) = 0 by rw [decide_eq_false s1]; decide), h13]
      by_cases s2 : rr = 0 ∨ w ≠ cc
      · have nw : ¬ nI w = (if rr = 0 then -1 else nI cc) := by
          by_cases z : rr = 0
          · rw [if_pos z]; exact nI_m1 (by omega)
          · rw [if_neg z]; exact nI_ne (by omega) (by omega) (s2.resolve_left z)
        rw [if_neg nw]
        by_cases s4 : bCh (nI ch) = true → nb ≠ 5
        · rw [if_neg (na2.mpr s4)]
          by_cases s3 : pCh (nI ch) = true → (!decide (rP x = -1)) = false
          · have s3' : pCh (nI ch) = true → rP x = -1 := fun q => by
              have := s3 q
              rw [Bool.not_eq_false', decide_eq_true_iff] at this; exact this
            have ea := ai.mpr ⟨s1, s2, s3', s4⟩
            rw [if_pos (np1.mpr s3), if_pos ea, if_pos ea, na1, np2 s3, nI_1, nI_1, ← hasP_add h (by omega)]
            exact ih (k + 1) (rAddS x (nI ch)) rr cc (w + 1) (m + 1) _ _ t1 r (by omega) hT h11 (h.add (by omega) ea) h14 h13
          · rw [if_neg (fun q => s3 (np1.mp q)), if_neg (fun q => s3 fun v => by rw [(ai.mp q).2.2.1 v]; rfl)]
            exact fault _
        · rw [if_pos (Classical.byContradiction fun q => s4 (na2.mp q)), if_neg (fun q => s4 (ai.mp q).2.2.2)]
          exact fault _
      · have z : ¬ rr = 0 ∧ w = cc := ⟨fun q => s2 (Or.inl q), Classical.byContradiction fun q => s2 (Or.inr q)⟩
        rw [if_neg z.1, if_pos (by rw [z.2]), if_neg (fun q => s2 (ai.mp q).2.1)]
        exact fault _
