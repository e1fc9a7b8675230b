/-! the text of a room: its shape -/
theorem sg_t : ∀ ch, ch < 127 → (f_isCell (nI ch) = some (bI (!decide (sIx SGN (nI ch) < 0)))) ∧ (nI ch = (47 : Int32) → sIx SGN (nI ch) < 0) := by decide +kernel
theorem m_isBoxText (c : Int32) : f_isBoxText c = some (bI (bCh c)) := by
  unfold f_isBoxText bCh
  repeat' split
  all_goals rfl
theorem m_isPlayerText (c : Int32) : f_isPlayerText c = some (bI (pCh c)) := by
  unfold f_isPlayerText pCh
  repeat' split
  all_goals rfl
theorem m_goalText (c : Int32) : (if c = 46 then (some (1 : Int32)) else (if c = 42 then (some (1 : Int32)) else (if c = 43 then (some (1 : Int32)) else (some (0 : Int32))))) = some (bI (gCh c)) := by
  unfold gCh
  repeat' split
  all_goals rfl
theorem ch_wall {c : Int32} (h : c = 35) : gCh c = false ∧ bCh c = false ∧ pCh c = false := by subst h; exact ⟨rfl, rfl, rfl⟩
theorem ch_bp {c : Int32} (h : pCh c = true) : bCh c = false := by
  unfold pCh at h
  split at h
  · rename_i e; subst e; rfl
  · split at h
    · rename_i e; subst e; rfl
    · cases h
theorem bit_eqL {k : Nat} (hk : k < 64) (x : Nat) : tb (jshl 1 (nI k)) x = true ↔ x = k := by
  by_cases hx : x < 64
  · rw [tb_bit hk hx, decide_eq_true_iff]
  · rw [tb_big (by omega)]
    exact ⟨fun h => Bool.noConfusion h, fun h => by omega⟩
theorem ct_or {b : Int64} {m : Nat} (hm : m < 64) (h : tb b m = false) : fb_ct (tb (b ||| jshl 1 (nI m))) 64 = fb_ct (tb b) 64 + 1 := by
  have u := fb_ct_upd (tb b) true (i := m) (n := 64) hm
  rw [h] at u
  have e : tb (b ||| jshl 1 (nI m)) = fun k => if k = m then true else tb b k := by
    funext k
    apply bool_iff
    rw [tb_or, or_t, bit_eqL hm]
    by_cases z : k = m
    · rw [if_pos z]; exact ⟨fun _ => rfl, fun _ => Or.inr z⟩
    · rw [if_neg z]; exact ⟨fun y => y.resolve_right z, Or.inl⟩
  rw [e]
  simpa using u
/-- a room's text as it is read -/
def SI (x : RtT) (k rr cc w m nb ng : Nat) : Prop :=
  (rR x = nI rr ∧ rC x = nI cc ∧ rW x = nI w ∧ rN x = nI m ∧ rBc x = nI nb ∧ rGc x = nI ng) ∧ (m = rr * cc + w ∧ m ≤ k ∧ rr ≤ k ∧ ng ≤ k ∧ w ≤ k ∧ cc ≤ k) ∧ ((rr = 0 → cc = 0) ∧ (1 ≤ rr → w ≤ cc ∧ 1 ≤ cc)) ∧ (∀ c, tb (rO x) c = true → c < m) ∧ (∀ c, tb (rG x) c = true → tb (rO x) c = true) ∧ (∀ c, tb (rB x) c = true → tb (rO x) c = true) ∧ (rP x = -1 ∨ ∃ p, p < m ∧ rP x = nI p ∧ (p < 64 → tb (rO x) p = true ∧ tb (rB x) p = false)) ∧ nb ≤ 5 ∧ fb_ct (tb (rB x)) 64 ≤ nb
theorem cl_no {P : Prop} {c : Nat} (h : tb 0 c = true) : P := by rw [tb_0] at h; exact Bool.noConfusion h
theorem SI.clr : SI rClr 0 0 0 0 0 0 0 := ⟨⟨rfl, rfl, rfl, rfl, rfl, rfl⟩, ⟨rfl, by decide, by decide, by decide, by decide, by decide⟩, ⟨fun _ => rfl, fun h => absurd h (by decide)⟩, fun _ h => cl_no h, fun _ h => cl_no h, fun _ h => cl_no h, Or.inl rfl, by decide, by rw [show rB rClr = 0 from rfl]; decide⟩
theorem SI.end {x : RtT} {k rr cc w m nb ng : Nat} (h : SI x k rr cc w m nb ng) (hk : k < 2 ^ 20) : (rEndB x = true ↔ ¬ w = 0 ∧ (rr = 0 ∨ cc ≤ w)) ∧ (rEndB x = true → SI (rEndS x) (k + 1) (rr + 1) w 0 m nb ng) := by
  obtain ⟨⟨a1, a2, a3, a4, a5, a6⟩, ⟨b1, b2, b3, b4, b5, b6⟩, ⟨c1, c2⟩, d1, d2, d3, d4, d5, d6⟩ := h
  have key : rEndB x = true ↔ ¬ w = 0 ∧ (rr = 0 ∨ cc ≤ w) := by
    unfold rEndB
    rw [a1, a2, a3]
    by_cases z : w = 0
    · subst z
      rw [if_pos (show nI 0 = 0 from rfl)]
      exact ⟨fun y => Bool.noConfusion y, fun y => absurd rfl y.1⟩
    · rw [if_neg (show ¬ nI w = (0 : Int32) from nI_ne (b := 0) (by omega) (by decide) z)]
      by_cases y : rr = 0
      · subst y
        rw [if_pos (show nI 0 ≤ 0 by decide)]
        exact ⟨fun _ => ⟨z, Or.inl rfl⟩, fun _ => rfl⟩
      · rw [if_neg (show ¬ nI rr ≤ (0 : Int32) from fun q => Int32.not_lt.mpr q (nI_lt (a := 0) (by omega) (by omega)))]
        by_cases v : cc ≤ w
        · rw [if_pos (nI_le v (by omega))]
          exact ⟨fun _ => ⟨z, Or.inr v⟩, fun _ => rfl⟩
        · rw [if_neg (nI_ge (show w < cc by omega) (by omega))]
          exact ⟨fun y => Bool.noConfusion y, fun q => by rcases q.2 with q | q <;> omega⟩
  refine ⟨key, fun e => ?_⟩
  obtain ⟨z, y⟩ := key.mp e
  have es : rEndS x = (rR x + 1, rW x, rO x, rG x, rB x, rP x, 0, rN x, rGc x, rBc x) := by unfold rEndS; rw [if_pos e]
  rw [es]
  have mm : m = (rr + 1) * w + 0 := by
    rcases Nat.eq_zero_or_pos rr with q | q
    · subst q; rw [b1, c1 rfl]; omega
    · have : cc = w := by have := (c2 q).1; omega
      rw [b1, this, Nat.add_mul]; omega
  refine ⟨⟨?_, a3, rfl, a4, a5, a6⟩, ⟨mm, by omega, by omega, by omega, by omega, by omega⟩, ⟨fun q => by omega, fun _ => ⟨Nat.zero_le _, by omega⟩⟩, d1, d2, d3, d4, d5, d6⟩
  show rR x + 1 = _
  rw [a1, nI_1]
