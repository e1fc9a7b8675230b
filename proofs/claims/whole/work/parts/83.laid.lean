/-! the room laid out -/
theorem ct_set {b : Int64} {p : Nat → Bool} {m : Nat} (hm : m < 64) (v : Bool) (h : ∀ i, p i = if i = m then v else tb b i) (hb : tb b m = false) : fb_ct p 64 = fb_ct (tb b) 64 + (if v then 1 else 0) := by
  have u := fb_ct_upd (tb b) v (i := m) (n := 64) hm
  rw [hb] at u
  have e : p = fun k => if k = m then v else tb b k := funext h
  rw [e]
  simpa using u
theorem la_ok {N : Nat} {f : Nat → Int32} {len M : Nat} (hM : M ≤ 64) : ∀ n k x rr cc w m nb ng t1 r, k + n = len → TX f len t1 → SI x k rr cc w m nb ng → (rdL f (nI len) n k x).1 = -1 → rN (rdL f (nI len) n k x).2 = nI M → LR x t1 → ∃ u, f_lays_L N (r + 1 + n) 56 (nI len) (nI m) (nI (fb_ct (tb (rO x)) 64)) (nI k) t1 = some (nI (fb_ct (tb (rO (rdL f (nI len) n k x).2)) 64), u) ∧ Frm [1] [5] t1 u ∧ rs u 5 = 0 ∧ LR (rdL f (nI len) n k x).2 u ∧ ∀ j, j < 10 → j ≠ 3 → ra u 1 j = ra t1 1 j := by
  intro n
  induction n with
  | zero =>
    intro k x rr cc w m nb ng t1 r hk hT h e eM hL
    have hl := hT.1
    obtain ⟨e1, e2, e3, e4, _⟩ := ends_same x
    refine ⟨ws t1 5 0, ?_, Frm.ws Frm.rf (by decide) _, rfl, ?_, fun _ _ _ => rfl⟩
    · rw [Nat.add_zero, u_lays_56, if_pos (nI_le (show len ≤ k by omega) (by omega)), Option.bind_some]
      show _ = some (nI (fb_ct (tb (rO (rEndS x))) 64), _)
      rw [e1]
    · show LR (rEndS x) (ws t1 5 0)
      unfold LR
      rw [e1, e2, e3, e4]; exact hL
  | succ n ih =>
    intro k x rr cc w m nb ng t1 r hk hT h e eM hL
    have hl := hT.1
    obtain ⟨e5, ch, c1, c2⟩ := hT.2 k (by omega)
    rw [← Nat.add_assoc, u_lays_56, if_neg (nI_ge (show k < len by omega) (by omega)), if_pos (inB_nI (show k < 80 by omega) (by decide)), nI_clamp (by omega), e5, c2]
    rcases rd_step (show k < 80 by omega) c2 e with ⟨c47, z, y⟩ | ⟨c47, z, y⟩
    · rw [y] at e eM ⊢
      rw [if_pos c47, Option.bind_some, nI_1]
      have e1 := (ends_same x).1
      obtain ⟨u, q1, q2, q3, q4, q5⟩ := ih (k + 1) (rEndS x) _ _ _ _ _ _ t1 r (by omega) hT ((h.end (by omega)).2 z) e eM (by
        obtain ⟨e1, e2, e3, e4, _⟩ := ends_same x
        unfold LR; rw [e1, e2, e3, e4]; exact hL)
      rw [e1] at q1
      exact ⟨u, q1, q2, q3, q4, q5⟩
    · rw [y] at e eM ⊢
      have sa := h.add (by omega) z
      obtain ⟨M', r1, r2, r3⟩ := rd_mono n (k + 1) _ _ _ _ _ _ _ (by omega) (fun i hi => (hT.2 i (by omega)).2) sa e
      have mm : M = M' := (nI_eq (by omega) (by omega)).mp (eM.symm.trans r1)
      have h64 : m < 64 := by omega
      have at' := addS_tb h h64 (nI ch)
      have om : tb (rO x) m = false := by
        cases q : tb (rO x) m with
        | false => rfl
        | true => have := h.2.2.2.1 m q; omega
      have k1 : (10 : Int32) + nI m = nI (10 + m) := nI_add 10 m
      have k2 : (74 : Int32) + nI m = nI (74 + m) := nI_add 74 m
      have cnt : fb_ct (tb (rO (rAddS x (nI ch)))) 64 = fb_ct (tb (rO x)) 64 + (if (!decide (nI ch = 35)) = true then 1 else 0) := ct_set h64 _ (fun i => (at' i).1) om
      have o1 : (if nI ch = 35 then (some (0 : Int32)) else some 1) = some (bI (!decide (nI ch = 35))) := by
        by_cases q : nI ch = 35
        · rw [if_pos q, decide_eq_true q]; rfl
        · rw [if_neg q, decide_eq_false q]; rfl
      have o2 : (if bI (gCh (nI ch)) = 0 then (some (0 : Int32)) else some 2) = some (if gCh (nI ch) = true then 2 else 0) := by cases gCh (nI ch) <;> rfl
      have kdv : bI (!decide (nI ch = 35)) + (if gCh (nI ch) = true then 2 else 0) = if (!decide (nI ch = 35)) = true then (if gCh (nI ch) = true then 3 else 1) else 0 := by
        by_cases q : nI ch = 35
        · rw [decide_eq_true q, (ch_wall q).1]; rfl
        · rw [decide_eq_false q]; cases gCh (nI ch) <;> rfl
      have hp : (if bI (pCh (nI ch)) = 0 then (some (ra t1 1 3)) else some (nI m)) = some (if pCh (nI ch) = true then nI m else ra t1 1 3) := by cases pCh (nI ch) <;> rfl
      rw [if_neg c47, m_goalText, Option.bind_some, o1, Option.bind_some, o2, Option.bind_some, k1, if_pos (inB_nI (show 10 + m < 602 by omega) (by decide)), Option.bind_some, m_isBoxText, Option.bind_some, ifb, Option.bind_some, k2, if_pos (inB_nI (show 74 + m < 602 by omega) (by decide)), Option.bind_some, m_isPlayerText, Option.bind_some, nI_clamp (show 10 + m < 2 ^ 31 by omega), nI_clamp (show 74 + m < 2 ^ 31 by omega), kdv]
      generalize hv : (if (!decide (nI ch = 35)) = true then (if gCh (nI ch) = true then (3 : Int32) else 1) else 0) = kv
      have t3 : ra (wa (wa t1 1 (upd (ra t1 1) (10 + m) kv)) 1 (upd (ra (wa t1 1 (upd (ra t1 1) (10 + m) kv)) 1) (74 + m) (bI (bCh (nI ch))))) 1 3 = ra t1 1 3 := by
        rw [ra_wa, if_pos rfl, upd_at, if_neg (by omega), ra_wa, if_pos rfl, upd_at, if_neg (by omega)]
      rw [cl_3, t3, hp, Option.bind_some, Option.bind_some, Option.bind_some, Option.bind_some, nI_1, nI_1, ng_add]
      have cnt' : (if (!decide (nI ch = 35)) = true then fb_ct (tb (rO x)) 64 + 1 else fb_ct (tb (rO x)) 64) = fb_ct (tb (rO (rAddS x (nI ch)))) 64 := by rw [cnt]; split <;> rfl
      rw [cnt']
      generalize hu : wa (wa (wa t1 1 (upd (ra t1 1) (10 + m) kv)) 1 (upd (ra (wa t1 1 (upd (ra t1 1) (10 + m) kv)) 1) (74 + m) (bI (bCh (nI ch))))) 1 (upd (ra (wa (wa t1 1 (upd (ra t1 1) (10 + m) kv)) 1 (upd (ra (wa t1 1 (upd (ra t1 1) (10 + m) kv)) 1) (74 + m) (bI (bCh (nI ch))))) 1) 3 (if pCh (nI ch) = true then nI m else ra t1 1 3)) = t2
      have f2 : Frm [1] [5] t1 t2 := by
        rw [← hu]
        exact Frm.wa (Frm.wa (Frm.wa Frm.rf (by decide) _) (by decide) _) (by decide) _
      have at2 : ∀ j, ra t2 1 j = if j = 3 then (if pCh (nI ch) = true then nI m else ra t1 1 3) else if j = 74 + m then bI (bCh (nI ch)) else if j = 10 + m then kv else ra t1 1 j := fun j => by
        rw [← hu, ra_wa, if_pos rfl, upd_at, ra_wa, if_pos rfl, upd_at, ra_wa, if_pos rfl, upd_at]
      obtain ⟨l1, l2, l3⟩ := hL
      have hL2 : LR (rAddS x (nI ch)) t2 := by
        refine ⟨fun c hc => ?_, fun c hc => ?_, ?_⟩
        · rw [at2, if_neg (by omega), if_neg (by omega), (at' c).1, (at' c).2.1]
          by_cases q : c = m
          · rw [if_pos (by omega), if_pos q, if_pos q, ← hv]
          · rw [if_neg (by omega), if_neg q, if_neg q]; exact l1 c hc
        · rw [at2, if_neg (by omega), (at' c).2.2]
          by_cases q : c = m
          · rw [if_pos (by omega), if_pos q]
          · rw [if_neg (by omega), if_neg (by omega), if_neg q]; exact l2 c hc
        · show (if pCh (nI ch) = true then rN x else rP x) = -1 ∨ ra t2 1 3 = (if pCh (nI ch) = true then rN x else rP x)
          rw [at2, if_pos rfl, h.1.2.2.2.1]
          by_cases q : pCh (nI ch) = true
          · rw [if_pos q, if_pos q]; exact Or.inr rfl
          · rw [if_neg q, if_neg q]; exact l3
      obtain ⟨u, q1, q2, q3, q4, q5⟩ := ih (k + 1) (rAddS x (nI ch)) _ _ _ _ _ _ t2 r (by omega) (hT.frm (f2.a 5 rfl)) sa e eM hL2
      refine ⟨u, q1, f2.trans q2, q3, q4, fun j hj h3 => ?_⟩
      rw [q5 j hj h3, at2, if_neg h3, if_neg (by omega), if_neg (by omega)]
