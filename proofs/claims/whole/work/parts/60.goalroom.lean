/-! goalRoom, in a room -/
theorem goF_neg {g : gT} {R C : Nat} (ok : GOk g R C) {i : Int32} (h : i < 0) : goF g i = 0 := by
  have := goL_ne ok i 64 0 (gG g) (fun _ h => h)
  rw [nI_0] at this
  refine this.mpr fun k _ hk e => ?_
  have := goC_le g 64 (gG g)
  rw [e] at h
  exact nI_pos (by omega) h
theorem goF_nI {g : gT} {R C : Nat} (ok : GOk g R C) {k : Nat} (hk : k < 2 ^ 31) : goF g (nI k) = 0 ↔ ¬ nI k < hmL g 64 0 := by
  have le := goC_le g 64 (gG g)
  have := goL_ne ok (nI k) 64 0 (gG g) (fun _ h => h)
  rw [nI_0] at this
  show goL g (nI k) 64 (gG g) 0 = 0 ↔ _
  rw [this, hm_eq ok, nI_ltI hk (by omega)]
  constructor
  · intro h w; exact h k (Nat.zero_le _) (by omega) rfl
  · intro h j h1 h2 e
    have := (nI_eq hk (by omega)).mp e
    omega
theorem s_goalRoom {t : xT} {g : gT} {R C : Nat} (ok : GOk g R C) (hM : GR (ra t 1) g R C) {N : Nat} (hN : 10000 ≤ N) (i j : Int32) (f : Nat → Int64) : ∃ u, Frm [6, 7, 11, 13] [9, 16, 24] t u ∧ (((goF g i = 0 ∨ j < -2 ∨ ¬ j < bcF (goF g i)) ∧ (∃ r, f_goalRoom N t i j = some (r, u)) ∧ rs u 9 = 2) ∨
    (¬ goF g i = 0 ∧ ¬ j < -2 ∧ j < bcF (goF g i) ∧ f_goalRoom N t i j = some ((if j = -2 then bcF (goF g i) else if j = -1 then lowF (enF g (goF g i)) else gaF g (goF g i) j f), u) ∧ rs u 9 = 0)) := by
  have hle := ok.rc.le
  have f0 : Frm [6, 7, 11, 13] [9, 16, 24] t (ws t 9 0) := Frm.ws Frm.rf (by decide) _
  unfold f_goalRoom
  rw [m_room hM, Option.bind_some, if_neg (by decide), Option.bind_some, Option.bind_some, rs_ws, if_pos rfl, if_pos (by decide)]
  have hM0 : GR (ra (ws t 9 0) 1) g R C := hM
  by_cases hi : i < 0
  · rw [if_pos hi]
    exact ⟨ws (ws t 9 0) 9 2, f0.trans (Frm.ws Frm.rf (by decide) _), Or.inl ⟨Or.inl (goF_neg ok hi), ⟨0, rfl⟩, rfl⟩⟩
  · rw [if_neg hi]
    obtain ⟨k, hk, ek⟩ := nI_of hi
    have c := goF_nI ok hk
    rw [← ek] at c
    obtain ⟨u1, f1, h1⟩ := s_goalRooms ok hM0 hN (-1)
    have e1 : f_goalRooms N (ws t 9 0) (-1) = some (hmL g 64 0, u1) := by
      rcases h1 with ⟨_, a⟩ | ⟨a, _⟩
      · exact a
      · exact absurd (goF_neg ok (by decide)) a
    have f2 : Frm [6, 7, 11, 13] [9, 16, 24] t u1 := f0.trans (f1.up (by decide) (by decide))
    have r9 : rs u1 9 = 0 := by rw [f1.s 9 rfl]; rfl
    rw [e1, Option.bind_some]
    by_cases hc : i < hmL g 64 0
    · have nz : ¬ goF g i = 0 := fun z => c.mp z hc
      rw [if_pos hc]
      obtain ⟨u2, f3, h2⟩ := s_goalRooms ok (hM.of (f2.a 1 rfl)) hN i
      rcases h2 with ⟨a, _⟩ | ⟨_, e2, ⟨a, hg, ea⟩, hr⟩
      · exact absurd a nz
      have f4 : Frm [6, 7, 11, 13] [9, 16, 24] t u2 := f2.trans (f3.up (by decide) (by decide))
      have r9 : rs u2 9 = 0 := by rw [f3.s 9 rfl]; exact r9
      have hr' := hr
      obtain ⟨cnt, q, h64, h16, h6, inj, mem, x, h24, hx, hu⟩ := hr'
      have bc : bcF (goF g i) = nI cnt := by rw [pc_all, ct_enum cnt q _ inj (fun j hj => (h6 j hj).2) mem]
      have low : lowF (enF g (goF g i)) = nI x := low_of hx fun y hy => by
        cases e : tb (enF g (goF g i)) y with
        | false => rfl
        | true => have := hu y e; omega
      rw [e2, Option.bind_some]
      by_cases hj : 0 ≤ j
      · rw [if_pos hj]
        have n2 : ¬ j < -2 := by rw [Int32.not_lt]; exact Int32.le_trans (by decide) hj
        have ne2 : ¬ j = -2 := fun z => by rw [z] at hj; exact absurd hj (by decide)
        have ne1 : ¬ j = -1 := fun z => by rw [z] at hj; exact absurd hj (by decide)
        by_cases hq : rs u2 16 ≤ j
        · rw [if_pos hq]
          refine ⟨ws u2 9 2, f4.trans (Frm.ws Frm.rf (by decide) _), Or.inl ⟨Or.inr (Or.inr ?_), ⟨0, rfl⟩, rfl⟩⟩
          rw [bc, ← h16, Int32.not_lt]; exact hq
        · rw [if_neg hq]
          obtain ⟨u3, e3, f5⟩ := s_ordered ok (hM.of (f4.a 1 rfl)) hg ea hr hN j f
          rw [e3]
          refine ⟨u3, f4.trans (f5.up (by decide) (by decide)), Or.inr ⟨nz, n2, ?_, ?_, by rw [f5.s 9 rfl]; exact r9⟩⟩
          · rw [bc, ← h16, ← Int32.not_le]; exact hq
          · rw [if_neg ne2, if_neg ne1]; rfl
      · rw [if_neg hj]
        have jc : j < bcF (goF g i) := by
          rw [bc]
          have : j < 0 := by rw [← Int32.not_le]; exact hj
          exact Int32.lt_of_lt_of_le this (nI_pos' (by omega))
        by_cases j1 : j = -1
        · rw [if_pos j1]
          refine ⟨u2, f4, Or.inr ⟨nz, by rw [j1]; decide, jc, ?_, r9⟩⟩
          rw [if_neg (by rw [j1]; decide), if_pos j1, low, h24]; rfl
        · rw [if_neg j1]
          by_cases j2 : j = -2
          · rw [if_pos j2]
            refine ⟨u2, f4, Or.inr ⟨nz, by rw [j2]; decide, jc, ?_, r9⟩⟩
            rw [if_pos j2, bc, h16]; rfl
          · rw [if_neg j2]
            refine ⟨ws u2 9 2, f4.trans (Frm.ws Frm.rf (by decide) _), Or.inl ⟨Or.inr (Or.inl ?_), ⟨0, rfl⟩, rfl⟩⟩
            have : j.toInt < 0 := by
              have : j < 0 := by rw [← Int32.not_le]; exact hj
              exact Int32.lt_iff_toInt_lt.mp this
            rw [Int32.lt_iff_toInt_lt]
            have a1 : ¬ j.toInt = -1 := fun z => j1 (Int32.toInt_inj.mp z)
            have a2 : ¬ j.toInt = -2 := fun z => j2 (Int32.toInt_inj.mp z)
            show j.toInt < -2
            omega
    · rw [if_neg hc]
      exact ⟨ws u1 9 2, f2.trans (Frm.ws Frm.rf (by decide) _), Or.inl ⟨Or.inl (c.mpr hc), ⟨0, rfl⟩, rfl⟩⟩
