/-! pushes as commands -/
/-- what stops a push before its reasons -/
theorem stops {c : cT} {t : xT} (h : ReL c t) (a d : Int32) : (f_pushStops t a d = some 1 ∧ (d < 0 ∨ ¬ d < 4)) ∨ ∃ e, e < 4 ∧ d = nI e ∧ ((f_pushStops t a d = some 2 ∧ decide (0 < gR (qG (tG c))) = false) ∨ (decide (0 < gR (qG (tG c))) = true ∧ ∃ R C p n, GI (tG c) R C p n ∧ n ≤ 400 ∧ RQ (ra t 1) (qG (tG c)) R C (qN (tG c)).1 p n (qR (tG c)) ∧ HI (tG c) R C n (tH c) t ∧ ((f_pushStops t a d = some 3 ∧ hasF (qN (tG c)).1 a = false) ∨ (f_pushStops t a d = some 0 ∧ hasF (qN (tG c)).1 a = true ∧ ∃ k, k < R * C ∧ a = nI k ∧ tb (qN (tG c)).1 k = true)))) := by
  unfold f_pushStops
  rcases dir_case d with ⟨e, he, rfl⟩ | ⟨z, w⟩
  · refine Or.inr ⟨e, he, rfl, ?_⟩
    rw [(dir_in he).1, Option.bind_some, if_neg n10]
    rcases h.room with ⟨r1, _, r2, _⟩ | ⟨r1, r2, R, C, p, n, hG, hn, hQ, hH⟩
    · exact Or.inl ⟨by rw [r2]; rfl, r1⟩
    · refine Or.inr ⟨r1, R, C, p, n, hG, hn, hQ, hH, ?_⟩
      have ok := hG.1
      have hle := ok.rc.le
      rw [r2, Option.bind_some, if_neg n10, m_size hQ.1]
      by_cases ha : ∃ k, k < R * C ∧ a = nI k
      · obtain ⟨k, hk, rfl⟩ := ha
        rw [in_n hk (by omega), Option.bind_some, if_neg n10, m_boxI hQ.2.1 (by omega), has_tb _ (by omega)]
        cases e1 : tb (qN (tG c)).1 k with
        | false => exact Or.inl ⟨rfl, rfl⟩
        | true => exact Or.inr ⟨rfl, rfl, k, hk, rfl, e1⟩
      · refine Or.inl ⟨?_, has_cell ok (fun x hx => ok.open_lt (hG.2.2.2.2.1.1 x hx)) fun k hk e => ha ⟨k, hk, e⟩⟩
        rw [in_no (fun k hk e => ha ⟨k, hk, e⟩) (by omega)]; rfl
  · exact Or.inl ⟨by rw [w]; rfl, z⟩
theorem dir_or {α : Type} {d : Int32} (z : d < 0 ∨ ¬ d < 4) (x y : α) : (if d < 0 then x else if d < 4 then y else x) = x := by
  by_cases w : d < 0
  · rw [if_pos w]
  · rw [if_neg w, if_neg (z.resolve_left w)]
theorem pm_refuses {c : cT} {t : xT} (h : ReL c t) {N : Nat} (hN : 10000 ≤ N) (a d : Int32) : PM [(xIAE, 1), (xISE, 2), (xIOOBE, 3)] (o_refuses c a d) (f_refuses N t a d) t := by
  unfold o_refuses f_refuses
  rcases stops h a d with ⟨e, z⟩ | ⟨k, hk, rfl, ⟨e, z⟩ | ⟨r1, R, C, p, n, hG, hn, hQ, hH, ⟨e, z⟩ | ⟨e, z, x, hx, rfl, hb⟩⟩⟩
  · rw [e, dir_or z]
    exact PM.thr (u := ws t 9 1) (r := 0) rfl rfl rfl mem0 (h.same (same9 _))
  · rw [e, if_neg (dir_in hk).2.1, if_pos (dir_in hk).2.2, z]
    exact PM.thr (u := ws t 9 2) (r := 0) rfl rfl rfl mem1 (h.same (same9 _))
  · rw [e, if_neg (dir_in hk).2.1, if_pos (dir_in hk).2.2, r1, if_pos rfl, z]
    exact PM.thr (u := ws t 9 3) (r := 0) rfl rfl rfl mem2 (h.same (same9 _))
  · rw [e, if_neg (dir_in hk).2.1, if_pos (dir_in hk).2.2, r1, if_pos rfl, z, if_pos rfl, Option.bind_some, Option.bind_some, rs_ws, if_pos rfl, if_pos le00]
    obtain ⟨u, e1, f, _⟩ := m_rfp (t := ws t 9 0) hG.1 hQ.1 hQ.2.1 hQ.2.2.1 hG.2.2.2.2.1.2.1 hx hk hN
    rw [e1, hG.2.1]
    exact PM.ans rfl f.2.2.2 rfl (f.s 9 rfl) ((h.same (same9 0)).same (f.same (by decide) (by decide)))
/-- the end of a push -/
theorem pt_ok {c : cT} {t t2 : xT} {q1 : GmT} {R C p0 n0 p1 n1 : Nat} (h : ReL c t) (w : CW c t t2 q1 R C p0 n0 p1 n1) (h9 : rs t2 9 = 0) {N : Nat} (hN : 10000 ≤ N) (v3 v6 : Int32) {cd : List (String × Int32)} (hcd : (xAE, (5 : Int32)) ∈ cd) {o : mO} {v : Int32} (h3 : v3 = 0 → nI n1 - nI n0 = v) (h4 : ¬ v3 = 0 → v6 = v)
    (ho : o = if qC q1 ≤ 400 then .inl (some (.int v), wH (wG (wH c (hBeg (tH c) (tG c))) q1) (cmtH (hBeg (tH c) (tG c)))) else .inr (xAE, wG (wG (wH c (hBeg (tH c) (tG c))) q1) (rollQ (hBeg (tH c) (tG c)) q1))) : PM cd o (pTail N v3 (nI n0) v6 t2) t := by
  have g4 : ra t2 1 4 = nI n1 := w.2.2.2.2.2.1.2.2.2.1
  have qc : qC q1 = nI n1 := w.2.2.2.2.1.2.2.1
  have big : n1 < 2 ^ 30 := w.2.2.2.2.1.2.2.2.1
  have f1 : Frm cA cKk t t2 := w.2.2.2.2.2.2.2.2.2.2.1
  unfold pTail
  rw [g4]
  by_cases hn : n1 ≤ 400
  · obtain ⟨u, k1, k2, _, k4⟩ := ce_commit h w hn hN
    have le : nI n1 ≤ 400 := nI_le (b := 400) hn (by decide)
    rw [if_pos le, k1, Option.bind_some, k2.a 1 rfl, g4]
    rw [qc, if_pos le] at ho
    have oo : ro u = ro t := k2.2.2.2.trans f1.2.2.2
    have q9 : rs u 9 = 0 := (k2.s 9 rfl).trans h9
    by_cases z : v3 = 0
    · rw [if_pos z, h3 z]
      exact PM.ans rfl oo ho q9 k4
    · rw [if_neg z, h4 z]
      exact PM.ans rfl oo ho q9 k4
  · obtain ⟨u, k1, k2, k4⟩ := ce_back h w hN
    have le : ¬ nI n1 ≤ 400 := by
      intro z
      exact hn (by
        have := Int32.not_lt.mpr z
        exact Nat.le_of_not_lt fun y => this (nI_lt (a := 400) y (by omega)))
    rw [if_neg le, k1, Option.bind_some]
    rw [qc, if_neg le] at ho
    have oo : ro u = ro t := k2.2.2.2.trans f1.2.2.2
    exact PM.thr (u := ws u 9 5) (r := 0) rfl oo ho hcd (k4.same (same9 _))
