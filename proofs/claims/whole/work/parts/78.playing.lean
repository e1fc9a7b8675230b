/-! playing a text of steps: the answer -/
theorem ReL.eat {c : cT} {t : xT} (h : ReL c t) (v : Int32) : ReL (wI c ((tI c).1, 0)) (ws (ws t 9 v) 11 0) := by
  obtain ⟨h1, h2, h3, h4, h5⟩ := h.same (same9 v)
  refine ⟨⟨h1.1, 0, by decide, rfl, rfl, fun i hi => absurd hi (Nat.not_lt_zero i)⟩, h2, h3, ?_, h5⟩
  rcases h4 with ⟨b1, b2, b3, b4⟩ | ⟨R, C, p, n, b1, b2, b3, b4⟩
  · exact Or.inl ⟨b1, b2, b3, b4⟩
  · exact Or.inr ⟨R, C, p, n, b1, b2, b3, b4.cong rfl rfl (fun _ _ => rfl) (Nat.le_refl _) rfl rfl⟩
theorem fs_or (f : Nat → Int32) {len : Nat} (hl : len ≤ 80) : ∀ n k d, k + n ≤ 80 → fsL f (nI len) n k d = -1 ∨ ¬ fsL f (nI len) n k d < 0 := by
  intro n
  induction n with
  | zero =>
    intro k d _
    unfold fsL
    have := nI_pos (show len < 2 ^ 31 by omega)
    repeat' split
    · exact Or.inr this
    · exact Or.inl rfl
    · exact Or.inr this
  | succ n ih =>
    intro k d hk
    unfold fsL
    have := nI_pos (show k < 2 ^ 31 by omega)
    repeat' split
    · exact ih _ _ (by omega)
    · exact Or.inr this
    · exact ih _ _ (by omega)
theorem ke_ok2 {c : cT} {u : xT} (h : ReL c u) {r d s : Int32} (h26 : rs u 26 = d) (hs : ¬ s < 0) : ∃ v, f_keeps (ws u 8 s) r 2 = some (0, v) ∧ ro v = ro u ∧ rs v 9 = 2 ∧ ReL (wK c (r, d, s)) v := by
  obtain ⟨h1, h2, h3, h4, h5⟩ := h
  refine ⟨ws (ws (ws (ws u 8 s) 6 r) 7 d) 9 2, ?_, rfl, rfl, h1, ⟨rfl, rfl, rfl, Or.inr hs⟩, h3, ?_, h5⟩
  · unfold f_keeps
    rw [Option.bind_some, Option.bind_some, show rs (ws (ws u 8 s) 6 r) 26 = d from h26]; rfl
  · rcases h4 with ⟨b1, b2, b3, b4⟩ | ⟨R, C, p, n, b1, b2, b3, b4⟩
    · exact Or.inl ⟨b1, b2, b3, b4⟩
    · exact Or.inr ⟨R, C, p, n, b1, b2, b3, b4.cong rfl rfl (fun _ _ => rfl) (Nat.le_refl _) rfl rfl⟩
theorem plTail_ok {c : cT} {t t2 : xT} {q1 : GmT} {R C p0 n0 p1 n1 : Nat} (h : ReL c t) (w : CW c t t2 q1 R C p0 n0 p1 n1) (h9 : rs t2 9 = 0) {N : Nat} (hN : 10000 ≤ N) {cd : List (String × Int32)} (hcd : (xAE, (3 : Int32)) ∈ cd) : PM cd (if qC q1 ≤ 400 then .inl (some (.int (qC q1 - qC (tG c))), wH (wG (wH c (hBeg (tH c) (tG c))) q1) (cmtH (hBeg (tH c) (tG c)))) else .inr (xAE, wG (wG (wH c (hBeg (tH c) (tG c))) q1) (rollQ (hBeg (tH c) (tG c)) q1))) (plTail N (nI (n1 - n0)) t2) t := by
  have g4 : ra t2 1 4 = nI n1 := w.2.2.2.2.2.1.2.2.2.1
  have qc : qC q1 = nI n1 := w.2.2.2.2.1.2.2.1
  have q0 : qC (tG c) = nI n0 := w.1.2.2.1
  have big : n1 < 2 ^ 30 := w.2.2.2.2.1.2.2.2.1
  have f1 : Frm cA cKk t t2 := w.2.2.2.2.2.2.2.2.2.2.1
  have w7 : n0 ≤ n1 := w.2.2.2.2.2.2.1
  unfold plTail
  rw [g4, qc, q0]
  by_cases hn : n1 ≤ 400
  · obtain ⟨u, k1, k2, _, k4⟩ := ce_commit h w hn hN
    have le : nI n1 ≤ 400 := nI_le (b := 400) hn (by decide)
    have oo : ro u = ro t := k2.2.2.2.trans f1.2.2.2
    have q9 : rs u 9 = 0 := (k2.s 9 rfl).trans h9
    rw [if_pos le, if_pos le, k1, Option.bind_some, pk_sub w7]
    exact PM.ans rfl oo rfl q9 k4
  · obtain ⟨u, k1, k2, k4⟩ := ce_back h w hN
    have le : ¬ nI n1 ≤ 400 := by
      intro z
      exact hn (by
        have := Int32.not_lt.mpr z
        exact Nat.le_of_not_lt fun y => this (nI_lt (a := 400) y (by omega)))
    have oo : ro u = ro t := k2.2.2.2.trans f1.2.2.2
    rw [if_neg le, if_neg le, k1, Option.bind_some]
    exact PM.thr (u := ws u 9 3) (r := 0) rfl oo rfl hcd (k4.same (same9 _))
theorem plFail_ok {c : cT} {t t2 : xT} {q1 : GmT} {R C p0 n0 p1 n1 : Nat} (h : ReL c t) (w : CW c t t2 q1 R C p0 n0 p1 n1) {N : Nat} (hN : 10000 ≤ N) {e d : Int32} (hd : rs t2 26 = d) {cd : List (String × Int32)} (hcd : (xUOE, (2 : Int32)) ∈ cd) : PM cd (.inr (xUOE, wK (wG (wG (wH c (hBeg (tH c) (tG c))) q1) (rollQ (hBeg (tH c) (tG c)) q1)) (e, d, qC q1 - qC (tG c)))) (plFail N (nI (n1 - n0)) e t2) t := by
  have qc : qC q1 = nI n1 := w.2.2.2.2.1.2.2.1
  have q0 : qC (tG c) = nI n0 := w.1.2.2.1
  have big : n1 < 2 ^ 30 := w.2.2.2.2.1.2.2.2.1
  have f1 : Frm cA cKk t t2 := w.2.2.2.2.2.2.2.2.2.2.1
  have w7 : n0 ≤ n1 := w.2.2.2.2.2.2.1
  obtain ⟨u, k1, k2, k4⟩ := ce_back h w hN
  obtain ⟨v, e1, e2, e3, e4⟩ := ke_ok2 (r := e) (s := nI (n1 - n0)) k4 ((k2.s 26 rfl).trans hd) (nI_pos (by omega))
  have oo : ro v = ro t := e2.trans (k2.2.2.2.trans f1.2.2.2)
  unfold plFail
  rw [k1, Option.bind_some, Option.bind_some, e1, qc, q0, pk_sub w7]
  exact PM.thr rfl oo rfl (by rw [e3]; exact hcd) e4
theorem pm_play {c : cT} {t : xT} (h : ReL c t) {N : Nat} (hN : 10000 ≤ N) : PM [(xISE, 1), (xUOE, 2), (xAE, 3)] (o_play c) (f_play N t) t := by
  unfold o_play f_play
  have e0 := h.eat 0
  rcases h.room with ⟨r1, _, r2, _⟩ | ⟨r1, r2, R, C, p, n, hG, hn, hQ, hH⟩
  · have hc : decide (0 < gR (qG (tG (wI c ((tI c).1, 0))))) = false := r1
    rw [hc, r2]
    exact PM.thr (u := ws (ws t 9 1) 11 0) (r := 0) rfl rfl rfl mem0 (h.eat 1)
  · have hc : decide (0 < gR (qG (tG (wI c ((tI c).1, 0))))) = true := r1
    rw [hc, if_pos rfl, r2, Option.bind_some, if_neg n10, Option.bind_some, Option.bind_some, rs_ws, if_pos rfl, if_pos le00]
    obtain ⟨hch, len, hl, l2, l11, hT⟩ := h.1
    have tx : TX (tI c).1 len (ws t 9 0) := ⟨hl, fun i hi => by
      obtain ⟨a1, ch, _, a3, a4⟩ := hT i hi
      exact ⟨a1, ch, by omega, a4⟩⟩
    have fs : f_stepsFault N (ws t 9 0) = some (fsL (tI c).1 (nI len) len 0 0) := by
      have := fs_ok (N := N) (r := N - 81) tx (show rs (ws t 9 0) 11 = nI len from l11) 80 len 0 hl (Nat.zero_add _) (by omega)
      rw [show N - 81 + 1 + 80 = N by omega] at this
      exact this
    have lc : (tI c).2.toNatClampNeg = len := by rw [l2, nI_clamp (by omega)]
    have fo := fs_or (tI c).1 hl len 0 0 (by omega)
    have hcl : fsL (tI (wI c ((tI c).1, 0))).1 (nI (tI c).2.toNatClampNeg) (tI c).2.toNatClampNeg 0 0 = fsL (tI c).1 (nI len) len 0 0 := by rw [lc]; rfl
    rw [fs, Option.bind_some, Option.bind_some, Option.bind_some, hcl]
    have r9 : rs (ws (ws t 9 0) 11 0) 9 = 0 := rfl
    rw [r9, if_neg (show ¬ (0 : Int32) < 0 by decide), if_pos le00]
    by_cases hf : fsL (tI c).1 (nI len) len 0 0 = -1
    · rw [if_pos hf, hf, if_pos (show (-1 : Int32) < 0 by decide)]
      obtain ⟨u1, k1, k2, k3⟩ := s_remembers (ws (ws t 9 0) 11 0) hN
      have g1 : ra u1 1 = ra t 1 := k2.a 1 rfl
      have w : CW (wI c ((tI c).1, 0)) (ws (ws t 9 0) 11 0) u1 (tG c) R C p n p n := ⟨hG, hn, hQ, hH.cong rfl rfl (fun _ _ => rfl) (Nat.le_refl _) rfl rfl, hG, by rw [g1]; exact hQ, Nat.le_refl _, rfl, rfl, fun _ _ => rfl, k2.up (by decide) (by decide), k3⟩
      have tx1 : TX (tI c).1 len u1 := tx.frm (k2.a 5 rfl)
      have u9 : rs u1 9 = 0 := k2.s 9 rfl
      have fu : N - 1 - 101 * len + 1 + 101 * len = N := by omega
      have v3 : nI (n - n) = (0 : Int32) := by rw [Nat.sub_self]; rfl
      have res := pl_ok (N := N) (wH (wI c ((tI c).1, 0)) (hBeg (tH (wI c ((tI c).1, 0))) (tG (wI c ((tI c).1, 0))))) (f := (tI c).1) rfl len 0 0 0 (tG c) p n (N - 1 - 101 * len) u1 (Nat.zero_add _) tx1 hf (Or.inl ⟨rfl, rfl⟩) w (by omega)
      rw [fu, v3, show nI 0 = (0 : Int32) from rfl] at res
      have lt : rs (ws t 9 0) 11 = nI len := l11
      rw [k1, Option.bind_some, lt, lc]
      rcases res with ⟨q', p', n', u, b1, b2, b3, b4⟩ | ⟨q', p', n', u, e, d, b1, _, b2, b3, b4, b5⟩
      · have b2' : plL len 0 0 (wH (wI c ((tI c).1, 0)) (hBeg (tH (wI c ((tI c).1, 0))) (tG (wI c ((tI c).1, 0))))) = (true, wG (wH (wI c ((tI c).1, 0)) (hBeg (tH (wI c ((tI c).1, 0))) (tG (wI c ((tI c).1, 0))))) q') := b2
        rw [b1, b2', if_pos rfl]
        exact plTail_ok (cd := [(xISE, 1), (xUOE, 2), (xAE, 3)]) e0 b3 ((b4.s 9 rfl).trans u9) hN mem2
      · have b2' : plL len 0 0 (wH (wI c ((tI c).1, 0)) (hBeg (tH (wI c ((tI c).1, 0))) (tG (wI c ((tI c).1, 0))))) = (false, keT (wG (wH (wI c ((tI c).1, 0)) (hBeg (tH (wI c ((tI c).1, 0))) (tG (wI c ((tI c).1, 0))))) q') e d) := b2
        rw [b1, b2', if_neg (show ¬ ((false, keT (wG (wH (wI c ((tI c).1, 0)) (hBeg (tH (wI c ((tI c).1, 0))) (tG (wI c ((tI c).1, 0))))) q') e d).1 = true) from fun z => Bool.noConfusion z)]
        exact plFail_ok (cd := [(xISE, 1), (xUOE, 2), (xAE, 3)]) e0 b3 hN b5 mem1
    · rw [if_neg hf, if_neg (fo.resolve_left hf), Option.bind_some]
      exact PM.ans (u := ws (ws t 9 0) 11 0) rfl rfl rfl rfl e0
