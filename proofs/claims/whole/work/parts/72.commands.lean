/-! commands: their end -/
theorem ReL.parts {c : cT} {t : xT} (h : ReL c t) : ITx c t ∧ KTx c t ∧ OTx c t ∧ STx c t := ⟨h.1, h.2.1, h.2.2.1, h.2.2.2.2⟩
/-- what a command touches of the model -/
def cA : List Nat := [1, 3, 6, 7]
def cKk : List Nat := [9, 16, 26]
theorem keep_c {c c' : cT} {t u : xT} {A K : List Nat} (h : ReL c t) (f : Frm A K t u) (hA : inL A (4 :: cA) = true) (hK : inL K (5 :: cKk) = true) (hI : tI c' = tI c) (hS : tS c' = tS c) (hO : tO c' = tO c) (hk : tK c' = tK c) : ITx c' u ∧ KTx c' u ∧ OTx c' u ∧ STx c' u := by
  obtain ⟨h1, h2, h3, h5⟩ := h.parts
  have f := f.up hA hK
  refine ⟨?_, ?_, ?_, ?_⟩
  · unfold ITx; rw [hI, f.s 11 rfl, f.a 5 rfl]; exact h1
  · unfold KTx; rw [hk, f.s 6 rfl, f.s 7 rfl, f.s 8 rfl]; exact h2
  · unfold OTx; rw [hO, f.s 33 rfl, f.s 34 rfl, f.a 18 rfl]; exact h3
  · unfold STx; rw [hS, f.s 3 rfl, f.a 2 rfl]; exact h5
/-- a command on its way -/
def CW (c : cT) (t t2 : xT) (q1 : GmT) (R C p0 n0 p1 n1 : Nat) : Prop := GI (tG c) R C p0 n0 ∧ n0 ≤ 400 ∧ RQ (ra t 1) (qG (tG c)) R C (qN (tG c)).1 p0 n0 (qR (tG c)) ∧ HI (tG c) R C n0 (tH c) t ∧ GI q1 R C p1 n1 ∧ RQ (ra t2 1) (qG q1) R C (qN q1).1 p1 n1 (qR q1) ∧ n0 ≤ n1 ∧ qG q1 = qG (tG c) ∧ qS q1 = qS (tG c) ∧ (∀ i, i < n0 → qR q1 i = qR (tG c) i) ∧ Frm cA cKk t t2 ∧ ∀ k, k < 602 → ra t2 3 k = ra t 1 k
theorem ce_commit {c : cT} {t t2 : xT} {q1 : GmT} {R C p0 n0 p1 n1 : Nat} (h : ReL c t) (w : CW c t t2 q1 R C p0 n0 p1 n1) (hn : n1 ≤ 400) {N : Nat} (hN : 10000 ≤ N) : ∃ u, f_commands N t2 = some u ∧ Frm [4] [5] t2 u ∧ HI q1 R C n1 (cmtH (hBeg (tH c) (tG c))) u ∧ ReL (wH (wG (wH c (hBeg (tH c) (tG c))) q1) (cmtH (hBeg (tH c) (tG c)))) u := by
  obtain ⟨w1, w2, w3, w4, w5, w6, w7, w8, w9, w10, w11, w12⟩ := w
  obtain ⟨z, z8, e1, e2, hz⟩ := w4
  obtain ⟨u, k1, k2, _⟩ := s_commands t2 hN z8 (by rw [w11.s 5 rfl]; exact e2)
  have f : Frm (4 :: cA) (5 :: cKk) t u := (w11.up (by decide) (by decide)).trans (k2.up (by decide) (by decide))
  obtain ⟨h1, h2, h3, h5⟩ := keep_c (c' := wH (wG (wH c (hBeg (tH c) (tG c))) q1) (cmtH (hBeg (tH c) (tG c)))) h f (by decide) (by decide) rfl rfl rfl rfl
  have hi : HI q1 R C n1 (cmtH (hBeg (tH c) (tG c))) u := HI.commit (t0 := t) ⟨z, z8, e1, e2, hz⟩ w1 (w3.cong w12 fun _ _ _ => rfl) w2 w7 w8 w9 w10 (w11.a 4 rfl) (w11.s 5 rfl) hN k1
  refine ⟨u, k1, k2, hi, h1, h2, h3, Or.inr ⟨R, C, p1, n1, w5, hn, ?_, hi⟩, h5⟩
  show RQ (ra u 1) (qG q1) R C (qN q1).1 p1 n1 (qR q1)
  rw [k2.a 1 rfl]; exact w6
theorem ce_back {c : cT} {t t2 : xT} {q1 : GmT} {R C p0 n0 p1 n1 : Nat} (h : ReL c t) (w : CW c t t2 q1 R C p0 n0 p1 n1) {N : Nat} (hN : 10000 ≤ N) : ∃ u, f_goesBack N t2 = some u ∧ Frm [1] [] t2 u ∧ ReL (wG (wG (wH c (hBeg (tH c) (tG c))) q1) (rollQ (hBeg (tH c) (tG c)) q1)) u := by
  obtain ⟨w1, w2, w3, w4, w5, w6, w7, w8, w9, w10, w11, w12⟩ := w
  obtain ⟨u, k1, k2, k3⟩ := s_goesBack t2 hN
  have f : Frm (4 :: cA) (5 :: cKk) t u := (w11.up (by decide) (by decide)).trans (k2.up (by decide) (by decide))
  obtain ⟨h1, h2, h3, h5⟩ := keep_c (c' := wG (wG (wH c (hBeg (tH c) (tG c))) q1) (rollQ (hBeg (tH c) (tG c)) q1)) h f (by decide) (by decide) rfl rfl rfl rfl
  have w4' := w4
  obtain ⟨z, z8, e1, e2, _⟩ := w4'
  obtain ⟨b1, _, b3, b4, b5⟩ := hBeg_eq (q := tG c) e1 z8 w1.2.1 w1.2.2.1
  have er : rollQ (hBeg (tH c) (tG c)) q1 = (qG q1, ((qN (tG c)).1, nI p0), qS q1, qA q1, qL q1, qR q1, nI n0) := by
    unfold rollQ retQ
    rw [b1, longAt_at (show z < 9 by omega) (by decide), intAt_at (show z < 9 by omega) (by decide), intAt_at (show z < 9 by omega) (by decide), b3, b4, b5]
  refine ⟨u, k1, k2, h1, h2, h3, Or.inr ⟨R, C, p0, n0, ?_, w2, ?_, ?_⟩, h5⟩
  · show GI (rollQ (hBeg (tH c) (tG c)) q1) R C p0 n0
    rw [er]
    obtain ⟨g1, g2, g3, g4, g5, g6, g7⟩ := w1
    refine ⟨by show GOk (qG q1) R C; rw [w8]; exact g1, rfl, rfl, g4, by show PV (qG q1) (qN (tG c)).1 p0; rw [w8]; exact g5, fun i hi h4 => by show ∃ k, k < 8 ∧ qR q1 i = nI k; rw [w10 i hi]; exact g6 i hi h4, fun _ => ?_⟩
    show rp (qG q1) (qR q1) (qS q1) n0 = some ((qN (tG c)).1, nI p0)
    rw [w8, w9, rp_cong n0 w10, g7 w2, ← g2]
  · show RQ (ra u 1) (qG (rollQ (hBeg (tH c) (tG c)) q1)) R C (qN (rollQ (hBeg (tH c) (tG c)) q1)).1 p0 n0 (qR (rollQ (hBeg (tH c) (tG c)) q1))
    rw [er]
    show RQ (ra u 1) (qG q1) R C (qN (tG c)).1 p0 n0 (qR q1)
    rw [w8]
    exact w3.cong (fun k hk => by rw [k3 k hk, w12 k hk]) fun i hi _ => w10 i hi
  · show HI (rollQ (hBeg (tH c) (tG c)) q1) R C n0 (hBeg (tH c) (tG c)) u
    refine (w4.beg w1.2.1 w1.2.2.1).cong ?_ ?_ ?_ (Nat.le_refl _) ?_ ?_
    · rw [er]; exact w8
    · rw [er]; exact w9
    · intro i hi; rw [er]; exact w10 i hi
    · rw [k2.a 4 rfl, w11.a 4 rfl]
    · rw [k2.s 5 rfl, w11.s 5 rfl]
/-- a refusal is kept -/
theorem ke_ok {c : cT} {u : xT} (h : ReL c u) {r d k : Int32} (h26 : rs u 26 = d) : ∃ v, f_keeps u r k = some (0, v) ∧ ro v = ro u ∧ rs v 9 = k ∧ ReL (keT c r d) v := by
  obtain ⟨h1, ⟨a1, a2, a3, a4⟩, h3, h4, h5⟩ := h
  refine ⟨ws (ws (ws u 6 r) 7 d) 9 k, ?_, rfl, rfl, h1, ⟨rfl, rfl, a3, a4⟩, h3, ?_, h5⟩
  · unfold f_keeps
    rw [Option.bind_some, Option.bind_some, show rs (ws u 6 r) 26 = d from h26]; rfl
  · rcases h4 with ⟨b1, b2, b3, b4⟩ | ⟨R, C, p, n, b1, b2, b3, b4⟩
    · exact Or.inl ⟨b1, b2, b3, b4⟩
    · exact Or.inr ⟨R, C, p, n, b1, b2, b3, b4.cong rfl rfl (fun _ _ => rfl) (Nat.le_refl _) rfl rfl⟩
theorem dir_case (d : Int32) : (∃ k, k < 4 ∧ d = nI k) ∨ ((d < 0 ∨ ¬ d < 4) ∧ f_in d 0 3 = some 0) := by
  by_cases z : d < 0
  · exact Or.inr ⟨Or.inl z, in_f (Or.inl z)⟩
  · by_cases y : d < 4
    · exact Or.inl (nI_range (n := 4) z y (by decide))
    · have : 3 < d := Int32.lt_of_lt_of_le (by decide) (i_lt y)
      exact Or.inr ⟨Or.inr y, in_f (Or.inr this)⟩
theorem dir_in {k : Nat} (h : k < 4) : f_in (nI k) 0 3 = some 1 ∧ ¬ nI k < 0 ∧ nI k < 4 := ⟨in_t (nI_pos' (by omega)) (nI_le (b := 3) (by omega) (by decide)), nI_pos (by omega), nI_lt (b := 4) h (by decide)⟩
theorem pBr_or (g : gT) (b s : Int64) (d : Int32) : pBr g b s d = 0 ∨ ¬ pBr g b s d ≤ 0 := by
  unfold pBr
  repeat' split
  all_goals first | exact Or.inl rfl | exact Or.inr (by decide)
theorem pSr_or (g : gT) (b : Int64) (a d : Int32) : pSr g b a d = 0 ∨ ¬ pSr g b a d ≤ 0 := by
  unfold pSr
  repeat' split
  all_goals first | exact Or.inl rfl | exact Or.inr (by decide) | exact pBr_or _ _ _ _
theorem pPr_or (g : gT) (b : Int64) (a c d : Int32) : pPr g b a c d = 0 ∨ ¬ pPr g b a c d ≤ 0 := by
  unfold pPr
  repeat' split
  all_goals first | exact Or.inl rfl | exact Or.inr (by decide) | exact pBr_or _ _ _ _
theorem pm_step {c : cT} {t : xT} (h : ReL c t) {N : Nat} (hN : 10000 ≤ N) (a : Int32) : PM [(xIAE, 1), (xISE, 2), (xUOE, 3)] (o_step c a) (f_step N t a) t := by
  unfold o_step f_step
  rcases dir_case a with ⟨d, hd, rfl⟩ | ⟨z, e⟩
  · obtain ⟨d1, d2, d3⟩ := dir_in hd
    rw [if_neg d2, if_pos d3, d1, Option.bind_some, if_neg n10]
    rcases h.room with ⟨r1, _, r2, _⟩ | ⟨r1, r2, R, C, p, n, hG, hn, hQ, hH⟩
    · rw [r1, r2]
      exact PM.thr (u := ws t 9 2) (r := 0) rfl rfl rfl mem1 (h.same (same9 _))
    · rw [r1, if_pos rfl, r2, Option.bind_some, if_neg n10, cl_4, hQ.2.2.2.1, hG.2.2.1]
      by_cases h4 : n < 400
      · have lt : nI n < 400 := nI_lt (b := 400) h4 (by decide)
        have ne : ¬ nI n = 400 := nI_ne (b := 400) (by omega) (by decide) (by omega)
        rw [if_pos lt, if_neg ne, Option.bind_some, Option.bind_some, rs_ws, if_pos rfl, if_pos le00]
        have ok := hG.1
        have pv := hG.2.2.2.2.1
        have hp := pv.rc ok
        obtain ⟨v, e1, e2⟩ := m_rfs (t := ws t 9 0) ok hQ.1 hQ.2.1 hQ.2.2.1 hp hd
        rw [e1, Option.bind_some, hG.2.1]
        have s0 : ReL c (ws (ws t 9 0) 26 v) := (h.same (same9 0)).same (Frm.same (A := []) (K := [26]) (Frm.ws Frm.rf List.mem_cons_self v) (by decide) (by decide))
        by_cases hr : pSr (qG (tG c)) (qN (tG c)).1 (nI p) (nI d) = 0
        · rw [if_pos hr, hr, if_pos le00]
          obtain ⟨u1, k1, k2, k3⟩ := s_remembers (ws (ws t 9 0) 26 v) hN
          have f1 : Frm cA cKk t u1 := ((Frm.ws (Frm.ws Frm.rf (by decide) 0) (by decide) v)).trans (k2.up (by decide) (by decide))
          have g1 : ra u1 1 = ra t 1 := k2.a 1 rfl
          have w : CW c t u1 (tG c) R C p n p n := ⟨hG, hn, hQ, hH, hG, by rw [g1]; exact hQ, Nat.le_refl _, rfl, rfl, fun _ _ => rfl, f1, k3⟩
          obtain ⟨u2, j1, j2, j3, _⟩ := ce_commit h w hn hN
          have hn1 : n + 1 < 2 ^ 30 := by omega
          have hQ2 : RQ (ra u2 1) (qG (tG c)) R C (qN (tG c)).1 p n (qR (tG c)) := by rw [j2.a 1 rfl, g1]; exact hQ
          obtain ⟨u3, l1, l2, l3⟩ := m_goes hG hQ2 hd hr hn1
          obtain ⟨gi, oldR, _⟩ := hG.step hd hr hn1
          have f3 : Frm (4 :: cA) (5 :: cKk) t u3 := ((f1.up (by decide) (by decide)).trans (j2.up (by decide) (by decide))).trans (l2.up (by decide) (by decide))
          obtain ⟨z1, z2, z3, z5⟩ := keep_c (c' := wH (wG (wH c (hBeg (tH c) (tG c))) (mkQ (tG c) (nI d))) (cmtH (hBeg (tH c) (tG c)))) h f3 (by decide) (by decide) rfl rfl rfl rfl
          have fin : ReL (wH (wG (wH c (hBeg (tH c) (tG c))) (mkQ (tG c) (nI d))) (cmtH (hBeg (tH c) (tG c)))) u3 := by
            refine ⟨z1, z2, z3, Or.inr ⟨R, C, nb R C p d, n + 1, gi, by omega, l3, ?_⟩, z5⟩
            exact j3.cong rfl rfl oldR (by omega) (l2.a 4 rfl) (l2.s 5 rfl)
          have o1 := (pSr_0 ok hp hd hr).1
          have q9 : rs u3 9 = 0 := by rw [l2.s 9 rfl, j2.s 9 rfl, k2.s 9 rfl]; rfl
          have oo : ro u3 = ro t := f3.2.2.2
          have mp : pMp (qG (tG c)) (qN (tG c)).1 (qN (tG c)).2 (nI d) = tb (qN (tG c)).1 (nb R C p d) := by rw [hG.2.1]; exact pMp_eq ok _ hp hd o1
          rw [k1, Option.bind_some, j1, Option.bind_some, l1, Option.bind_some]
          refine PM.ans (r := bI (tb (qN (tG c)).1 (nb R C p d))) (c' := wH (wG (wH c (hBeg (tH c) (tG c))) (mkQ (tG c) (nI d))) (cmtH (hBeg (tH c) (tG c)))) rfl oo ?_ q9 fin
          show (if pMp (qG (tG c)) (qN (tG c)).1 (qN (tG c)).2 (nI d) = true then _ else _) = _
          rw [mp]
          cases tb (qN (tG c)).1 (nb R C p d) <;> rfl
        · have hr' := hr
          rw [if_neg hr, if_neg ((pSr_or (qG (tG c)) (qN (tG c)).1 (nI p) (nI d)).resolve_left hr)]
          obtain ⟨u, k1, k2, k3, k4⟩ := ke_ok (r := pSr (qG (tG c)) (qN (tG c)).1 (nI p) (nI d)) (k := 3) s0 (show rs (ws (ws t 9 0) 26 v) 26 = _ from e2 hr)
          rw [k1, Option.bind_some]
          exact PM.thr rfl k2 rfl (by rw [k3]; exact mem2) k4
      · have eq : nI n = 400 := by rw [show n = 400 by omega]; rfl
        rw [eq, if_neg (show ¬ (400 : Int32) < 400 by decide), if_pos rfl, Option.bind_some, Option.bind_some]
        exact PM.thr (u := ws t 9 2) (r := 0) rfl rfl rfl mem1 (h.same (same9 _))
  · rw [e, Option.bind_some, if_pos rfl, Option.bind_some, Option.bind_some]
    rcases z with z | z
    · rw [if_pos z]
      exact PM.thr (u := ws t 9 1) (r := 0) rfl rfl rfl mem0 (h.same (same9 _))
    · by_cases y : a < 0
      · rw [if_pos y]
        exact PM.thr (u := ws t 9 1) (r := 0) rfl rfl rfl mem0 (h.same (same9 _))
      · rw [if_neg y, if_neg z]
        exact PM.thr (u := ws t 9 1) (r := 0) rfl rfl rfl mem0 (h.same (same9 _))
