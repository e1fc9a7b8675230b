/-! solve -/
theorem ReL.same2 {c c' : cT} {t u : xT} (h : ReL c t) (s1 : ∀ k, k < 602 → ra u 1 k = ra t 1 k) (s : FrB (18 :: 1 :: pA) (33 :: 34 :: pK) t u) (ho : OTx c' u) (hI : tI c' = tI c) (hG : tG c' = tG c) (hS : tS c' = tS c) (hH : tH c' = tH c) (hK : tK c' = tK c) : ReL c' u := by
  obtain ⟨h1, h2, h3, h4, h5⟩ := h
  refine ⟨?_, ?_, ho, ?_, ?_⟩
  · unfold ITx; rw [hI, s.2.1 11 (by decide), s.1 5 (by decide)]; exact h1
  · unfold KTx; rw [hK, s.2.1 6 (by decide), s.2.1 7 (by decide), s.2.1 8 (by decide)]; exact h2
  · unfold GTx
    rw [hG, hH]
    rcases h4 with ⟨a, b, d, e⟩ | ⟨R, C, p, n, a, b, d, e⟩
    · exact Or.inl ⟨a, fun k hk => (s1 k hk).trans (b k hk), d, by rw [s.2.1 5 (by decide)]; exact e⟩
    · exact Or.inr ⟨R, C, p, n, a, b, d.cong s1 (fun _ _ _ => rfl), e.same (s.1 4 (by decide)) (s.2.1 5 (by decide))⟩
  · unfold STx; rw [hS, s.2.1 3 (by decide), s.1 2 (by decide)]; exact h5
theorem ReL.same1 {c c' : cT} {t u : xT} (h : ReL c t) (s1 : ∀ k, k < 602 → ra u 1 k = ra t 1 k) (s : FrB (1 :: pA) pK t u) (hO : tO c' = tO c) (hI : tI c' = tI c) (hG : tG c' = tG c) (hS : tS c' = tS c) (hH : tH c' = tH c) (hK : tK c' = tK c) : ReL c' u := by
  refine h.same2 s1 (s.up (by decide) (by decide)) ?_ hI hG hS hH hK
  unfold OTx
  rw [hO, s.2.1 33 (by decide), s.2.1 34 (by decide), s.1 18 (by decide)]
  exact h.2.2.1
theorem dpF_M {q : SeT} {M : Nat} (h : M = 1000) : dpF q = dpL (sF q) M 0 (intAtF 1000 (sF q) (sV q)) := by
  rw [h]; rfl
theorem so_ok {c : cT} {t : xT} (h : ReL c t) {R C p n : Nat} (hG : GI (tG c) R C p n) (hQ : RQ (ra t 1) (qG (tG c)) R C (qN (tG c)).1 p n (qR (tG c))) {lim : Nat} (hl : lim ≤ 1000) (wt : Bool) {N : Nat} (hN : 10000 ≤ N) {Q : SeT} (eQ : ruS (qG (tG c)) (qN (tG c)).1 (qN (tG c)).2 (tE c) (nI lim) wt = Q) : ∃ r u, f_searches N t (nI lim) (bI wt) = some (r, u) ∧ ro u = ro t ∧ rs u 9 = rs t 9 ∧
    ((r = 3 ∧ sY Q = true ∧ ReL (wE c Q) u) ∨ (r = 4 ∧ sY Q = false ∧ sV Q = -1 ∧ ReL (wE c Q) u) ∨
     (r = 0 ∧ sY Q = false ∧ ¬ sV Q = -1 ∧ ReL (wO (wE c Q) (kpS Q (tO c))) u ∧ ∃ d, d < 1000 ∧ dpF Q = d ∧ rs u 33 = nI d ∧ PW (qG (tG c)) (qN (tG c)).1 p d (tO (wO (wE c Q) (kpS Q (tO c)))).1)) := by
  obtain ⟨M, hM⟩ : ∃ M, M = 1000 := ⟨_, rfl⟩
  obtain ⟨Z, hZ⟩ : ∃ Z, Z = 2048 := ⟨_, rfl⟩
  have eQ : ruN M Z (qG (tG c)) (qN (tG c)).1 (nI p) (tE c) (nI lim) wt = Q := by
    rw [hM, hZ, ← hG.2.1]; exact eQ
  have ok := hG.1
  have pv := hG.2.2.2.2.1
  obtain ⟨r, u, n', e1, e2, nv, sn, hn', root, e3⟩ := se_ok ok hQ.1 hQ.2.1 hQ.2.2.1 pv (tE c) hl wt hM hZ (tO c).1 hN
  rw [eQ] at nv sn root e3
  rcases e3 with ⟨e3, fr⟩ | ⟨rfl, y, fr, j, d, hj, vj, hd, dj, x33, x34, x18⟩
  · have rl : ReL (wE c Q) u := h.same1 e2 (fr.up (by decide) (by decide)) rfl rfl rfl rfl rfl rfl
    refine ⟨r, u, e1, fr.2.2, fr.2.1 9 (by decide), ?_⟩
    rcases e3 with ⟨e, y⟩ | ⟨e, y, v⟩
    · exact Or.inl ⟨e, y, rl⟩
    · exact Or.inr (Or.inl ⟨e, y, v, rl⟩)
  · have j1 : j < 1000 := by omega
    have dF : dpF Q = d := by
      rw [dpF_M hM, vj, intAt_at j1 (by decide)]; exact hd
    have kp : (tO (wO (wE c Q) (kpS Q (tO c)))).1 = kpL (sF Q) (sU Q) d (nI j) (tO c).1 := by
      show kpL (sF Q) (sU Q) (dpF Q) (sV Q) (tO c).1 = _
      rw [dF, vj]
    obtain ⟨P, P0, P1, P2⟩ := pa_ok ok hn' nv j hj d M (tO c).1 (by omega) hd dj
    obtain ⟨rB, rP⟩ := root (by omega)
    have pw : PW (qG (tG c)) (qN (tG c)).1 p d (tO (wO (wE c Q) (kpS Q (tO c)))).1 := by
      refine ⟨fun x => sB Q (P x), fun x => sP Q (P x), ?_, ?_, ?_⟩
      · show sB Q (P 0) = _
        rw [P0]; exact rB
      · show pAr _ _ (sP Q (P 0)) = _
        rw [P0, rP]; exact ar_low ok pv.2.1 (pv.rc ok)
      · rw [kp]; exact P2
    refine ⟨0, u, e1, fr.2.2, fr.2.1 9 (by decide), Or.inr (Or.inr ⟨rfl, y, by rw [vj]; exact nI_m1 (by omega), ?_, d, by omega, dF, x33, pw⟩)⟩
    refine h.same2 e2 (fr.up (by decide) (by decide)) (Or.inr ⟨d, by omega, ?_, x33, ?_, fun i hi => ?_⟩) rfl rfl rfl rfl rfl
    · show nI (dpF Q) = _
      rw [dF]
    · show _ = sN Q
      rw [sn]; exact x34
    · rw [kp]
      obtain ⟨c1, e, z1, z2, z3, _⟩ := P2 i hi
      refine ⟨x18 i hi, 4 * c1 + e, ?_, z1⟩
      have := tb_lt z3
      omega
theorem lim_case (l : Int32) : (l < 1 ∧ f_in l 1 1000 = some 0) ∨ (¬ l < 1 ∧ ¬ l ≤ 1000 ∧ f_in l 1 1000 = some 0) ∨ ∃ k, k ≤ 1000 ∧ l = nI k ∧ ¬ l < 1 ∧ l ≤ 1000 ∧ f_in l 1 1000 = some 1 := by
  by_cases z : l < 1
  · exact Or.inl ⟨z, in_f (Or.inl z)⟩
  · by_cases y : l ≤ 1000
    · have z0 : ¬ l < 0 := fun w => z (Int32.lt_of_lt_of_le w (by decide))
      obtain ⟨k, hk, e⟩ := nI_range (n := 1001) z0 (Int32.lt_of_le_of_lt y (by decide)) (by decide)
      exact Or.inr (Or.inr ⟨k, by omega, e, z, y, in_t (i_lt z) y⟩)
    · exact Or.inr (Or.inl ⟨z, y, in_f (Or.inr (i_le y))⟩)
theorem o_solve_Q {c : cT} {l : Int32} {b : Bool} {Q : SeT} (z : ¬ l < 1) (y : l ≤ 1000) (r : decide (0 < gR (qG (tG c))) = true) (eQ : ruS (qG (tG c)) (qN (tG c)).1 (qN (tG c)).2 (tE c) l b = Q) : o_solve c l b = if sY Q = true then .inr (xAE, wE c Q) else if sV Q = -1 then .inr (xNSEE, wE c Q) else .inl (some (.int (nI (dpF Q))), wO (wE c Q) (kpS Q (tO c))) := by
  unfold o_solve
  rw [if_neg z, if_pos y, if_pos r, eQ]
  rfl
theorem o_finish_Q {c : cT} {l : Int32} {Q : SeT} (z : ¬ l < 1) (y : l ≤ 1000) (r : decide (0 < gR (qG (tG c))) = true) (eQ : ruS (qG (tG c)) (qN (tG c)).1 (qN (tG c)).2 (tE c) l true = Q) : o_finish c l = if sY Q = true then .inr (xAE, wE c Q) else if sV Q = -1 then .inr (xNSEE, wE c Q) else o_fin (wO (wE c Q) (kpS Q (tO c))) := by
  unfold o_finish
  rw [if_neg z, if_pos y, if_pos r, eQ]
  rfl
theorem o_solve_b {c : cT} {l : Int32} {b : Bool} (z : l < 1 ∨ ¬ l < 1 ∧ ¬ l ≤ 1000) : o_solve c l b = .inr (xIAE, c) ∧ o_finish c l = .inr (xIAE, c) := by
  unfold o_solve o_finish
  rcases z with z | ⟨z, y⟩
  · rw [if_pos z, if_pos z]; exact ⟨rfl, rfl⟩
  · rw [if_neg z, if_neg y, if_neg z, if_neg y]; exact ⟨rfl, rfl⟩
theorem o_solve_n {c : cT} {l : Int32} {b : Bool} (z : ¬ l < 1) (y : l ≤ 1000) (r : decide (0 < gR (qG (tG c))) = false) : o_solve c l b = .inr (xISE, c) ∧ o_finish c l = .inr (xISE, c) := by
  unfold o_solve o_finish
  have r' : ¬ decide (0 < gR (qG (tG c))) = true := by rw [r]; decide
  rw [if_neg z, if_pos y, if_neg r', if_neg z, if_pos y, if_neg r']; exact ⟨rfl, rfl⟩
theorem f_solve_b {t : xT} {l w : Int32} {N : Nat} (e : f_in l 1 1000 = some 0) : f_solve N t l w = some (0, ws t 9 1) := by
  unfold f_solve
  rw [e]; rfl
theorem f_solve_n {t : xT} {l w : Int32} {N : Nat} (e : f_in l 1 1000 = some 1) (r : f_hasRoom t = some 0) : f_solve N t l w = some (0, ws t 9 2) := by
  unfold f_solve
  rw [e, Option.bind_some, if_neg n10, r]; rfl
theorem f_solve_r {t u : xT} {l w r : Int32} {N : Nat} (e : f_in l 1 1000 = some 1) (h : f_hasRoom t = some 1) (s : f_searches N (ws t 9 0) l w = some (r, u)) : f_solve N t l w = if r ≤ 0 then some (rs u 33, u) else some (0, ws u 9 r) := by
  unfold f_solve
  rw [e, Option.bind_some, if_neg n10, h, Option.bind_some, if_neg n10, Option.bind_some, Option.bind_some, rs_ws, if_pos rfl, if_pos le00, s, Option.bind_some]
  show Option.bind (if r ≤ 0 then _ else _) _ = _
  by_cases z : r ≤ 0
  · rw [if_pos z, if_pos z]; rfl
  · rw [if_neg z, if_neg z]; rfl
/-- solve, and what finish needs of it -/
theorem sol_ok {c : cT} {t : xT} (h : ReL c t) {N : Nat} (hN : 10000 ≤ N) (l : Int32) (b : Bool) :
    (∃ X k c' u, f_solve N t l (bI b) = some (0, u) ∧ ro u = ro t ∧ rs u 9 = k ∧ (X, k) ∈ [(xIAE, (1 : Int32)), (xISE, 2), (xAE, 3), (xNSEE, 4)] ∧ ReL c' u ∧ o_solve c l b = .inr (X, c') ∧ (b = true → o_finish c l = .inr (X, c')) ∧ ¬ k ≤ 0) ∨
    (∃ c' u R C p n d, f_solve N t l (bI b) = some (nI d, u) ∧ ro u = ro t ∧ rs u 9 = 0 ∧ ReL c' u ∧ o_solve c l b = .inl (some (.int (nI d)), c') ∧ (b = true → o_finish c l = o_fin c') ∧ (tO c').2.1 = nI d ∧ rs u 33 = nI d ∧ d < 1000 ∧ tG c' = tG c ∧ GI (tG c') R C p n ∧ PW (qG (tG c')) (qN (tG c')).1 p d (tO c').1) := by
  rcases lim_case l with ⟨z, e⟩ | ⟨z, y, e⟩ | ⟨lim, hl, rfl, z, y, e⟩
  · exact Or.inl ⟨xIAE, 1, c, ws t 9 1, f_solve_b e, rfl, rfl, mem0, h.same (same9 _), (o_solve_b (Or.inl z)).1, fun _ => (o_solve_b (b := b) (Or.inl z)).2, by decide⟩
  · exact Or.inl ⟨xIAE, 1, c, ws t 9 1, f_solve_b e, rfl, rfl, mem0, h.same (same9 _), (o_solve_b (Or.inr ⟨z, y⟩)).1, fun _ => (o_solve_b (b := b) (Or.inr ⟨z, y⟩)).2, by decide⟩
  · rcases h.room with ⟨r1, _, r2, _⟩ | ⟨r1, r2, R, C, p, n, hG, hn, hQ, hH⟩
    · exact Or.inl ⟨xISE, 2, c, ws t 9 2, f_solve_n e r2, rfl, rfl, mem1, h.same (same9 _), (o_solve_n z y r1).1, fun _ => (o_solve_n (b := b) z y r1).2, by decide⟩
    · obtain ⟨Q, eQ⟩ : ∃ Q, ruS (qG (tG c)) (qN (tG c)).1 (qN (tG c)).2 (tE c) (nI lim) b = Q := ⟨_, rfl⟩
      obtain ⟨r, u, e1, e2, e3, e4⟩ := so_ok (h.same (same9 (t := t) 0)) hG hQ hl b hN eQ
      have os := o_solve_Q z y r1 eQ
      have of : b = true → o_finish c (nI lim) = if sY Q = true then .inr (xAE, wE c Q) else if sV Q = -1 then .inr (xNSEE, wE c Q) else o_fin (wO (wE c Q) (kpS Q (tO c))) := by
        rintro rfl
        exact o_finish_Q z y r1 eQ
      have fs := f_solve_r e r2 e1
      clear eQ e1
      rcases e4 with ⟨rfl, y1, rl⟩ | ⟨rfl, y1, v1, rl⟩ | ⟨rfl, y1, v1, rl, d, hd, dF, x33, pw⟩
      · rw [if_pos y1] at os of
        rw [if_neg (show ¬ (3 : Int32) ≤ 0 by decide)] at fs
        exact Or.inl ⟨xAE, 3, wE c Q, ws u 9 3, fs, e2, rfl, mem2, rl.same (same9 _), os, of, by decide⟩
      · rw [if_neg (show ¬ sY Q = true by rw [y1]; decide), if_pos v1] at os of
        rw [if_neg (show ¬ (4 : Int32) ≤ 0 by decide)] at fs
        exact Or.inl ⟨xNSEE, 4, wE c Q, ws u 9 4, fs, e2, rfl, mem3, rl.same (same9 _), os, of, by decide⟩
      · rw [if_neg (show ¬ sY Q = true by rw [y1]; decide), if_neg v1] at os of
        rw [if_pos (show (0 : Int32) ≤ 0 by decide), x33] at fs
        rw [dF] at os
        exact Or.inr ⟨wO (wE c Q) (kpS Q (tO c)), u, R, C, p, n, d, fs, e2, e3, rl, os, of, by show nI (dpF Q) = _; rw [dF], x33, hd, rfl, hG, pw⟩
theorem pm_solve {c : cT} {t : xT} (h : ReL c t) {N : Nat} (hN : 10000 ≤ N) (l : Int32) (b : Bool) : PM [(xIAE, 1), (xISE, 2), (xAE, 3), (xNSEE, 4)] (o_solve c l b) (f_solve N t l (bI b)) t := by
  rcases sol_ok h hN l b with ⟨X, k, c', u, e1, e2, e3, e4, e5, e6, _⟩ | ⟨c', u, R, C, p, n, d, e1, e2, e3, e4, e5, _⟩
  · exact PM.thr e1 e2 e6 (by rw [e3]; exact e4) e5
  · exact PM.ans e1 e2 e5 e3 e4
