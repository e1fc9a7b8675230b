/-! finish -/
theorem dv_t : ∀ v, v < 256 → nI v / 4 = nI (v / 4) ∧ nI v - nI v / 4 * 4 = nI (v % 4) := by decide +kernel
theorem fl_ok {N : Nat} (hN : 10000 ≤ N) {c X : cT} {t : xT} {R C p0 n0 d : Nat} (hd : d < 1000) (h33 : rs t 33 = nI d) (h18 : ∀ i, i < d → ra t 18 i = (tO X).1 i) (v2 : Int32) (B : Nat → Int64) (A : Nat → Int32) (hp : ∀ x, x < d → ∃ c' e, (tO X).1 x = nI (4 * c' + e) ∧ e < 4 ∧ tb (B x) c' = true ∧ pPr (qG (tG c)) (B x) (A x) (nI c') (nI e) = 0 ∧ B (x + 1) = lkA (qG (tG c)) (B x) (nI c') (nI e) ∧ pAr (qG (tG c)) (B (x + 1)) (A (x + 1)) = pAr (qG (tG c)) (B (x + 1)) (nI c')) : ∀ n k q p1 n1 t1 F, k + n = d → CW c t t1 q R C p0 n0 p1 n1 → n1 ≤ n0 + 64 * k → (qN q).1 = B k → pAr (qG (tG c)) (B k) (A k) = pAr (qG (tG c)) (B k) (nI p1) → n + 1 ≤ F → ∃ u q' p2 n2 F', f_finish_L N F v2 (nI k) t1 = f_finish_L N (F' + 1) v2 (nI d) u ∧ fnL n k (wG X q) = wG X q' ∧ CW c t u q' R C p0 n0 p2 n2 ∧ rs u 9 = rs t1 9 := by
  intro n
  induction n with
  | zero =>
    intro k q p1 n1 t1 F hk w hn hb ha hF
    obtain ⟨F', rfl⟩ : ∃ F', F = F' + 1 := ⟨F - 1, by omega⟩
    have : k = d := by omega
    subst this
    exact ⟨t1, q, p1, n1, F', rfl, rfl, w, rfl⟩
  | succ n ih =>
    intro k q p1 n1 t1 F hk w hn hb ha hF
    obtain ⟨F', rfl⟩ : ∃ F', F = F' + 1 := ⟨F - 1, by omega⟩
    obtain ⟨w1, w2, w3, w4, w5, w6, w7, w8, w9, w10, w11, w12⟩ := w
    obtain ⟨c', e, x1, x2, x3, x4, x5, x6⟩ := hp k (by omega)
    have c64 := tb_lt x3
    have v256 : 4 * c' + e < 256 := by omega
    obtain ⟨dv1, dv2⟩ := dv_t (4 * c' + e) v256
    rw [show (4 * c' + e) / 4 = c' by omega] at dv1
    rw [show (4 * c' + e) % 4 = e by omega] at dv2
    have e18 : ra t1 18 k = nI (4 * c' + e) := by rw [w11.a 18 rfl, h18 k (by omega)]; exact x1
    have ex : (tO X).1 k = nI (4 * c' + e) := x1
    have bt : tb (qN q).1 c' = true := by rw [hb]; exact x3
    have pr : pPr (qG q) (qN q).1 (nI p1) (nI c') (nI e) = 0 := by
      rw [w8, hb, ← pPr_ar ha]; exact x4
    obtain ⟨u, j, y1, y2, y3, y4, y5, y6, y7, y8, y9, y10⟩ := s_wp2 (t := t1) w5 w6 bt x2 pr (by omega) hN
    have ok : GOk (qG (tG c)) R C := w1.1
    have ok1 : GOk (qG q) R C := w5.1
    have bq : (qN (puQ q (nI c') (nI e))).1 = B (k + 1) := by
      have pv1 : PV (qG q) (qN q).1 p1 := w5.2.2.2.2.1
      have cl := ok1.open_lt (pv1.1 c' bt)
      obtain ⟨o5, o6⟩ := pBr_0 ok1 cl x2 (pPr_0 ok1 pv1.2.1 cl x2 pr).2.2.1
      rw [x5, ← hb, ← w8]
      exact tb_ext fun x _ => by rw [y10, lkA_tb ok1 cl x2 o5 o6]
    have fS : fnS (wG X q) k = wG X (puQ q (nI c') (nI e)) := by
      show wG (wG X q) (puQ q (intAtF 1000 (tO X).1 (nI k) / 4) (intAtF 1000 (tO X).1 (nI k) - intAtF 1000 (tO X).1 (nI k) / 4 * 4)) = _
      rw [intAt_at (show k < 1000 by omega) (by decide), ex, dv1]
      rw [dv1] at dv2
      rw [dv2]; rfl
    have w' : CW c t u (puQ q (nI c') (nI e)) R C p0 n0 c' (n1 + j + 1) := ⟨w1, w2, w3, w4, y4, y5, by omega, y6.trans w8, y7.trans w9, fun i hi => (y8 i (by omega)).trans (w10 i hi), w11.trans (y3.up (by decide) (by decide)), fun x hx => by rw [y3.a 3 rfl]; exact w12 x hx⟩
    obtain ⟨u2, q', p2, n2, F2, z1, z2, z3, z4⟩ := ih (k + 1) (puQ q (nI c') (nI e)) c' (n1 + j + 1) u F' (by omega) w' (by omega) bq (by rw [x6]) (by omega)
    refine ⟨u2, q', p2, n2, F2, ?_, ?_, z3, by rw [z4, y3.s 9 rfl]⟩
    · have i1 := inB_nI (show k < 1000 by omega) (show 1000 < 2 ^ 31 by decide)
      rw [u_finish_29, w11.s 33 rfl, h33, if_neg (nI_ge (show k < d by omega) (by omega)), if_pos i1, if_pos i1, nI_clamp (show k < 2 ^ 31 by omega), e18]
      have dv2' := dv2
      rw [dv1] at dv2' ⊢
      rw [dv2', y1, Option.bind_some, nI_1]
      exact z1
    · show fnL n (k + 1) (fnS (wG X q) k) = _
      rw [fS]; exact z2
theorem fe_ok {c : cT} {t t2 : xT} {q1 : GmT} {R C p0 n0 p1 n1 d F : Nat} (h : ReL c t) (w : CW c t t2 q1 R C p0 n0 p1 n1) (h9 : rs t2 9 = 0) (h33 : rs t2 33 = nI d) {N : Nat} (hN : 10000 ≤ N) {cd : List (String × Int32)} (hcd : (xAE, (3 : Int32)) ∈ cd) {o : mO}
    (ho : o = if qC q1 ≤ 400 then .inl (some (.int (qC q1 - nI n0)), wH (wG (wH c (hBeg (tH c) (tG c))) q1) (cmtH (hBeg (tH c) (tG c)))) else .inr (xAE, wG (wG (wH c (hBeg (tH c) (tG c))) q1) (rollQ (hBeg (tH c) (tG c)) q1))) : PM cd o (f_finish_L N (F + 1) (nI n0) (nI d) t2) t := by
  have g4 : ra t2 1 4 = nI n1 := w.2.2.2.2.2.1.2.2.2.1
  have qc : qC q1 = nI n1 := w.2.2.2.2.1.2.2.1
  have big : n1 < 2 ^ 30 := w.2.2.2.2.1.2.2.2.1
  have f1 : Frm cA cKk t t2 := w.2.2.2.2.2.2.2.2.2.2.1
  rw [u_finish_29, h33, if_pos (Int32.le_refl _), cl_4, g4]
  by_cases hn : n1 ≤ 400
  · obtain ⟨u, k1, k2, _, k4⟩ := ce_commit h w hn hN
    have le : nI n1 ≤ 400 := nI_le (b := 400) hn (by decide)
    rw [if_pos le, k1, Option.bind_some, k2.a 1 rfl, g4]
    rw [qc, if_pos le] at ho
    exact PM.ans rfl (k2.2.2.2.trans f1.2.2.2) ho ((k2.s 9 rfl).trans h9) k4
  · obtain ⟨u, k1, k2, k4⟩ := ce_back h w hN
    have le : ¬ nI n1 ≤ 400 := by
      intro z
      exact hn (by
        have := Int32.not_lt.mpr z
        exact Nat.le_of_not_lt fun y => this (nI_lt (a := 400) y (by omega)))
    rw [if_neg le, k1, Option.bind_some]
    rw [qc, if_neg le] at ho
    exact PM.thr (u := ws u 9 3) (r := 0) rfl (k2.2.2.2.trans f1.2.2.2) ho hcd (k4.same (same9 _))
theorem pm_finish {c : cT} {t : xT} (h : ReL c t) {N : Nat} (hN : 10000 ≤ N) (l : Int32) : PM [(xIAE, 1), (xISE, 2), (xAE, 3), (xNSEE, 4)] (o_finish c l) (f_finish N t l) t := by
  unfold f_finish
  rcases sol_ok h hN l true with ⟨X, k, c', u, e1, e2, e3, e4, e5, _, e6, e7⟩ | ⟨c', u, R, C, p, n, d, e1, e2, e3, e4, _, e5, e6, e7, e8, e9, e10, e11⟩
  · rw [show f_solve N t l 1 = _ from e1, Option.bind_some]
    rw [if_neg (show ¬ rs (0, u).2 9 ≤ 0 by show ¬ rs u 9 ≤ 0; rw [e3]; exact e7), e6 rfl]
    exact PM.thr rfl e2 rfl (by rw [e3]; exact e4) e5
  · rw [show f_solve N t l 1 = _ from e1, Option.bind_some, e5 rfl]
    rw [if_pos (show rs (nI d, u).2 9 ≤ 0 by show rs u 9 ≤ 0; rw [e3]; decide)]
    rcases e4.room with ⟨z, _⟩ | ⟨_, _, R2, C2, p2, n2, hG, hn, hQ, hH⟩
    · have ok := e10.1
      have h3 := ok.1.1
      rw [ok.2.1] at z
      exact absurd (nI_lt (a := 0) (b := R) (by omega) (by omega)) (of_decide_eq_false z)
    · obtain ⟨u1, k1, k2, k3⟩ := s_remembers u hN
      have pp : p2 = p := by
        have l1 := hG.1.rc.le
        have l2 := e10.1.rc.le
        have l3 := hG.2.2.2.2.1.rc hG.1
        have l4 := e10.2.2.2.2.1.rc e10.1
        exact (nI_eq (by omega) (by omega)).mp (hG.2.1.symm.trans e10.2.1)
      subst pp
      have g1 : ra u1 1 = ra u 1 := k2.a 1 rfl
      have w : CW c' u u1 (tG c') R2 C2 p2 n2 p2 n2 := ⟨hG, hn, hQ, hH, hG, by rw [g1]; exact hQ, Nat.le_refl _, rfl, rfl, fun _ _ => rfl, k2.up (by decide) (by decide), k3⟩
      obtain ⟨B, A, b0, a0, hp⟩ := e11
      have h18 : ∀ i, i < d → ra u 18 i = (tO (wH c' (hBeg (tH c') (tG c')))).1 i := fun i hi => by
        show _ = (tO c').1 i
        rcases e4.2.2.1 with ⟨z, _⟩ | ⟨k, z1, z2, _, _, z5⟩
        · rw [e6] at z; exact absurd z (nI_m1 (by omega))
        · have : k = d := (nI_eq (by omega) (by omega)).mp (z2.symm.trans e6)
          subst this
          exact (z5 i hi).1
      show PM _ (o_fin c') (Option.bind (f_remembers N u) fun r_17 => f_finish_L N N (ra r_17 1 (Int32.toNatClampNeg 4)) 0 r_17) t
      rw [k1, Option.bind_some, g1, cl_4, hQ.2.2.2.1]
      obtain ⟨u2, q', p3, n3, F', y1, y2, y3, y4⟩ := fl_ok hN (c := c') (X := wH c' (hBeg (tH c') (tG c'))) (t := u) e8 e7 h18 (nI n2) B A hp d 0 (tG c') p2 n2 u1 N (by omega) w (by omega) b0.symm (by rw [b0]; exact a0) (by omega)
      have y1 : f_finish_L N N (nI n2) 0 u1 = _ := y1
      rw [y1]
      have y2 : fnL d 0 (wH c' (hBeg (tH c') (tG c'))) = wG (wH c' (hBeg (tH c') (tG c'))) q' := y2
      have r := fe_ok (d := d) (F := F') e4 y3 (by rw [y4, k2.s 9 rfl]; exact e3) (by rw [y3.2.2.2.2.2.2.2.2.2.2.1.s 33 rfl]; exact e7) hN (cd := [(xIAE, 1), (xISE, 2), (xAE, 3), (xNSEE, 4)]) mem2 (o := o_fin c') ?_
      · obtain ⟨r1, u3, r2, r3, r4⟩ := r
        exact ⟨r1, u3, r2, r3.trans e2, r4⟩
      · unfold o_fin
        rw [e6, nI_clamp (show d < 2 ^ 31 by omega), y2]
        have qc : qC (tG c') = nI n2 := hG.2.2.1
        show (if qC q' ≤ 400 then Sum.inl (some (Value.int (qC q' - qC (tG c'))), _) else _) = _
        rw [qc]; rfl
