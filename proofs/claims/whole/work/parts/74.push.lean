/-! pushes as commands: the answers -/
theorem pu_pre {c : cT} {t : xT} {R C p n x d : Nat} {N : Nat} (hN : 10000 ≤ N) (hG : GI (tG c) R C p n) (hn : n ≤ 400) (hQ : RQ (ra t 1) (qG (tG c)) R C (qN (tG c)).1 p n (qR (tG c))) (hH : HI (tG c) R C n (tH c) t) (hd : d < 4) (hx : x < R * C) (hb : tb (qN (tG c)).1 x = true) (h0 : pPr (qG (tG c)) (qN (tG c)).1 (nI p) (nI x) (nI d) = 0) : ∃ u0 u1 u2 w, f_reasonForPush N (ws t 9 0) (nI x) (nI d) = some (0, u0) ∧ f_remembers N u0 = some u1 ∧ ra u1 1 4 = nI n ∧ f_walksAndPushes N u1 (nI x) (nI d) = some u2 ∧ CW c t u2 (puQ (tG c) (nI x) (nI d)) R C p n x (n + w + 1) ∧ w < 64 ∧ rs u2 9 = 0 ∧ f_beside u2 (nI x) (nI d) = some (nI (nb R C x d)) ∧ tb (gO (qG (puQ (tG c) (nI x) (nI d)))) (nb R C x d) = true ∧ tb (qN (puQ (tG c) (nI x) (nI d))).1 (nb R C x d) = true := by
  obtain ⟨u0, e1, f, _⟩ := m_rfp (t := ws t 9 0) hG.1 hQ.1 hQ.2.1 hQ.2.2.1 hG.2.2.2.2.1.2.1 hx hd hN
  obtain ⟨u1, k1, k2, k3⟩ := s_remembers u0 hN
  have g0 : ra u0 1 = ra t 1 := f.a 1 rfl
  have g1 : ra u1 1 = ra t 1 := (k2.a 1 rfl).trans g0
  obtain ⟨u2, w, l1, lw, l2, l3, l4, l5, l6, l7, l8, l9⟩ := s_wp (t := u1) hG (by rw [g1]; exact hQ) hb hd h0 (by omega) hN
  have f2 : Frm cA cKk t u2 := (((Frm.ws Frm.rf (by decide) 0).trans (f.up (by decide) (by decide))).trans (k2.up (by decide) (by decide))).trans (l2.up (by decide) (by decide))
  have i3 : ra u2 3 = ra u1 3 := l2.a 3 rfl
  have bs := m_bes (t := u2) hG.1.rc l4.1 hx hd
  refine ⟨u0, u1, u2, w, by rw [e1, h0], k1, by rw [g1]; exact hQ.2.2.2.1, l1, ?_, lw, ?_, ?_, ?_, l9⟩
  · exact ⟨hG, hn, hQ, hH, l3, l4, by omega, l5, l6, l7, f2, fun k hk => by rw [i3, k3 k hk, g0]⟩
  · rw [l2.s 9 rfl, k2.s 9 rfl, f.s 9 rfl]; rfl
  · rw [bs, bz_nI (tb_lt l8)]
  · rw [l5]; exact l8
theorem bnd_id {cd : List (String × Int32)} {o : mO} {f : Option (Int32 × xT)} {t : xT} (h : PM cd o f t) : PM cd o (Option.bind f fun r_4 => some (r_4.1, r_4.2)) t := by
  cases f with
  | none => exact h
  | some r => exact h
theorem pm_push {c : cT} {t : xT} (h : ReL c t) {N : Nat} (hN : 10000 ≤ N) (a d : Int32) : PM [(xIAE, 1), (xISE, 2), (xIOOBE, 3), (xUOE, 4), (xAE, 5)] (o_push c a d) (f_push N t a d) t := by
  unfold o_push f_push f_pushing
  rcases stops h a d with ⟨e, z⟩ | ⟨k, hk, rfl, ⟨e, z⟩ | ⟨r1, R, C, p, n, hG, hn, hQ, hH, ⟨e, z⟩ | ⟨e, z, x, hx, rfl, hb⟩⟩⟩
  · rw [e, dir_or z]
    exact PM.thr (u := ws t 9 1) (r := 0) rfl rfl rfl mem0 (h.same (same9 _))
  · rw [e, if_neg (dir_in hk).2.1, if_pos (dir_in hk).2.2, z]
    exact PM.thr (u := ws t 9 2) (r := 0) rfl rfl rfl mem1 (h.same (same9 _))
  · rw [e, if_neg (dir_in hk).2.1, if_pos (dir_in hk).2.2, r1, if_pos rfl, z]
    exact PM.thr (u := ws t 9 3) (r := 0) rfl rfl rfl mem2 (h.same (same9 _))
  · rw [e, if_neg (dir_in hk).2.1, if_pos (dir_in hk).2.2, r1, if_pos rfl, z, if_pos rfl, Option.bind_some, Option.bind_some, rs_ws, if_pos rfl, if_pos le00, hG.2.1]
    by_cases h0 : pPr (qG (tG c)) (qN (tG c)).1 (nI p) (nI x) (nI k) = 0
    · obtain ⟨u0, u1, u2, w, a1, a2, a3, a4, a5, a6, a7, a8, a9, a10⟩ := pu_pre hN hG hn hQ hH hk hx hb h0
      rw [if_pos h0, a1, Option.bind_some, if_pos le00, a2, Option.bind_some, a4, Option.bind_some, a8, Option.bind_some, cl_4, a3]
      obtain ⟨N', rfl⟩ : ∃ N', N = N' + 1 := ⟨N - 1, by omega⟩
      rw [u_pushing_69, if_pos rfl]
      have q0 : qC (tG c) = nI n := hG.2.2.1
      have q1 : qC (puQ (tG c) (nI x) (nI k)) = nI (n + w + 1) := a5.2.2.2.2.1.2.2.1
      refine bnd_id (pt_ok (cd := [(xIAE, 1), (xISE, 2), (xIOOBE, 3), (xUOE, 4), (xAE, 5)]) h a5 a7 hN 0 1 mem4 (v := qC (puQ (tG c) (nI x) (nI k)) - qC (tG c)) (fun _ => by rw [q0, q1]) (fun y => absurd rfl y) rfl)
    · obtain ⟨u0, e1, f, e2⟩ := m_rfp (t := ws t 9 0) hG.1 hQ.1 hQ.2.1 hQ.2.2.1 hG.2.2.2.2.1.2.1 hx hk hN
      rw [if_neg h0, e1, Option.bind_some, if_neg ((pPr_or _ _ _ _ _).resolve_left h0)]
      have s0 : ReL c u0 := (h.same (same9 0)).same (f.same (by decide) (by decide))
      obtain ⟨u, k1, k2, k3, k4⟩ := ke_ok (r := pPr (qG (tG c)) (qN (tG c)).1 (nI p) (nI x) (nI k)) (k := 4) s0 (e2 h0)
      rw [k1]
      exact PM.thr rfl (k2.trans f.2.2.2) rfl (by rw [k3]; exact mem3) k4
theorem pm_longPush {c : cT} {t : xT} (h : ReL c t) {N : Nat} (hN : 10000 ≤ N) (a d : Int32) : PM [(xIAE, 1), (xISE, 2), (xIOOBE, 3), (xUOE, 4), (xAE, 5)] (o_longPush c a d) (f_longPush N t a d) t := by
  unfold o_longPush f_longPush f_pushing
  rcases stops h a d with ⟨e, z⟩ | ⟨k, hk, rfl, ⟨e, z⟩ | ⟨r1, R, C, p, n, hG, hn, hQ, hH, ⟨e, z⟩ | ⟨e, z, x, hx, rfl, hb⟩⟩⟩
  · rw [e, dir_or z]
    exact PM.thr (u := ws t 9 1) (r := 0) rfl rfl rfl mem0 (h.same (same9 _))
  · rw [e, if_neg (dir_in hk).2.1, if_pos (dir_in hk).2.2, z]
    exact PM.thr (u := ws t 9 2) (r := 0) rfl rfl rfl mem1 (h.same (same9 _))
  · rw [e, if_neg (dir_in hk).2.1, if_pos (dir_in hk).2.2, r1, if_pos rfl, z]
    exact PM.thr (u := ws t 9 3) (r := 0) rfl rfl rfl mem2 (h.same (same9 _))
  · rw [e, if_neg (dir_in hk).2.1, if_pos (dir_in hk).2.2, r1, if_pos rfl, z, if_pos rfl, Option.bind_some, Option.bind_some, rs_ws, if_pos rfl, if_pos le00, hG.2.1]
    by_cases h0 : pPr (qG (tG c)) (qN (tG c)).1 (nI p) (nI x) (nI k) = 0
    · obtain ⟨u0, u1, u2, w, a1, a2, a3, a4, a5, a6, a7, a8, a9, a10⟩ := pu_pre hN hG hn hQ hH hk hx hb h0
      rw [if_pos h0, a1, Option.bind_some, if_pos le00, a2, Option.bind_some, a4, Option.bind_some, a8, Option.bind_some, cl_4, a3]
      obtain ⟨N', hN'⟩ : ∃ N', N = N' + 1 + 63 := ⟨N - 64, by omega⟩
      obtain ⟨w1, w2, w3, w4, w5, w6, w7, w8, w9, w10, w11, w12⟩ := a5
      have mu63 : mu k x ≤ 63 := by
        have := hG.1.rc.le
        unfold mu; split <;> omega
      obtain ⟨u, n', k', b1, b2, b3, b4, b5, b6, b7, ⟨p', b8, b9⟩, b10, b11, b12⟩ := on_ok (N := N) (C := C) (R := R) hk (nI n) 63 (puQ (tG c) (nI x) (nI k)) x (n + w + 1) 1 N' u2 w5 w6 a9 a10 mu63 (by omega)
      have ew : f_pushing_L N N (nI k) 1 (nI n) 1 (nI (nb R C x k)) u2 = pTail N 1 (nI n) (nI k') u := by
        rw [← b1, ← hN']; rfl
      rw [ew]
      have cw : CW c t u (poQ (tG c) (nI x) (nI k)).1 R C p n p' n' := ⟨w1, w2, w3, w4, b8, b9, by omega, b6.trans w8, b7.trans w9, fun i hi => (b12 i (by omega)).trans (w10 i hi), w11.trans (b4.up (by decide) (by decide)), fun i hi => by rw [b4.a 3 rfl]; exact w12 i hi⟩
      refine bnd_id (pt_ok (cd := [(xIAE, 1), (xISE, 2), (xIOOBE, 3), (xUOE, 4), (xAE, 5)]) h cw ((b4.s 9 rfl).trans a7) hN 1 (nI k') mem4 (v := nI (poQ (tG c) (nI x) (nI k)).2) (fun y => absurd y (by decide)) (fun _ => by rw [← b5]; rfl) rfl)
    · obtain ⟨u0, e1, f, e2⟩ := m_rfp (t := ws t 9 0) hG.1 hQ.1 hQ.2.1 hQ.2.2.1 hG.2.2.2.2.1.2.1 hx hk hN
      rw [if_neg h0, e1, Option.bind_some, if_neg ((pPr_or _ _ _ _ _).resolve_left h0)]
      have s0 : ReL c u0 := (h.same (same9 0)).same (f.same (by decide) (by decide))
      obtain ⟨u, k1, k2, k3, k4⟩ := ke_ok (r := pPr (qG (tG c)) (qN (tG c)).1 (nI p) (nI x) (nI k)) (k := 4) s0 (e2 h0)
      rw [k1]
      exact PM.thr rfl (k2.trans f.2.2.2) rfl (by rw [k3]; exact mem3) k4
