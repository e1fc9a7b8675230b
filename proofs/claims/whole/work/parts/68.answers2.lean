/-! public methods that only answer, further -/
theorem pm_feed {c : cT} {t : xT} (h : ReL c t) (a : Int32) : PM [(xIAE, 1), (xISE, 2)] (o_feed c a) (f_feed t a) t := by
  obtain ⟨hch, len, l80, l1, l2, l3⟩ := h.1
  unfold o_feed f_feed
  by_cases h1 : a < 32
  · rw [if_pos h1, in_f (Or.inl h1)]
    exact PM.thr (u := ws t 9 1) rfl rfl rfl mem0 (h.same (same9 _))
  · rw [if_neg h1]
    by_cases h2 : a ≤ 126
    · rw [if_pos h2, in_t (i_lt h1) h2, Option.bind_some, if_neg (show ¬ (1 : Int32) = 0 by decide), l2]
      by_cases h3 : len < 80
      · have lt : (tI c).2 < 80 := by rw [l1]; exact nI_lt (b := 80) h3 (by decide)
        have ne : ¬ nI len = 80 := nI_ne (b := 80) (by omega) (by decide) (by omega)
        rw [if_pos lt, if_neg ne, Option.bind_some, Option.bind_some, rs_ws, if_pos rfl, if_pos le00, show rs (ws t 9 0) 11 = nI len from l2, if_pos (inB_nI h3 (by decide)), nI_clamp (by omega), Option.bind_some, Option.bind_some]
        have n0 : ¬ a < 0 := fun z => h1 (Int32.lt_of_lt_of_le z (by decide))
        obtain ⟨k, hk, ek⟩ := nI_range (n := 127) n0 (Int32.lt_of_le_of_lt h2 (by decide)) (by decide)
        have k32 : 32 ≤ k := by
          rcases Nat.lt_or_ge k 32 with z | z
          · exact absurd (by rw [ek]; exact nI_lt (b := 32) z (by decide)) h1
          · exact z
        have ia : iAdd (tI c) a = (upd (tI c).1 len a, nI (len + 1)) := by
          unfold iAdd
          rw [l1, if_neg (nI_pos (by omega)), if_neg (show ¬ (80 : Int32) ≤ nI len from nI_ge (b := 80) h3 (by decide)), nI_clamp (by omega), nI_1, ek, vn_char (by omega)]
        refine PM.ans (c' := wI c (iAdd (tI c) a)) (u := ws (wa (ws t 9 0) 5 (upd (ra t 5) len a)) 11 (nI (len + 1))) (r := nI (len + 1)) ?_ rfl ?_ rfl ?_
        · show some (rs (ws (wa (ws t 9 0) 5 _) 11 (rs (wa (ws t 9 0) 5 _) 11 + 1)) 11, _) = _
          have : rs (wa (ws t 9 0) 5 (upd (ra (ws t 9 0) 5) len a)) 11 + 1 = nI (len + 1) := by
            show rs t 11 + 1 = _
            rw [l2, nI_1]
          rw [this]; rfl
        · show Sum.inl (some (Value.int (iAdd (tI c) a).2), wI c (iAdd (tI c) a)) = _
          rw [ia]
        · obtain ⟨_, k2, k3, k4, k5⟩ := h
          refine ⟨⟨?_, len + 1, by omega, ?_, rfl, fun i hi => ?_⟩, k2, k3, k4, k5⟩
          · show chOk (iAdd (tI c) a).1
            rw [ia]
            intro j
            show narrow .char (.int (upd (tI c).1 len a j)) = .int (upd (tI c).1 len a j)
            rw [upd_at]
            split
            · rw [ek]; exact (pk_charN (by omega)).1
            · exact hch j
          · show (iAdd (tI c) a).2 = _
            rw [ia]
          · show upd (ra t 5) len a i = (iAdd (tI c) a).1 i ∧ ∃ ch, 32 ≤ ch ∧ ch ≤ 126 ∧ (iAdd (tI c) a).1 i = nI ch
            rw [ia]
            show upd (ra t 5) len a i = upd (tI c).1 len a i ∧ ∃ ch, 32 ≤ ch ∧ ch ≤ 126 ∧ upd (tI c).1 len a i = nI ch
            rw [upd_at, upd_at]
            by_cases z : i = len
            · rw [if_pos z, if_pos z]; exact ⟨rfl, k, k32, by omega, ek⟩
            · rw [if_neg z, if_neg z]; exact l3 i (by omega)
      · have e80 : len = 80 := by omega
        have lt : ¬ (tI c).2 < 80 := by rw [l1]; exact nI_nlt (b := 80) (by omega) (by omega)
        rw [if_neg lt, if_pos (by rw [e80]; rfl)]
        exact PM.thr (u := ws t 9 2) rfl rfl rfl mem1 (h.same (same9 _))
    · rw [if_neg h2, in_f (Or.inr (i_le h2))]
      exact PM.thr (u := ws t 9 1) rfl rfl rfl mem0 (h.same (same9 _))
theorem pm_distance {c : cT} {t : xT} (h : ReL c t) {N : Nat} (hN : 10000 ≤ N) (a e : Int32) : PM [(xISE, 1), (xIOOBE, 2), (xNSEE, 3)] (o_distance c a e) (f_distance N t a e) t := by
  unfold o_distance
  rcases h.room with ⟨r1, _, r2, r3, _⟩ | ⟨r1, r2, R, C, p, n, hG, hn, hQ, hH⟩
  · rw [r1]
    unfold f_distance
    rw [r3, in_f (by
      by_cases z : a < 0
      · exact Or.inl z
      · exact Or.inr (Int32.lt_of_lt_of_le (by decide) (i_lt z)))]
    rw [Option.bind_some, if_pos rfl, Option.bind_some, r2]
    exact PM.thr (u := ws t 9 1) rfl rfl rfl mem0 (h.same (same9 _))
  · rw [r1, if_pos rfl]
    obtain ⟨u, f, hd⟩ := s_distance hG.1 hQ.1 hN a e
    have s := h.same (f.same (by decide) (by decide))
    rcases hd with ⟨d1, d2, d3⟩ | ⟨d1, d2, d3⟩
    · rcases d1 with d1 | ⟨d0, d1⟩
      · rw [d1, if_neg (by decide)]
        exact PM.thr d2 f.2.2.2 rfl (by rw [d3]; exact mem1) s
      · cases ho : hasF (gO (qG (tG c))) a with
        | false =>
          rw [if_neg (by decide)]
          exact PM.thr d2 f.2.2.2 rfl (by rw [d3]; exact mem1) s
        | true =>
          rw [if_pos rfl, if_neg d0, d1, if_neg (by decide)]
          exact PM.thr d2 f.2.2.2 rfl (by rw [d3]; exact mem1) s
    · rw [d1, if_pos rfl]
      by_cases e1 : e = -1
      · rw [if_pos e1]
        rw [if_pos e1] at d3
        rcases d3 with ⟨k1, k2, k3⟩ | ⟨k1, k2, k3⟩
        · rw [if_pos k1]; exact PM.thr k2 f.2.2.2 rfl (by rw [k3]; exact mem2) s
        · rw [if_neg k1]; exact PM.ans k2 f.2.2.2 rfl k3 s
      · rw [if_neg e1]
        rw [if_neg e1] at d3
        have d2 : hasF (gG (qG (tG c))) e = true := by
          rcases d2 with z | z
          · exact absurd z e1
          · exact z
        rw [d2, if_pos rfl]
        rcases d3 with ⟨k1, k2, k3⟩ | ⟨k1, k2, k3⟩
        · rw [if_pos k1]; exact PM.thr k2 f.2.2.2 rfl (by rw [k3]; exact mem2) s
        · rw [if_neg k1]; exact PM.ans k2 f.2.2.2 rfl k3 s
theorem pm_bound {c : cT} {t : xT} (h : ReL c t) {N : Nat} (hN : 10000 ≤ N) : PM [(xISE, 1), (xNSEE, 2)] (o_bound c) (f_bound N t) t := by
  unfold o_bound
  rcases h.room with ⟨r1, _, r2, _⟩ | ⟨r1, r2, R, C, p, n, hG, hn, hQ, hH⟩
  · rw [r1]
    unfold f_bound
    rw [r2]
    exact PM.thr (u := ws t 9 1) rfl rfl rfl mem0 (h.same (same9 _))
  · rw [r1, if_pos rfl]
    have pv := hG.2.2.2.2.1
    obtain ⟨u, f, hd⟩ := s_bound hG.1 hQ.1 hQ.2.1 pv.1 pv.2.2 hN (tM c).1 (tM c).2
    have s : ReL (lsT c (qN (tG c)).1) u := (h.same (f.same (by decide) (by decide))).scratch rfl rfl rfl rfl rfl rfl
    rcases hd with ⟨k1, k2, k3⟩ | ⟨k1, k2, k3⟩
    · rw [if_pos k1]; exact PM.thr k2 f.2.2.2 rfl (by rw [k3]; exact mem1) s
    · rw [if_neg k1]; exact PM.ans k2 f.2.2.2 rfl k3 s
theorem pm_stuck {c : cT} {t : xT} (h : ReL c t) {N : Nat} (hN : 10000 ≤ N) (b : Bool) : PM [(xISE, 1)] (o_stuck c b) (f_stuck N t (bI b)) t := by
  unfold o_stuck f_stuck
  rcases h.room with ⟨r1, _, r2, _⟩ | ⟨r1, r2, R, C, p, n, hG, hn, hQ, hH⟩
  · rw [r1, r2]
    exact PM.thr (u := ws t 9 1) rfl rfl rfl mem0 (h.same (same9 _))
  · rw [r1, if_pos rfl, r2, Option.bind_some, if_neg n10, Option.bind_some, Option.bind_some, rs_ws, if_pos rfl, if_pos le00]
    have pv := hG.2.2.2.2.1
    obtain ⟨u1, e1, f1, d1⟩ := s_dies hG.1 (t := ws t 9 0) hQ.1 hN
    have a1 : ra u1 1 = ra t 1 := f1.a 1 rfl
    obtain ⟨u2, e2, f2, d2⟩ := s_stuckFor hG.1 (hQ.1.of a1) (hQ.2.1.of a1) pv.1 d1 hN
    have f3 : Frm [6, 8, 9, 10] [9, 16, 21] t u2 := ((Frm.ws Frm.rf (by decide) 0).trans (f1.up (by decide) (by decide))).trans (f2.up (by decide) (by decide))
    have r9 : rs u2 9 = 0 := by rw [f2.s 9 rfl, f1.s 9 rfl]; rfl
    have s := h.same (f3.same (by decide) (by decide))
    rw [e1, Option.bind_some, e2, Option.bind_some]
    cases b with
    | false =>
      rw [if_neg (by decide)]
      exact PM.ans (r := gSr (qG (tG c)) (qN (tG c)).1) rfl f3.2.2.2 rfl r9 s
    | true =>
      rw [if_pos rfl, if_neg (show ¬ bI true = 0 by decide)]
      by_cases z : gSr (qG (tG c)) (qN (tG c)).1 = 0
      · rw [if_pos z, if_pos z]
        exact PM.thr (u := ws u2 9 1) (r := 0) rfl f3.2.2.2 rfl mem0 (s.same (same9 _))
      · rw [if_neg z, if_neg z]
        refine PM.ans (u := u2) (r := gSd (qG (tG c)) (qN (tG c)).1 (gSr (qG (tG c)) (qN (tG c)).1)) ?_ f3.2.2.2 rfl r9 s
        rw [← d2 z]; rfl
theorem pm_goalRoom {c : cT} {t : xT} (h : ReL c t) {N : Nat} (hN : 10000 ≤ N) (i j : Int32) : PM [(xISE, 1), (xNSEE, 2)] (o_goalRoom c i j) (f_goalRoom N t i j) t := by
  unfold o_goalRoom
  rcases h.room with ⟨r1, _, r2, _⟩ | ⟨r1, r2, R, C, p, n, hG, hn, hQ, hH⟩
  · rw [r1]
    unfold f_goalRoom
    rw [r2]
    exact PM.thr (u := ws t 9 1) rfl rfl rfl mem0 (h.same (same9 _))
  · rw [r1, if_pos rfl]
    obtain ⟨u, f, hd⟩ := s_goalRoom hG.1 hQ.1 hN i j (tL c).1
    have s := h.same (f.same (by decide) (by decide))
    rcases hd with ⟨k1, ⟨r, k2⟩, k3⟩ | ⟨k1, k2, k3, k4, k5⟩
    · have thr : PM [(xISE, 1), (xNSEE, 2)] (.inr (xNSEE, c)) (f_goalRoom N t i j) t := PM.thr k2 f.2.2.2 rfl (by rw [k3]; exact mem1) s
      by_cases z1 : goF (qG (tG c)) i = 0
      · rw [if_pos z1]; exact thr
      · rw [if_neg z1]
        by_cases z2 : j < -2
        · rw [if_pos z2]; exact thr
        · rw [if_neg z2]
          by_cases z3 : j < bcF (goF (qG (tG c)) i)
          · rcases k1 with k1 | k1 | k1
            · exact absurd k1 z1
            · exact absurd k1 z2
            · exact absurd z3 k1
          · rw [if_neg z3]; exact thr
    · rw [if_neg k1, if_neg k2, if_pos k3]
      by_cases z1 : j = -2
      · rw [if_pos z1] at k4 ⊢
        exact PM.ans k4 f.2.2.2 rfl k5 s
      · rw [if_neg z1] at k4 ⊢
        by_cases z2 : j = -1
        · rw [if_pos z2] at k4 ⊢
          exact PM.ans k4 f.2.2.2 rfl k5 s
        · rw [if_neg z2] at k4 ⊢
          exact PM.ans k4 f.2.2.2 rfl k5 (s.scratch rfl rfl rfl rfl rfl rfl)
