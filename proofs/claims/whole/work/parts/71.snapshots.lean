/-! isReplayed, solution, undo, snapshots: class and model -/
theorem same3 {t u : xT} {A K : List Nat} (h : Frm A K t u) : ro u = ro t := h.2.2.2
theorem pm_isReplayed {c : cT} {t : xT} (h : ReL c t) : PM [(xISE, 1)] (o_isReplayed c) (f_isReplayed t) t := by
  unfold o_isReplayed f_isReplayed
  rcases h.room with ⟨r1, _, r2, _⟩ | ⟨r1, r2, R, C, p, n, hG, hn, hQ, hH⟩
  · rw [r1, r2]
    exact PM.thr (u := ws t 9 1) (r := 0) rfl rfl rfl mem0 (h.same (same9 _))
  · rw [r1, if_pos rfl, r2]
    have e0 : rp (qG (tG c)) (qR (tG c)) (qS (tG c)) 0 = some (qS (tG c)) := rfl
    obtain ⟨k1, y, k2⟩ := co_ok hG.2.2.2.2.2.1 hn (hG.2.2.2.2.2.2 hn) n 0 (qS (tG c)) (by omega) e0
    have en : (qC (tG c)).toNatClampNeg = n := by rw [hG.2.2.1, nI_clamp (by omega)]
    have e1 : (coQ (tG c) n).1 = true := k1
    have e2 : (coQ (tG c) n).2 = (qG (tG c), qN (tG c), qS (tG c), y, qL (tG c), qR (tG c), qC (tG c)) := k2
    rw [en, e1, e2]
    obtain ⟨h1, h2, h3, _, h5⟩ := h.same (same9 (t := t) 0)
    refine PM.ans (c' := wG c (qG (tG c), qN (tG c), qS (tG c), y, qL (tG c), qR (tG c), qC (tG c))) (u := ws t 9 0) (r := 1) rfl rfl rfl rfl ⟨h1, h2, h3, Or.inr ⟨R, C, p, n, hG, hn, hQ, ?_⟩, h5⟩
    exact hH.cong rfl rfl (fun _ _ => rfl) (Nat.le_refl _) rfl rfl
theorem pm_solution {c : cT} {t : xT} (h : ReL c t) (a : Int32) (b : Bool) : PM [(xNSEE, 1)] (o_solution c a b) (f_solution t a (bI b)) t := by
  unfold o_solution f_solution
  rcases h.2.2.1 with ⟨k1, k2⟩ | ⟨k, hk, k1, k2, k3, k4⟩
  · rw [k1, k2, if_pos rfl, if_pos (by decide)]
    exact PM.thr (u := ws t 9 1) (r := 0) rfl rfl rfl mem0 (h.same (same9 _))
  · rw [k1, k2, if_neg (m1_nI (by omega)), if_neg (nI_pos (by omega))]
    have s9 := h.same (same9 (t := t) 0)
    by_cases a1 : a < -1
    · rw [if_pos a1, in_f (Or.inl a1)]
      exact PM.thr (u := ws t 9 1) (r := 0) rfl rfl rfl mem0 (h.same (same9 _))
    · rw [if_neg a1]
      have kk : nI k - 1 < nI k := by
        rw [Int32.lt_iff_toInt_lt, show (1 : Int32) = nI 1 from rfl, pk_sub_toInt (by omega) (by decide), nI_toInt (by omega)]; omega
      by_cases a2 : a < nI k
      · have le : a ≤ nI k - 1 := by
          rw [Int32.le_iff_toInt_le, show (1 : Int32) = nI 1 from rfl, pk_sub_toInt (by omega) (by decide)]
          have := Int32.lt_iff_toInt_lt.mp a2
          rw [nI_toInt (by omega)] at this; omega
        rw [if_pos a2, in_t (i_lt a1) le, Option.bind_some, if_neg n10, Option.bind_some, Option.bind_some, rs_ws, if_pos rfl, if_pos le00]
        by_cases a3 : a = -1
        · rw [if_pos a3, if_pos a3]
          cases b with
          | false =>
            refine PM.ans (c' := c) (u := ws t 9 0) (r := nI k) ?_ rfl rfl rfl s9
            show some (rs t 33, ws t 9 0) = _
            rw [k2]
          | true =>
            refine PM.ans (c' := c) (u := ws t 9 0) (r := (tO c).2.2) ?_ rfl rfl rfl s9
            show some (rs t 34, ws t 9 0) = _
            rw [k3]
        · rw [if_neg a3, if_neg a3]
          have n0 : ¬ a < 0 := fun z => by
            have := Int32.lt_iff_toInt_lt.mp z
            have q := Int32.le_iff_toInt_le.mp (i_lt a1)
            have w : ¬ a.toInt = -1 := fun v => a3 (Int32.toInt_inj.mp v)
            have e0 : (0 : Int32).toInt = 0 := rfl
            have e1 : (-1 : Int32).toInt = -1 := rfl
            omega
          obtain ⟨i, hi, ei⟩ := nI_range n0 a2 (by omega)
          subst ei
          obtain ⟨m1, v, v256, m2⟩ := k4 i hi
          rw [inB_nI (show i < 1000 by omega) (by decide), if_pos rfl, if_pos rfl, nI_clamp (by omega), show ra (ws t 9 0) 18 i = (tO c).1 i from m1, intAt_at (show i < 1000 by omega) (by decide)]
          cases b with
          | false => exact PM.ans (c' := c) (u := ws t 9 0) (r := (tO c).1 i / 4) rfl rfl rfl rfl s9
          | true => exact PM.ans (c' := c) (u := ws t 9 0) (r := (tO c).1 i - (tO c).1 i / 4 * 4) rfl rfl rfl rfl s9
      · rw [if_neg a2, in_f (Or.inr (Int32.lt_of_lt_of_le kk (i_lt a2)))]
        exact PM.thr (u := ws t 9 1) (r := 0) rfl rfl rfl mem0 (h.same (same9 _))
theorem ud_loop {t : xT} {N z : Nat} (hN : 10000 ≤ N) (hz : z < 8) (h5 : rs t 5 = nI z) : ∃ u, f_undo_L N N 0 t = some (nI z, u) ∧ Frm [1] [] t u ∧ ∀ k, k < 602 → ra u 1 k = ra t 4 (602 * z + k) := by
  have loop : ∀ (m k n : Nat) (t : xT), k + m = 602 → rs t 5 = nI z → (∀ i, i < k → ra t 1 i = ra t 4 (602 * z + i)) → ∃ u, f_undo_L N (n + 1 + m) (nI k) t = some (nI z, u) ∧ Frm [1] [] t u ∧ ∀ i, i < 602 → ra u 1 i = ra t 4 (602 * z + i) := by
    intro m
    induction m with
    | zero =>
      intro k n t hk h5 h
      refine ⟨t, ?_, Frm.rf, fun i hi => h i (by omega)⟩
      rw [Nat.add_zero, u_undo_37, if_pos (l602 (by omega) (by omega)), h5]
    | succ m ih =>
      intro k n t hk h5 h
      have e1 : (602 : Int32) * nI z + nI k = nI (602 * z + k) := by rw [show (602 : Int32) = nI 602 from rfl, pk_mul, nI_add]
      obtain ⟨u, e, f, r⟩ := ih (k + 1) n (wa t 1 (upd (ra t 1) k (ra t 4 (602 * z + k)))) (by omega) h5 fun i hi => by
        show upd (ra t 1) k (ra t 4 (602 * z + k)) i = _
        rw [upd_at]
        by_cases w : i = k
        · rw [if_pos w, w]; rfl
        · rw [if_neg w]; exact h i (by omega)
      refine ⟨u, ?_, (Frm.wa Frm.rf (by decide) _).trans f, r⟩
      rw [show n + 1 + (m + 1) = n + 1 + m + 1 by omega, u_undo_37, if_neg (g602 (by omega)), h5, e1, if_pos (inB_nI (by omega) (by decide)), if_pos (inB_nI (by omega) (by decide)), Option.bind_some, nI_clamp (by omega), nI_clamp (by omega), nI_1, e]
  obtain ⟨n, hn⟩ : ∃ n, N = n + 1 + 602 := ⟨N - 603, by omega⟩
  have := loop 602 0 n t (by omega) h5 fun i hi => by omega
  rw [nI_0, ← hn] at this
  exact this
theorem pm_undo {c : cT} {t : xT} (h : ReL c t) {N : Nat} (hN : 10000 ≤ N) : PM [(xISE, 1)] (o_undo c) (f_undo N t) t := by
  unfold o_undo f_undo
  have none : hZ (tH c) = 0 → rs t 5 = 0 → PM [(xISE, 1)] (if hZ (tH c) = 0 then (.inr (xISE, c)) else .inl (some (.int (hZ (tH (wG (wH c (bckH (tH c))) (rollQ (bckH (tH c)) (tG c)))))), (wG (wH c (bckH (tH c))) (rollQ (bckH (tH c)) (tG c))))) (Option.bind (if (rs t 5) = 0 then (some (1 : Int32)) else (some (0 : Int32))) fun (r_5 : Int32) => Option.bind (some (ws t 9 r_5)) fun t_13 => if (rs t_13 9) ≤ 0 then (Option.bind (some (ws t_13 5 ((rs t_13 5) - 1))) fun t_32 => f_undo_L N N 0 t_32) else (some ((0 : Int32), t_13))) t := fun a b => by
    rw [if_pos a, if_pos b]
    exact PM.thr (u := ws t 9 1) (r := 0) rfl rfl rfl mem0 (h.same (same9 _))
  rcases h.2.2.2.1 with ⟨_, _, a, b⟩ | ⟨R, C, p, n, hG, hn, hQ, hH⟩
  · exact none a b
  · obtain ⟨z, z8, e1, e2, P, S, mono, H⟩ := hH
    rcases Nat.eq_zero_or_pos z with w | w
    · subst w; exact none e1 e2
    · obtain ⟨y, rfl⟩ : ∃ y, z = y + 1 := ⟨z - 1, by omega⟩
      obtain ⟨a1, a2, a3, a4, a5, a6, a7⟩ := H y (by omega)
      rw [if_neg (by rw [e1]; exact nI_ne0 (by omega) (by omega)), if_neg (by rw [e2]; exact nI_ne0 (by omega) (by omega)), Option.bind_some, Option.bind_some, rs_ws, if_pos rfl, if_pos le00, Option.bind_some, show rs (ws t 9 0) 5 = nI (y + 1) from e2, nI_pred]
      obtain ⟨u, k1, k2, k3⟩ := ud_loop (t := ws (ws t 9 0) 5 (nI y)) hN (show y < 8 by omega) rfl
      have hz : hZ (bckH (tH c)) = nI y := by
        show hZ (tH c) - 1 = _
        rw [e1, nI_pred]
      have er : rollQ (bckH (tH c)) (tG c) = (qG (tG c), (hB (tH c) y, nI (P y)), qS (tG c), qA (tG c), qL (tG c), qR (tG c), nI (S y)) := by
        unfold rollQ retQ
        rw [hz]
        show (qG (tG c), (longAtF 9 (hB (tH c)) (nI y), intAtF 9 (hP (tH c)) (nI y)), qS (tG c), qA (tG c), qL (tG c), qR (tG c), intAtF 9 (hS (tH c)) (nI y)) = _
        rw [longAt_at (show y < 9 by omega) (by decide), intAt_at (show y < 9 by omega) (by decide), intAt_at (show y < 9 by omega) (by decide), a1, a2]
      rw [er]
      refine PM.ans (r := nI y) (c' := wG (wH c (bckH (tH c))) (qG (tG c), (hB (tH c) y, nI (P y)), qS (tG c), qA (tG c), qL (tG c), qR (tG c), nI (S y))) k1 (show ro u = ro t from k2.2.2.2) ?_ (by rw [k2.s 9 rfl]; rfl) ?_
      · show Sum.inl (some (Value.int (hZ (bckH (tH c)))), _) = _
        rw [hz]
      · obtain ⟨h1, h2, h3, _, h5⟩ := h
        have s1 : ∀ i, i ≠ 1 → ra u i = ra t i := fun i hi => (k2.1 i (by simp; exact hi))
        have s2 : ∀ k, k ≠ 5 → k ≠ 9 → rs u k = rs t k := fun k q1 q2 => by
          rw [k2.2.1 k (by simp), rs_ws, if_neg q1, rs_ws, if_neg q2]
        refine ⟨?_, ?_, ?_, Or.inr ⟨R, C, P y, S y, ?_, a4, ?_, y, by omega, hz, ?_, P, S, fun i j q1 q2 => mono i j q1 (by omega), fun i hi => ?_⟩, ?_⟩
        · show ITx c u
          unfold ITx; rw [s2 11 (by decide) (by decide), s1 5 (by decide)]; exact h1
        · show KTx c u
          unfold KTx; rw [s2 6 (by decide) (by decide), s2 7 (by decide) (by decide), s2 8 (by decide) (by decide)]; exact h2
        · show OTx c u
          unfold OTx; rw [s2 33 (by decide) (by decide), s2 34 (by decide) (by decide), s1 18 (by decide)]; exact h3
        · exact ⟨hG.1, rfl, rfl, by omega, a5, fun i hi h4 => hG.2.2.2.2.2.1 i (by omega) h4, fun _ => a6⟩
        · exact a7.cong (fun k hk => by rw [k3 k hk]; rfl) fun _ _ _ => rfl
        · rw [k2.2.1 5 (by simp)]; rfl
        · obtain ⟨b1, b2, b3, b4, b5, b6, b7⟩ := H i (by omega)
          refine ⟨b1, b2, mono i y (by omega) (by omega), b4, b5, b6, ?_⟩
          rw [s1 4 (by decide)]; exact b7
        · show STx c u
          unfold STx; rw [s2 3 (by decide) (by decide), s1 2 (by decide)]; exact h5
theorem cp_ok (f : Nat → Int32) : ∀ (n k : Nat) (h : Nat → Int32), k + n ≤ 400 → (∀ i, i < k → cpL f n k h i = h i) ∧ ∀ i, k ≤ i → i < k + n → cpL f n k h i = f i := by
  intro n
  induction n with
  | zero => intro k h _; exact ⟨fun _ _ => rfl, fun i h1 h2 => by omega⟩
  | succ n ih =>
    intro k h hk
    unfold cpL
    rw [intAt_at (show k < 400 by omega) (by decide), setI_at (show k < 400 by omega) (by decide)]
    obtain ⟨i1, i2⟩ := ih (k + 1) (upd h k (f k)) (by omega)
    refine ⟨fun i hi => by rw [i1 i (by omega), pk_un (by omega)], fun i h1 h2 => ?_⟩
    rcases Nat.eq_or_lt_of_le h1 with z | z
    · subst z; rw [i1 k (by omega), pk_us]
    · exact i2 i z (by omega)
theorem GI.copy {q s : GmT} {R C p n : Nat} (hG : GI q R C p n) (hn : n ≤ 400) : GI (cpQ s q n) R C p n ∧ ∀ i, i < n → qR (cpQ s q n) i = qR q i := by
  have cp : ∀ i, i < n → qR (cpQ s q n) i = qR q i := fun i hi => (cp_ok (qR q) n 0 (qR s) (by omega)).2 i (by omega) (by omega)
  obtain ⟨g1, g2, g3, g4, g5, g6, g7⟩ := hG
  refine ⟨⟨g1, g2, g3, g4, g5, fun i hi h4 => by rw [cp i hi]; exact g6 i hi h4, fun _ => ?_⟩, cp⟩
  show rp (qG q) (qR (cpQ s q n)) (qS q) n = some (qN q)
  rw [rp_cong n cp]; exact g7 hn
theorem pm_saveSnapshot {c : cT} {t : xT} (h : ReL c t) {N : Nat} (hN : 10000 ≤ N) : PM [(xISE, 1)] (o_saveSnapshot c) (f_saveSnapshot N t) t := by
  unfold o_saveSnapshot f_saveSnapshot
  rcases h.room with ⟨r1, _, r2, _⟩ | ⟨r1, r2, R, C, p, n, hG, hn, hQ, hH⟩
  · rw [r1, r2]
    exact PM.thr (u := ws t 9 1) (r := 0) rfl rfl rfl mem0 (h.same (same9 _))
  · rw [r1, if_pos rfl, r2, Option.bind_some, if_neg n10, Option.bind_some, Option.bind_some, rs_ws, if_pos rfl, if_pos le00, Option.bind_some]
    have en : (qC (tG c)).toNatClampNeg = n := by rw [hG.2.2.1, nI_clamp (by omega)]
    rw [en]
    have loop : ∀ (m k r : Nat) (t : xT), k + m = 602 → (∀ i, i < k → ra t 2 i = ra t 1 i) → ∃ u, f_saveSnapshot_L N (r + 1 + m) (nI k) t = some (ra t 1 4, u) ∧ Frm [2] [] t u ∧ ∀ i, i < 602 → ra u 2 i = ra t 1 i := by
      intro m
      induction m with
      | zero =>
        intro k r t hk h
        refine ⟨t, ?_, Frm.rf, fun i hi => h i (by omega)⟩
        rw [Nat.add_zero, u_saveSnapshot_32, if_pos (l602 (by omega) (by omega)), cl_4]
      | succ m ih =>
        intro k r t hk h
        obtain ⟨u, e, f, q⟩ := ih (k + 1) r (wa t 2 (upd (ra t 2) k (ra t 1 k))) (by omega) fun i hi => by
          show upd (ra t 2) k (ra t 1 k) i = _
          rw [upd_at]
          by_cases w : i = k
          · rw [if_pos w, w]; rfl
          · rw [if_neg w]; exact h i (by omega)
        refine ⟨u, ?_, (Frm.wa Frm.rf (by decide) _).trans f, q⟩
        rw [show r + 1 + (m + 1) = r + 1 + m + 1 by omega, u_saveSnapshot_32, if_neg (g602 (by omega)), if_pos (inB_nI (by omega) (by decide)), if_pos (inB_nI (by omega) (by decide)), Option.bind_some, nI_clamp (by omega), nI_1, e]; rfl
    obtain ⟨r, hr⟩ : ∃ r, N = r + 1 + 602 := ⟨N - 603, by omega⟩
    obtain ⟨u, k1, k2, k3⟩ := loop 602 0 r (ws (ws t 9 0) 3 1) (by omega) fun i hi => by omega
    rw [nI_0, ← hr] at k1
    obtain ⟨g1, g2⟩ := hG.copy (s := tS c) hn
    refine PM.ans (c' := wS c (cpQ (tS c) (tG c) n)) (r := ra t 1 4) k1 (show ro u = ro t from k2.2.2.2) ?_ (by rw [k2.s 9 rfl]; rfl) ?_
    · show Sum.inl (some (Value.int (qC (tG c))), _) = _
      rw [hG.2.2.1, hQ.2.2.2.1]
    · obtain ⟨h1, h2, h3, h4, _⟩ := h
      have s1 : ∀ i, i ≠ 2 → ra u i = ra t i := fun i hi => (k2.1 i (by simp; exact hi))
      have s2 : ∀ k, k ≠ 3 → k ≠ 9 → rs u k = rs t k := fun k q1 q2 => by
        rw [k2.2.1 k (by simp), rs_ws, if_neg q1, rs_ws, if_neg q2]
      refine ⟨?_, ?_, ?_, Or.inr ⟨R, C, p, n, hG, hn, ?_, ?_⟩, Or.inr ⟨R, C, p, n, g1, hn, hQ.cong (fun k hk => k3 k hk) fun i hi _ => g2 i hi, ?_⟩⟩
      · show ITx c u
        unfold ITx; rw [s2 11 (by decide) (by decide), s1 5 (by decide)]; exact h1
      · show KTx c u
        unfold KTx; rw [s2 6 (by decide) (by decide), s2 7 (by decide) (by decide), s2 8 (by decide) (by decide)]; exact h2
      · show OTx c u
        unfold OTx; rw [s2 33 (by decide) (by decide), s2 34 (by decide) (by decide), s1 18 (by decide)]; exact h3
      · show RQ (ra u 1) _ _ _ _ _ _ _
        rw [s1 1 (by decide)]; exact hQ
      · exact hH.cong rfl rfl (fun _ _ => rfl) (Nat.le_refl _) (s1 4 (by decide)) (s2 5 (by decide) (by decide))
      · rw [k2.2.1 3 (by simp)]; rfl
theorem pm_restoreSnapshot {c : cT} {t : xT} (h : ReL c t) {N : Nat} (hN : 10000 ≤ N) : PM [(xISE, 1)] (o_restoreSnapshot c) (f_restoreSnapshot N t) t := by
  unfold o_restoreSnapshot f_restoreSnapshot
  rcases h.2.2.2.2 with ⟨a, b, _⟩ | ⟨R, C, p, n, hG, hn, hQ, h3⟩
  · rw [a, b]
    exact PM.thr (u := ws t 9 1) (r := 0) rfl rfl rfl mem0 (h.same (same9 _))
  · have r1 : decide (0 < gR (qG (tS c))) = true := by
      have ok := hG.1
      rw [ok.2.1]
      have h3 := ok.1.1
      exact decide_eq_true (nI_lt (a := 0) (by omega) (by omega))
    rw [r1, if_pos rfl, h3, if_neg n10, Option.bind_some, Option.bind_some, rs_ws, if_pos rfl, if_pos le00]
    have en : (qC (tS c)).toNatClampNeg = n := by rw [hG.2.2.1, nI_clamp (by omega)]
    rw [en]
    have loop : ∀ (m k r : Nat) (t : xT), k + m = 602 → (∀ i, i < k → ra t 1 i = ra t 2 i) → ∃ u, f_restoreSnapshot_L N (r + 1 + m) (nI k) t = some (ra t 2 4, u) ∧ Frm [1] [5] t u ∧ rs u 5 = 0 ∧ ∀ i, i < 602 → ra u 1 i = ra t 2 i := by
      intro m
      induction m with
      | zero =>
        intro k r t hk h
        refine ⟨ws t 5 0, ?_, Frm.ws Frm.rf (by decide) _, rfl, fun i hi => h i (by omega)⟩
        rw [Nat.add_zero, u_restoreSnapshot_27, if_pos (l602 (by omega) (by omega)), Option.bind_some, cl_4, show ra (ws t 5 0) 1 4 = ra t 2 4 from h 4 (by omega)]
      | succ m ih =>
        intro k r t hk h
        obtain ⟨u, e, f, q⟩ := ih (k + 1) r (wa t 1 (upd (ra t 1) k (ra t 2 k))) (by omega) fun i hi => by
          show upd (ra t 1) k (ra t 2 k) i = _
          rw [upd_at]
          by_cases w : i = k
          · rw [if_pos w, w]; rfl
          · rw [if_neg w]; exact h i (by omega)
        refine ⟨u, ?_, (Frm.wa Frm.rf (by decide) _).trans f, q⟩
        rw [show r + 1 + (m + 1) = r + 1 + m + 1 by omega, u_restoreSnapshot_27, if_neg (g602 (by omega)), if_pos (inB_nI (by omega) (by decide)), if_pos (inB_nI (by omega) (by decide)), Option.bind_some, nI_clamp (by omega), nI_1, e]; rfl
    obtain ⟨r, hr⟩ : ∃ r, N = r + 1 + 602 := ⟨N - 603, by omega⟩
    obtain ⟨u, k1, k2, k4, k3⟩ := loop 602 0 r (ws t 9 0) (by omega) fun i hi => by omega
    rw [nI_0, ← hr] at k1
    obtain ⟨g1, g2⟩ := hG.copy (s := tG c) hn
    refine PM.ans (r := ra t 2 4) (c' := wH (wG c (cpQ (tG c) (tS c) n)) (hB (tH c), hP (tH c), hS (tH c), 0)) k1 (show ro u = ro t from k2.2.2.2) ?_ (by rw [k2.s 9 rfl]; rfl) ?_
    · show Sum.inl (some (Value.int (qC (tS c))), _) = _
      rw [hG.2.2.1, hQ.2.2.2.1]; rfl
    · obtain ⟨h1, h2, h3', h4, h5⟩ := h
      have s1 : ∀ i, i ≠ 1 → ra u i = ra t i := fun i hi => (k2.1 i (by simp; exact hi))
      have s2 : ∀ k, k ≠ 5 → k ≠ 9 → rs u k = rs t k := fun k q1 q2 => by
        rw [k2.2.1 k (by simp; exact q1), rs_ws, if_neg q2]
      refine ⟨?_, ?_, ?_, Or.inr ⟨R, C, p, n, g1, hn, hQ.cong (fun k hk => k3 k hk) fun i hi _ => g2 i hi, 0, by omega, rfl, k4, fun _ => 0, fun _ => 0, fun i j _ q => by omega, fun i hi => by omega⟩, ?_⟩
      · show ITx c u
        unfold ITx; rw [s2 11 (by decide) (by decide), s1 5 (by decide)]; exact h1
      · show KTx c u
        unfold KTx; rw [s2 6 (by decide) (by decide), s2 7 (by decide) (by decide), s2 8 (by decide) (by decide)]; exact h2
      · show OTx c u
        unfold OTx; rw [s2 33 (by decide) (by decide), s2 34 (by decide) (by decide), s1 18 (by decide)]; exact h3'
      · show STx c u
        unfold STx; rw [s2 3 (by decide) (by decide), s1 2 (by decide)]; exact h5
