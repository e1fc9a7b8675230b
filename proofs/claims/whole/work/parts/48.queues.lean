/-! the model's queues -/
def wQ (A : Nat) (t : xT) (Q S : Nat → Int32) (n : Int32) : xT := ws (wa (wa t A S) 6 Q) 16 n
theorem wQ_Q (A : Nat) (t : xT) (Q S : Nat → Int32) (n : Int32) : ra (wQ A t Q S n) 6 = Q := rfl
theorem wQ_n (A : Nat) (t : xT) (Q S : Nat → Int32) (n : Int32) : rs (wQ A t Q S n) 16 = n := rfl
theorem wQ_S {A : Nat} (h : A ≠ 6) (t : xT) (Q S : Nat → Int32) (n : Int32) : ra (wQ A t Q S n) A = S := by
  unfold wQ; rw [ra_ws, ra_wa, if_neg h, ra_wa, if_pos rfl]
theorem wQ_o {A i : Nat} (h : i ≠ A) (h6 : i ≠ 6) (t : xT) (Q S : Nat → Int32) (n : Int32) : ra (wQ A t Q S n) i = ra t i := by
  unfold wQ; rw [ra_ws, ra_wa, if_neg h6, ra_wa, if_neg h]
theorem wQ_s {A k : Nat} (h : k ≠ 16) (t : xT) (Q S : Nat → Int32) (n : Int32) : rs (wQ A t Q S n) k = rs t k := by
  unfold wQ; rw [rs_ws, if_neg h]; rfl
theorem wQ_wn (A : Nat) (t : xT) (Q S : Nat → Int32) (n n' : Int32) : ws (wQ A t Q S n) 16 n' = wQ A t Q S n' := by
  unfold wQ; rw [ws_ws]
theorem wQ_wQ (A : Nat) (t : xT) (Q S Q' : Nat → Int32) (n : Int32) : wa (wQ A t Q S n) 6 Q' = wQ A t Q' S n := by
  unfold wQ; rw [← wa_ws, wa_wa]
theorem wQ_wS {A : Nat} (h : A ≠ 6) (t : xT) (Q S S' : Nat → Int32) (n : Int32) : wa (wQ A t Q S n) A S' = wQ A t Q S' n := by
  unfold wQ; rw [← wa_ws, wa_co _ (Ne.symm h), wa_wa]
theorem wQ_eta {A : Nat} (h : A ≠ 6) (t : xT) : t = wQ A t (ra t 6) (ra t A) (rs t 16) := by
  unfold wQ; rw [wa_ra, wa_ra, ws_rs]
def Rel (RCn : Nat) (Q S : Nat → Int32) (n : Int32) (X : bX) : Prop := n = nI X.2.1 ∧ (∀ j, j < X.2.1 → Q j = nI (X.1 j)) ∧ (∀ c, c < RCn → S c = sz (X.2.2 c))
theorem sz_neg {k : Nat} (h : k < 64 ∨ k = 99) : (0 ≤ sz k) ↔ k < 64 := by
  rcases h with h | h
  · rw [sz_nI h]; exact ⟨fun _ => h, fun _ => nI_pos' (by omega)⟩
  · subst h; decide
theorem bf_s {a : Nat} {X : bX} (h : bI1 a X) (c : Nat) : X.2.2 c < 64 ∨ X.2.2 c = 99 := by
  have := h.n64
  rcases h.2.2.2.2.2.1 c with w | ⟨j, hj, w⟩
  · exact Or.inr w
  · rw [← w]; exact Or.inl (Nat.lt_of_le_of_lt (h.2.2.2.1 j hj).2 (by omega))
theorem bf_rc {adj : Nat → Nat → Nat} {a i d RCn : Nat} {X : bX} (h1 : bI1 a X) (h2 : bI2 adj a i d X) (ha : a < RCn) (hadj : ∀ c d, adj c d < 64 → adj c d < RCn) {j : Nat} (hj : j < X.2.1) : X.1 j < RCn := by
  rcases h2.1 j hj with w | ⟨m, e, _, _, w, _⟩
  · rw [w]; exact ha
  · have := (h1.2.2.2.1 j hj).1
    rw [← w] at this ⊢
    exact hadj _ _ this
theorem rel_add {adj : Nat → Nat → Nat} {a i d RCn : Nat} {X : bX} {Q S : Nat → Int32} {nn : Int32} (h1 : bI1 a X) (hi : i < X.2.1) (hr : Rel RCn Q S nn X) (hc : X.1 i < RCn) (he : adj (X.1 i) d < 64) (hs : X.2.2 (adj (X.1 i) d) = 99) (h64 : (bfS adj (X.1 i) d X).2.1 ≤ 64) : X.2.1 < 64 ∧ Rel RCn (upd Q X.2.1 (nI (adj (X.1 i) d))) (upd S (adj (X.1 i) d) (S (X.1 i) + 1)) (nI X.2.1 + 1) (bfS adj (X.1 i) d X) := by
  obtain ⟨r1, r2, r3⟩ := hr
  have e : bfS adj (X.1 i) d X = (fun j => if j = X.2.1 then adj (X.1 i) d else X.1 j, X.2.1 + 1, fun x => if x = adj (X.1 i) d then X.2.2 (X.1 i) + 1 else X.2.2 x) := by
    unfold bfS; rw [if_pos ⟨he, hs⟩]
  rw [e] at h64 ⊢
  simp only at h64
  have s1 := (h1.2.2.2.1 i hi).2
  refine ⟨by omega, nI_1 _, fun j hj => ?_, fun c hcc => ?_⟩
  · simp only at hj ⊢
    by_cases z : j = X.2.1
    · rw [if_pos z, z]; exact pk_us
    · rw [if_neg z, pk_un z]; exact r2 j (by omega)
  · simp only
    by_cases z : c = adj (X.1 i) d
    · rw [if_pos z, z, pk_us, r3 _ hc, sz_nI (by omega), sz_nI (by omega), nI_1]
    · rw [if_neg z, pk_un z]; exact r3 c hcc
theorem rel_same {adj : Nat → Nat → Nat} {i d : Nat} {X : bX} (h : ¬ (adj (X.1 i) d < 64 ∧ X.2.2 (adj (X.1 i) d) = 99)) : bfS adj (X.1 i) d X = X := by
  unfold bfS; rw [if_neg h]
theorem b0f : (bI false = 0) = True := eq_true rfl
theorem b0t : (bI true = 0) = False := eq_false (by decide)
theorem n4 {d : Nat} (h : d < 4) : (4 ≤ nI d) = False := eq_false (nI_ge (b := 4) h (by decide))
theorem n44 : ((4 : Int32) ≤ nI 4) = True := eq_true (by decide)
def fil (n : Nat) (S : Nat → Int32) (k : Nat) : Nat → Int32 := fun j => if k ≤ j ∧ j < n then -1 else S j
def adjW (g : gT) (R C : Nat) (b : Int64) (c d : Nat) : Nat := if (tb (gO g) (nb R C c d) && !tb b (nb R C c d)) = true then nb R C c d else 64

/-! walksFrom -/
theorem wk_adj {g : gT} {R C : Nat} (ok : GOk g R C) (b : Int64) (c d : Nat) (h : adjW g R C b c d < 64) : adjW g R C b c d < R * C := by
  unfold adjW at h ⊢
  split at h
  · rename_i q
    rw [if_pos q]
    refine ok.open_lt ?_
    rw [and_t] at q; exact q.1
  · omega
theorem wk_step {t : xT} {g : gT} {R C : Nat} {b : Int64} (ok : GOk g R C) (hM : GR (ra t 1) g R C) (hB : GB (ra t 1) b) {a i d : Nat} {X : bX} (h1 : bI1 a X) (h2 : bI2 (adjW g R C b) a i d X) (hi : i < X.2.1) (hd : d < 4) (ha : a < R * C) {Q S : Nat → Int32} {nn : Int32} (hr : Rel (R * C) Q S nn X) (N n : Nat) : ∃ Q' S' n', f_walksFrom_L N (n + 1) 54 0 (nI i) (nI d) (wQ 7 t Q S nn) = f_walksFrom_L N n 54 0 (nI i) (nI (d + 1)) (wQ 7 t Q' S' n') ∧ Rel (R * C) Q' S' n' (bfS (adjW g R C b) (X.1 i) d X) := by
  have h64 := (bfS_ok h1 h2 hi hd).1.n64
  have i64 := h1.n64
  have hc := bf_rc h1 h2 ha (wk_adj ok b) hi
  have hr0 := hr
  obtain ⟨r1, r2, r3⟩ := hr
  have hle := ok.rc.le
  have hM' : GR (ra (wQ 7 t Q S nn) 1) g R C := hM
  have hB' : GB (ra (wQ 7 t Q S nn) 1) b := hB
  have ci : (nI i).toNatClampNeg = i := nI_clamp (by omega)
  have hq := r2 i hi
  have cc : (nI (X.1 i)).toNatClampNeg = X.1 i := nI_clamp (by omega)
  have d1 : nI d + 1 = nI (d + 1) := nI_1 d
  have bi : inB (nI i) 64 = true := inB_nI (by omega) (by decide)
  rw [u_walksFrom_54]
  have hb := m_bes ok.rc hM' hc hd
  have ho := m_open hM' (nb_le ok.rc hc hd)
  have hx := m_box hB' (nb_le ok.rc hc hd)
  generalize hE : nb R C (X.1 i) d = e at hb ho hx
  have ea : adjW g R C b (X.1 i) d = if (tb (gO g) e && !tb b e) = true then e else 64 := by unfold adjW; rw [hE]
  simp only [n4 hd, if_false, bi, if_true, wQ_Q, ci, hq, hb, Option.bind_some, ho, d1]
  cases hO : tb (gO g) e with
  | false =>
    simp only [b0f, if_true, Option.bind_some]
    exact ⟨Q, S, nn, rfl, by rw [rel_same (by rw [ea, hO]; simp)]; exact hr0⟩
  | true =>
    have el : e < 64 := tb_lt hO
    have er := ok.open_lt hO
    simp only [b0t, if_false, hx, Option.bind_some]
    cases hX : tb b e with
    | true =>
      simp only [b0t, if_false, Option.bind_some]
      exact ⟨Q, S, nn, rfl, by rw [rel_same (by rw [ea, hO, hX]; simp)]; exact hr0⟩
    | false =>
      have ea : adjW g R C b (X.1 i) d = e := by rw [ea, hO, hX]; rfl
      have ce : (nI e).toNatClampNeg = e := nI_clamp (by omega)
      simp only [b0f, if_true, bz_nI el, inB_nI el (show 64 < 2 ^ 31 by decide), wQ_S (show 7 ≠ 6 by decide), ce, r3 e er, inB_nI (show X.1 i < 64 by omega) (show 64 < 2 ^ 31 by decide), cc]
      rcases bf_s h1 e with w | w
      · simp only [eq_true ((sz_neg (Or.inl w)).mpr w), if_true, Option.bind_some]
        exact ⟨Q, S, nn, rfl, by rw [rel_same (by rw [ea]; omega)]; exact hr0⟩
      · obtain ⟨q1, q2⟩ := rel_add h1 hi hr0 hc (by rw [ea]; exact el) (by rw [ea]; exact w) h64
        rw [ea] at q2
        have cn : (nI X.2.1).toNatClampNeg = X.2.1 := nI_clamp (by omega)
        simp only [show (0 ≤ sz (X.2.2 e)) = False from eq_false (fun z => by have := (sz_neg (Or.inr w)).mp z; omega), if_false, Option.bind_some, wQ_wS (show 7 ≠ 6 by decide), wQ_n, r1, inB_nI q1 (show 64 < 2 ^ 31 by decide), if_true, wQ_Q, cn, wQ_wQ, wQ_wn]
        exact ⟨_, _, _, rfl, q2⟩
theorem wk_dirs {t : xT} {g : gT} {R C : Nat} {b : Int64} (ok : GOk g R C) (hM : GR (ra t 1) g R C) (hB : GB (ra t 1) b) {a i c : Nat} (ha : a < R * C) (N n : Nat) : ∀ (k d : Nat) (X : bX) (Q S : Nat → Int32) (nn : Int32), bI1 a X → bI2 (adjW g R C b) a i d X → i < X.2.1 → d + k = 4 → X.1 i = c → Rel (R * C) Q S nn X → ∃ Q' S' n', f_walksFrom_L N (n + k) 54 0 (nI i) (nI d) (wQ 7 t Q S nn) = f_walksFrom_L N n 54 0 (nI i) (nI 4) (wQ 7 t Q' S' n') ∧ Rel (R * C) Q' S' n' (bfD (adjW g R C b) c k d X) := by
  intro k
  induction k with
  | zero =>
    intro d X Q S nn h1 h2 hi hd _ hr
    have : d = 4 := by omega
    subst this
    exact ⟨Q, S, nn, rfl, hr⟩
  | succ k ih =>
    intro d X Q S nn h1 h2 hi hd hq hr
    obtain ⟨Q1, S1, n1, e1, r1⟩ := wk_step ok hM hB h1 h2 hi (by omega) ha hr N (n + k)
    obtain ⟨s1, s2, s3, s4⟩ := bfS_ok h1 h2 hi (by omega)
    rw [hq] at s1 s2 s3 s4 r1
    obtain ⟨Q2, S2, n2, e2, r2⟩ := ih (d + 1) _ Q1 S1 n1 s1 s2 (Nat.lt_of_lt_of_le hi s3) (by omega) s4 r1
    exact ⟨Q2, S2, n2, by rw [← Nat.add_assoc, e1, e2], r2⟩
theorem wk_loop {t : xT} {g : gT} {R C : Nat} {b : Int64} (ok : GOk g R C) (hM : GR (ra t 1) g R C) (hB : GB (ra t 1) b) {a : Nat} (ha : a < R * C) (N n : Nat) : ∀ (f i : Nat) (X : bX) (Q S : Nat → Int32) (nn : Int32), bI1 a X → bI2 (adjW g R C b) a i 0 X → 65 ≤ f + i → i ≤ 64 → Rel (R * C) Q S nn X → ∃ Q' S' n', f_walksFrom_L N (n + 1 + 6 * f) 44 0 (nI i) 0 (wQ 7 t Q S nn) = some (wQ 7 t Q' S' n') ∧ Rel (R * C) Q' S' n' (bfL (adjW g R C b) f i X) := by
  intro f
  induction f with
  | zero => intro i X Q S nn h1 h2 hf hi; omega
  | succ f ih =>
    intro i X Q S nn h1 h2 hf hi hr
    have n64 := h1.n64
    rw [show n + 1 + 6 * (f + 1) = (n + 1 + 6 * f + 1 + 4) + 1 by omega, u_walksFrom_44, wQ_n, hr.1]
    unfold bfL
    by_cases q : i < X.2.1
    · rw [if_neg (nI_ge q (by omega)), if_pos q]
      obtain ⟨Q1, S1, n1, e1, r1⟩ := wk_dirs ok hM hB ha N (n + 1 + 6 * f + 1) 4 0 X Q S _ h1 h2 q rfl rfl hr
      obtain ⟨t1, t2, t3⟩ := bfD_ok 4 0 X h1 h2 q rfl rfl
      rw [nI_0] at e1
      rw [← hr.1, e1, u_walksFrom_54]
      simp only [n44, if_true, nI_1]
      have i64 : i + 1 ≤ 64 := by omega
      exact ih (i + 1) _ Q1 S1 n1 t1 (t2.next t1) (by omega) i64 r1
    · rw [if_pos (nI_le (by omega) (by omega)), if_neg q]
      exact ⟨Q, S, nn, by rw [hr.1], hr⟩
theorem wk_fill {t : xT} {g : gT} {R C : Nat} (ok : GOk g R C) (hM : GR (ra t 1) g R C) (v : Int32) (N n : Nat) : ∀ (m k : Nat) (S : Nat → Int32), k + m = R * C → f_walksFrom_L N (n + m) 2 v (nI k) 0 (wa t 7 S) = f_walksFrom_L N n 2 v (nI (R * C)) 0 (wa t 7 (fil (R * C) S k)) := by
  intro m
  induction m with
  | zero =>
    intro k S hk
    have : k = R * C := by omega
    subst this
    have : fil (R * C) S (R * C) = S := by
      funext j; unfold fil; rw [if_neg (by omega)]
    rw [this]; rfl
  | succ m ih =>
    intro k S hk
    have hle := ok.rc.le
    have hM' : GR (ra (wa t 7 S) 1) g R C := hM
    rw [← Nat.add_assoc, u_walksFrom_2, m_size hM', if_neg (nI_ge (by omega) (by omega)), if_pos (inB_nI (by omega) (by decide)), Option.bind_some, nI_clamp (by omega), nI_1, wa_wa, ra_wa, if_pos rfl, ih (k + 1) _ (by omega)]
    have : fil (R * C) (upd S k (-1)) (k + 1) = fil (R * C) S k := by
      funext j
      unfold fil
      by_cases z : j = k
      · subst z; rw [if_neg (by omega), if_pos (by omega), pk_us]
      · rw [pk_un z]
        by_cases w : k ≤ j ∧ j < R * C
        · rw [if_pos w, if_pos (by omega)]
        · rw [if_neg w, if_neg (by omega)]
    rw [this]
theorem m_walksFrom {t : xT} {g : gT} {R C : Nat} {b : Int64} (ok : GOk g R C) (hM : GR (ra t 1) g R C) (hB : GB (ra t 1) b) {a : Nat} (ha : a < R * C) {N : Nat} (hN : 10000 ≤ N) : ∃ Q S nn, f_walksFrom N t (nI a) = some (wQ 7 t Q S nn) ∧ Rel (R * C) Q S nn (bfR (adjW g R C b) a) := by
  have hle := ok.rc.le
  obtain ⟨n, rfl⟩ : ∃ n, N = (n + 1 + 6 * 65 + 1) + R * C := ⟨N - (R * C + 392), by omega⟩
  generalize hN' : n + 1 + 6 * 65 + 1 + R * C = N'
  obtain ⟨z1, z2⟩ := bf0_ok (adj := adjW g R C b) (a := a) (by omega)
  have hM1 : GR (ra (wa t 7 (fil (R * C) (ra t 7) 0)) 1) g R C := hM
  have e0 := wk_fill ok hM (nI a) N' (n + 1 + 6 * 65 + 1) (R * C) 0 (ra t 7) (by omega)
  rw [hN', wa_ra] at e0
  have rel0 : Rel (R * C) (upd (ra t 6) 0 (nI a)) (upd (fil (R * C) (ra t 7) 0) a 0) 1 (bf0 a) := by
    refine ⟨rfl, fun j hj => ?_, fun c hc => ?_⟩
    · have : j = 0 := by unfold bf0 at hj; simp only at hj; omega
      subst this; exact pk_us
    · unfold bf0
      simp only
      by_cases z : c = a
      · rw [if_pos z, z, pk_us]; rfl
      · rw [if_neg z, pk_un z]; unfold fil; rw [if_pos (by omega)]; rfl
  obtain ⟨Q, S, nn, e1, r1⟩ := wk_loop ok hM hB ha N' n 65 0 (bf0 a) _ _ _ z1 z2 (by omega) (by omega) rel0
  refine ⟨Q, S, nn, ?_, r1⟩
  unfold f_walksFrom
  rw [nI_0] at e0 e1
  rw [e0, u_walksFrom_2, m_size hM1, if_pos (nI_le (Nat.le_refl _) (by omega)), if_pos (inB_nI (by omega) (by decide)), Option.bind_some, Option.bind_some, Option.bind_some, nI_clamp (by omega), cl_0, ra_wa, if_pos rfl, wa_wa, ra_wa, if_neg (by decide), ← e1]
  rfl
def adjO (g : gT) (R C : Nat) (c d : Nat) : Nat := if tb (gO g) (nb R C c d) = true then nb R C c d else 64

/-! plainSteps -/
theorem po_adj {g : gT} {R C : Nat} (ok : GOk g R C) (c d : Nat) (h : adjO g R C c d < 64) : adjO g R C c d < R * C := by
  unfold adjO at h ⊢
  split at h
  · rename_i q
    rw [if_pos q]
    refine ok.open_lt ?_
    exact q
  · omega
theorem po_step {t : xT} {g : gT} {R C : Nat}  (ok : GOk g R C) (hM : GR (ra t 1) g R C) {a i d : Nat} {X : bX} (h1 : bI1 a X) (h2 : bI2 (adjO g R C) a i d X) (hi : i < X.2.1) (hd : d < 4) (ha : a < R * C) {Q S : Nat → Int32} {nn : Int32} (hr : Rel (R * C) Q S nn X) (N n : Nat) : ∃ Q' S' n', f_plainSteps_L N (n + 1) 54 0 (nI i) (nI d) (wQ 7 t Q S nn) = f_plainSteps_L N n 54 0 (nI i) (nI (d + 1)) (wQ 7 t Q' S' n') ∧ Rel (R * C) Q' S' n' (bfS (adjO g R C) (X.1 i) d X) := by
  have h64 := (bfS_ok h1 h2 hi hd).1.n64
  have i64 := h1.n64
  have hc := bf_rc h1 h2 ha (po_adj ok ) hi
  have hr0 := hr
  obtain ⟨r1, r2, r3⟩ := hr
  have hle := ok.rc.le
  have hM' : GR (ra (wQ 7 t Q S nn) 1) g R C := hM
  have ci : (nI i).toNatClampNeg = i := nI_clamp (by omega)
  have hq := r2 i hi
  have cc : (nI (X.1 i)).toNatClampNeg = X.1 i := nI_clamp (by omega)
  have d1 : nI d + 1 = nI (d + 1) := nI_1 d
  have bi : inB (nI i) 64 = true := inB_nI (by omega) (by decide)
  rw [u_plainSteps_54]
  have hb := m_bes ok.rc hM' hc hd
  have ho := m_open hM' (nb_le ok.rc hc hd)
  generalize hE : nb R C (X.1 i) d = e at hb ho
  have ea : adjO g R C (X.1 i) d = if tb (gO g) e = true then e else 64 := by unfold adjO; rw [hE]
  simp only [n4 hd, if_false, bi, if_true, wQ_Q, ci, hq, hb, Option.bind_some, ho, d1]
  cases hO : tb (gO g) e with
  | false =>
    simp only [b0f, if_true, Option.bind_some]
    exact ⟨Q, S, nn, rfl, by rw [rel_same (by rw [ea, hO]; simp)]; exact hr0⟩
  | true =>
    have el : e < 64 := tb_lt hO
    have er := ok.open_lt hO
    have ea : adjO g R C (X.1 i) d = e := by rw [ea, hO]; rfl
    have ce : (nI e).toNatClampNeg = e := nI_clamp (by omega)
    simp only [b0t, if_false, if_true, bz_nI el, inB_nI el (show 64 < 2 ^ 31 by decide), wQ_S (show 7 ≠ 6 by decide), ce, r3 e er, inB_nI (show X.1 i < 64 by omega) (show 64 < 2 ^ 31 by decide), cc]
    rcases bf_s h1 e with w | w
    · simp only [eq_true ((sz_neg (Or.inl w)).mpr w), if_true, Option.bind_some]
      exact ⟨Q, S, nn, rfl, by rw [rel_same (by rw [ea]; omega)]; exact hr0⟩
    · obtain ⟨q1, q2⟩ := rel_add h1 hi hr0 hc (by rw [ea]; exact el) (by rw [ea]; exact w) h64
      rw [ea] at q2
      have cn : (nI X.2.1).toNatClampNeg = X.2.1 := nI_clamp (by omega)
      simp only [show (0 ≤ sz (X.2.2 e)) = False from eq_false (fun z => by have := (sz_neg (Or.inr w)).mp z; omega), if_false, Option.bind_some, wQ_wS (show 7 ≠ 6 by decide), wQ_n, r1, inB_nI q1 (show 64 < 2 ^ 31 by decide), if_true, wQ_Q, cn, wQ_wQ, wQ_wn]
      exact ⟨_, _, _, rfl, q2⟩
theorem po_dirs {t : xT} {g : gT} {R C : Nat}  (ok : GOk g R C) (hM : GR (ra t 1) g R C) {a i c : Nat} (ha : a < R * C) (N n : Nat) : ∀ (k d : Nat) (X : bX) (Q S : Nat → Int32) (nn : Int32), bI1 a X → bI2 (adjO g R C) a i d X → i < X.2.1 → d + k = 4 → X.1 i = c → Rel (R * C) Q S nn X → ∃ Q' S' n', f_plainSteps_L N (n + k) 54 0 (nI i) (nI d) (wQ 7 t Q S nn) = f_plainSteps_L N n 54 0 (nI i) (nI 4) (wQ 7 t Q' S' n') ∧ Rel (R * C) Q' S' n' (bfD (adjO g R C) c k d X) := by
  intro k
  induction k with
  | zero =>
    intro d X Q S nn h1 h2 hi hd _ hr
    have : d = 4 := by omega
    subst this
    exact ⟨Q, S, nn, rfl, hr⟩
  | succ k ih =>
    intro d X Q S nn h1 h2 hi hd hq hr
    obtain ⟨Q1, S1, n1, e1, r1⟩ := po_step ok hM h1 h2 hi (by omega) ha hr N (n + k)
    obtain ⟨s1, s2, s3, s4⟩ := bfS_ok h1 h2 hi (by omega)
    rw [hq] at s1 s2 s3 s4 r1
    obtain ⟨Q2, S2, n2, e2, r2⟩ := ih (d + 1) _ Q1 S1 n1 s1 s2 (Nat.lt_of_lt_of_le hi s3) (by omega) s4 r1
    exact ⟨Q2, S2, n2, by rw [← Nat.add_assoc, e1, e2], r2⟩
theorem po_loop {t : xT} {g : gT} {R C : Nat}  (ok : GOk g R C) (hM : GR (ra t 1) g R C) {a : Nat} (ha : a < R * C) (N n : Nat) : ∀ (f i : Nat) (X : bX) (Q S : Nat → Int32) (nn : Int32), bI1 a X → bI2 (adjO g R C) a i 0 X → 65 ≤ f + i → i ≤ 64 → Rel (R * C) Q S nn X → ∃ Q' S' n', f_plainSteps_L N (n + 1 + 6 * f) 44 0 (nI i) 0 (wQ 7 t Q S nn) = some (wQ 7 t Q' S' n') ∧ Rel (R * C) Q' S' n' (bfL (adjO g R C) f i X) := by
  intro f
  induction f with
  | zero => intro i X Q S nn h1 h2 hf hi; omega
  | succ f ih =>
    intro i X Q S nn h1 h2 hf hi hr
    have n64 := h1.n64
    rw [show n + 1 + 6 * (f + 1) = (n + 1 + 6 * f + 1 + 4) + 1 by omega, u_plainSteps_44, wQ_n, hr.1]
    unfold bfL
    by_cases q : i < X.2.1
    · rw [if_neg (nI_ge q (by omega)), if_pos q]
      obtain ⟨Q1, S1, n1, e1, r1⟩ := po_dirs ok hM ha N (n + 1 + 6 * f + 1) 4 0 X Q S _ h1 h2 q rfl rfl hr
      obtain ⟨t1, t2, t3⟩ := bfD_ok 4 0 X h1 h2 q rfl rfl
      rw [nI_0] at e1
      rw [← hr.1, e1, u_plainSteps_54]
      simp only [n44, if_true, nI_1]
      have i64 : i + 1 ≤ 64 := by omega
      exact ih (i + 1) _ Q1 S1 n1 t1 (t2.next t1) (by omega) i64 r1
    · rw [if_pos (nI_le (by omega) (by omega)), if_neg q]
      exact ⟨Q, S, nn, by rw [hr.1], hr⟩
theorem po_fill {t : xT} {g : gT} {R C : Nat} (ok : GOk g R C) (hM : GR (ra t 1) g R C) (v : Int32) (N n : Nat) : ∀ (m k : Nat) (S : Nat → Int32), k + m = R * C → f_plainSteps_L N (n + m) 2 v (nI k) 0 (wa t 7 S) = f_plainSteps_L N n 2 v (nI (R * C)) 0 (wa t 7 (fil (R * C) S k)) := by
  intro m
  induction m with
  | zero =>
    intro k S hk
    have : k = R * C := by omega
    subst this
    have : fil (R * C) S (R * C) = S := by
      funext j; unfold fil; rw [if_neg (by omega)]
    rw [this]; rfl
  | succ m ih =>
    intro k S hk
    have hle := ok.rc.le
    have hM' : GR (ra (wa t 7 S) 1) g R C := hM
    rw [← Nat.add_assoc, u_plainSteps_2, m_size hM', if_neg (nI_ge (by omega) (by omega)), if_pos (inB_nI (by omega) (by decide)), Option.bind_some, nI_clamp (by omega), nI_1, wa_wa, ra_wa, if_pos rfl, ih (k + 1) _ (by omega)]
    have : fil (R * C) (upd S k (-1)) (k + 1) = fil (R * C) S k := by
      funext j
      unfold fil
      by_cases z : j = k
      · subst z; rw [if_neg (by omega), if_pos (by omega), pk_us]
      · rw [pk_un z]
        by_cases w : k ≤ j ∧ j < R * C
        · rw [if_pos w, if_pos (by omega)]
        · rw [if_neg w, if_neg (by omega)]
    rw [this]
theorem m_plainSteps {t : xT} {g : gT} {R C : Nat}  (ok : GOk g R C) (hM : GR (ra t 1) g R C) {a : Nat} (ha : a < R * C) {N : Nat} (hN : 10000 ≤ N) : ∃ Q S nn, f_plainSteps N t (nI a) = some (wQ 7 t Q S nn) ∧ Rel (R * C) Q S nn (bfR (adjO g R C) a) := by
  have hle := ok.rc.le
  obtain ⟨n, rfl⟩ : ∃ n, N = (n + 1 + 6 * 65 + 1) + R * C := ⟨N - (R * C + 392), by omega⟩
  generalize hN' : n + 1 + 6 * 65 + 1 + R * C = N'
  obtain ⟨z1, z2⟩ := bf0_ok (adj := adjO g R C) (a := a) (by omega)
  have hM1 : GR (ra (wa t 7 (fil (R * C) (ra t 7) 0)) 1) g R C := hM
  have e0 := po_fill ok hM (nI a) N' (n + 1 + 6 * 65 + 1) (R * C) 0 (ra t 7) (by omega)
  rw [hN', wa_ra] at e0
  have rel0 : Rel (R * C) (upd (ra t 6) 0 (nI a)) (upd (fil (R * C) (ra t 7) 0) a 0) 1 (bf0 a) := by
    refine ⟨rfl, fun j hj => ?_, fun c hc => ?_⟩
    · have : j = 0 := by unfold bf0 at hj; simp only at hj; omega
      subst this; exact pk_us
    · unfold bf0
      simp only
      by_cases z : c = a
      · rw [if_pos z, z, pk_us]; rfl
      · rw [if_neg z, pk_un z]; unfold fil; rw [if_pos (by omega)]; rfl
  obtain ⟨Q, S, nn, e1, r1⟩ := po_loop ok hM ha N' n 65 0 (bf0 a) _ _ _ z1 z2 (by omega) (by omega) rel0
  refine ⟨Q, S, nn, ?_, r1⟩
  unfold f_plainSteps
  rw [nI_0] at e0 e1
  rw [e0, u_plainSteps_2, m_size hM1, if_pos (nI_le (Nat.le_refl _) (by omega)), if_pos (inB_nI (by omega) (by decide)), Option.bind_some, Option.bind_some, Option.bind_some, nI_clamp (by omega), cl_0, ra_wa, if_pos rfl, wa_wa, ra_wa, if_neg (by decide), ← e1]
  rfl
def adjP (g : gT) (R C : Nat) (c d : Nat) : Nat := if (tb (gO g) (nb R C c (opd d)) && tb (gO g) (nb R C (nb R C c (opd d)) (opd d))) = true then nb R C c (opd d) else 64
theorem bz_ge : (0 ≤ bz 64) = False := eq_false (by decide)
theorem bz_pos {k : Nat} (h : k < 64) : (0 ≤ bz k) = True := by rw [bz_nI h]; exact eq_true (nI_pos' (by omega))

/-! pushesTo -/
theorem pu_adj {g : gT} {R C : Nat} (ok : GOk g R C) (c d : Nat) (h : adjP g R C c d < 64) : adjP g R C c d < R * C := by
  unfold adjP at h ⊢
  split at h
  · rename_i q
    rw [if_pos q]
    refine ok.open_lt ?_
    rw [and_t] at q; exact q.1
  · omega
theorem pu_step {t : xT} {g : gT} {R C : Nat}  (ok : GOk g R C) (hM : GR (ra t 1) g R C) {a i d : Nat} {X : bX} (h1 : bI1 a X) (h2 : bI2 (adjP g R C) a i d X) (hi : i < X.2.1) (hd : d < 4) (ha : a < R * C) {Q S : Nat → Int32} {nn : Int32} (hr : Rel (R * C) Q S nn X) (N n : Nat) : ∃ Q' S' n', f_pushesTo_L N (n + 1) 54 0 (nI i) (nI d) (wQ 8 t Q S nn) = f_pushesTo_L N n 54 0 (nI i) (nI (d + 1)) (wQ 8 t Q' S' n') ∧ Rel (R * C) Q' S' n' (bfS (adjP g R C) (X.1 i) d X) := by
  have h64 := (bfS_ok h1 h2 hi hd).1.n64
  have i64 := h1.n64
  have hc := bf_rc h1 h2 ha (pu_adj ok ) hi
  have hr0 := hr
  obtain ⟨r1, r2, r3⟩ := hr
  have hle := ok.rc.le
  have hM' : GR (ra (wQ 8 t Q S nn) 1) g R C := hM
  have ci : (nI i).toNatClampNeg = i := nI_clamp (by omega)
  have hq := r2 i hi
  have cc : (nI (X.1 i)).toNatClampNeg = X.1 i := nI_clamp (by omega)
  have d1 : nI d + 1 = nI (d + 1) := nI_1 d
  have bi : inB (nI i) 64 = true := inB_nI (by omega) (by decide)
  rw [u_pushesTo_54]
  have hp := m_opp d hd
  have hb := m_bes ok.rc hM' hc (opd_lt d)
  have ho := m_open hM' (nb_le ok.rc hc (opd_lt d))
  have hle2 := nb_le ok.rc hc (opd_lt d)
  have hlt2 := fun q => nb_lt ok.rc hc (opd_lt d) q
  generalize hE : nb R C (X.1 i) (opd d) = e at hb ho hle2 hlt2
  have ea : adjP g R C (X.1 i) d = if (tb (gO g) e && tb (gO g) (nb R C e (opd d))) = true then e else 64 := by unfold adjP; rw [hE]
  simp only [n4 hd, if_false, bi, if_true, wQ_Q, ci, hq, hp, hb, Option.bind_some, ho, d1]
  rcases Nat.eq_or_lt_of_le hle2 with h6 | h6
  · subst h6
    simp only [bz_ge, if_false, Option.bind_some, tb_big (s := gO g) (Nat.le_refl 64), b0f, if_true]
    exact ⟨Q, S, nn, rfl, by rw [rel_same (by rw [ea, tb_big (Nat.le_refl 64)]; simp)]; exact hr0⟩
  have her := hlt2 (by omega)
  have hb2 := m_bes ok.rc hM' her (opd_lt d)
  have ho2 := m_open hM' (nb_le ok.rc her (opd_lt d))
  rw [← bz_nI h6] at hb2
  simp only [bz_pos h6, if_true, Option.bind_some, hb2]
  cases hO : tb (gO g) e with
  | false =>
    simp only [b0f, if_true, Option.bind_some]
    exact ⟨Q, S, nn, rfl, by rw [rel_same (by rw [ea, hO]; simp)]; exact hr0⟩
  | true =>
    have el : e < 64 := tb_lt hO
    have er := ok.open_lt hO
    simp only [b0t, if_false, ho2, Option.bind_some]
    cases hX : tb (gO g) (nb R C e (opd d)) with
    | false =>
      simp only [b0f, if_true, Option.bind_some]
      exact ⟨Q, S, nn, rfl, by rw [rel_same (by rw [ea, hO, hX]; simp)]; exact hr0⟩
    | true =>
      have ea : adjP g R C (X.1 i) d = e := by rw [ea, hO, hX]; rfl
      have ce : (nI e).toNatClampNeg = e := nI_clamp (by omega)
      simp only [b0t, if_false, if_true, bz_nI el, inB_nI el (show 64 < 2 ^ 31 by decide), wQ_S (show 8 ≠ 6 by decide), ce, r3 e er, inB_nI (show X.1 i < 64 by omega) (show 64 < 2 ^ 31 by decide), cc]
      rcases bf_s h1 e with w | w
      · simp only [eq_true ((sz_neg (Or.inl w)).mpr w), if_true, Option.bind_some]
        exact ⟨Q, S, nn, rfl, by rw [rel_same (by rw [ea]; omega)]; exact hr0⟩
      · obtain ⟨q1, q2⟩ := rel_add h1 hi hr0 hc (by rw [ea]; exact el) (by rw [ea]; exact w) h64
        rw [ea] at q2
        have cn : (nI X.2.1).toNatClampNeg = X.2.1 := nI_clamp (by omega)
        simp only [show (0 ≤ sz (X.2.2 e)) = False from eq_false (fun z => by have := (sz_neg (Or.inr w)).mp z; omega), if_false, Option.bind_some, wQ_wS (show 8 ≠ 6 by decide), wQ_n, r1, inB_nI q1 (show 64 < 2 ^ 31 by decide), if_true, wQ_Q, cn, wQ_wQ, wQ_wn]
        exact ⟨_, _, _, rfl, q2⟩
theorem pu_dirs {t : xT} {g : gT} {R C : Nat}  (ok : GOk g R C) (hM : GR (ra t 1) g R C) {a i c : Nat} (ha : a < R * C) (N n : Nat) : ∀ (k d : Nat) (X : bX) (Q S : Nat → Int32) (nn : Int32), bI1 a X → bI2 (adjP g R C) a i d X → i < X.2.1 → d + k = 4 → X.1 i = c → Rel (R * C) Q S nn X → ∃ Q' S' n', f_pushesTo_L N (n + k) 54 0 (nI i) (nI d) (wQ 8 t Q S nn) = f_pushesTo_L N n 54 0 (nI i) (nI 4) (wQ 8 t Q' S' n') ∧ Rel (R * C) Q' S' n' (bfD (adjP g R C) c k d X) := by
  intro k
  induction k with
  | zero =>
    intro d X Q S nn h1 h2 hi hd _ hr
    have : d = 4 := by omega
    subst this
    exact ⟨Q, S, nn, rfl, hr⟩
  | succ k ih =>
    intro d X Q S nn h1 h2 hi hd hq hr
    obtain ⟨Q1, S1, n1, e1, r1⟩ := pu_step ok hM h1 h2 hi (by omega) ha hr N (n + k)
    obtain ⟨s1, s2, s3, s4⟩ := bfS_ok h1 h2 hi (by omega)
    rw [hq] at s1 s2 s3 s4 r1
    obtain ⟨Q2, S2, n2, e2, r2⟩ := ih (d + 1) _ Q1 S1 n1 s1 s2 (Nat.lt_of_lt_of_le hi s3) (by omega) s4 r1
    exact ⟨Q2, S2, n2, by rw [← Nat.add_assoc, e1, e2], r2⟩
theorem pu_loop {t : xT} {g : gT} {R C : Nat}  (ok : GOk g R C) (hM : GR (ra t 1) g R C) {a : Nat} (ha : a < R * C) (N n : Nat) : ∀ (f i : Nat) (X : bX) (Q S : Nat → Int32) (nn : Int32), bI1 a X → bI2 (adjP g R C) a i 0 X → 65 ≤ f + i → i ≤ 64 → Rel (R * C) Q S nn X → ∃ Q' S' n', f_pushesTo_L N (n + 1 + 6 * f) 44 0 (nI i) 0 (wQ 8 t Q S nn) = some (wQ 8 t Q' S' n') ∧ Rel (R * C) Q' S' n' (bfL (adjP g R C) f i X) := by
  intro f
  induction f with
  | zero => intro i X Q S nn h1 h2 hf hi; omega
  | succ f ih =>
    intro i X Q S nn h1 h2 hf hi hr
    have n64 := h1.n64
    rw [show n + 1 + 6 * (f + 1) = (n + 1 + 6 * f + 1 + 4) + 1 by omega, u_pushesTo_44, wQ_n, hr.1]
    unfold bfL
    by_cases q : i < X.2.1
    · rw [if_neg (nI_ge q (by omega)), if_pos q]
      obtain ⟨Q1, S1, n1, e1, r1⟩ := pu_dirs ok hM ha N (n + 1 + 6 * f + 1) 4 0 X Q S _ h1 h2 q rfl rfl hr
      obtain ⟨t1, t2, t3⟩ := bfD_ok 4 0 X h1 h2 q rfl rfl
      rw [nI_0] at e1
      rw [← hr.1, e1, u_pushesTo_54]
      simp only [n44, if_true, nI_1]
      have i64 : i + 1 ≤ 64 := by omega
      exact ih (i + 1) _ Q1 S1 n1 t1 (t2.next t1) (by omega) i64 r1
    · rw [if_pos (nI_le (by omega) (by omega)), if_neg q]
      exact ⟨Q, S, nn, by rw [hr.1], hr⟩
theorem pu_fill {t : xT} {g : gT} {R C : Nat} (ok : GOk g R C) (hM : GR (ra t 1) g R C) (v : Int32) (N n : Nat) : ∀ (m k : Nat) (S : Nat → Int32), k + m = R * C → f_pushesTo_L N (n + m) 2 v (nI k) 0 (wa t 8 S) = f_pushesTo_L N n 2 v (nI (R * C)) 0 (wa t 8 (fil (R * C) S k)) := by
  intro m
  induction m with
  | zero =>
    intro k S hk
    have : k = R * C := by omega
    subst this
    have : fil (R * C) S (R * C) = S := by
      funext j; unfold fil; rw [if_neg (by omega)]
    rw [this]; rfl
  | succ m ih =>
    intro k S hk
    have hle := ok.rc.le
    have hM' : GR (ra (wa t 8 S) 1) g R C := hM
    rw [← Nat.add_assoc, u_pushesTo_2, m_size hM', if_neg (nI_ge (by omega) (by omega)), if_pos (inB_nI (by omega) (by decide)), Option.bind_some, nI_clamp (by omega), nI_1, wa_wa, ra_wa, if_pos rfl, ih (k + 1) _ (by omega)]
    have : fil (R * C) (upd S k (-1)) (k + 1) = fil (R * C) S k := by
      funext j
      unfold fil
      by_cases z : j = k
      · subst z; rw [if_neg (by omega), if_pos (by omega), pk_us]
      · rw [pk_un z]
        by_cases w : k ≤ j ∧ j < R * C
        · rw [if_pos w, if_pos (by omega)]
        · rw [if_neg w, if_neg (by omega)]
    rw [this]
theorem m_pushesTo {t : xT} {g : gT} {R C : Nat}  (ok : GOk g R C) (hM : GR (ra t 1) g R C) {a : Nat} (ha : a < R * C) {N : Nat} (hN : 10000 ≤ N) : ∃ Q S nn, f_pushesTo N t (nI a) = some (wQ 8 t Q S nn) ∧ Rel (R * C) Q S nn (bfR (adjP g R C) a) := by
  have hle := ok.rc.le
  obtain ⟨n, rfl⟩ : ∃ n, N = (n + 1 + 6 * 65 + 1) + R * C := ⟨N - (R * C + 392), by omega⟩
  generalize hN' : n + 1 + 6 * 65 + 1 + R * C = N'
  obtain ⟨z1, z2⟩ := bf0_ok (adj := adjP g R C) (a := a) (by omega)
  have hM1 : GR (ra (wa t 8 (fil (R * C) (ra t 8) 0)) 1) g R C := hM
  have e0 := pu_fill ok hM (nI a) N' (n + 1 + 6 * 65 + 1) (R * C) 0 (ra t 8) (by omega)
  rw [hN', wa_ra] at e0
  have rel0 : Rel (R * C) (upd (ra t 6) 0 (nI a)) (upd (fil (R * C) (ra t 8) 0) a 0) 1 (bf0 a) := by
    refine ⟨rfl, fun j hj => ?_, fun c hc => ?_⟩
    · have : j = 0 := by unfold bf0 at hj; simp only at hj; omega
      subst this; exact pk_us
    · unfold bf0
      simp only
      by_cases z : c = a
      · rw [if_pos z, z, pk_us]; rfl
      · rw [if_neg z, pk_un z]; unfold fil; rw [if_pos (by omega)]; rfl
  obtain ⟨Q, S, nn, e1, r1⟩ := pu_loop ok hM ha N' n 65 0 (bf0 a) _ _ _ z1 z2 (by omega) (by omega) rel0
  refine ⟨Q, S, nn, ?_, r1⟩
  unfold f_pushesTo
  rw [nI_0] at e0 e1
  rw [e0, u_pushesTo_2, m_size hM1, if_pos (nI_le (Nat.le_refl _) (by omega)), if_pos (inB_nI (by omega) (by decide)), Option.bind_some, Option.bind_some, Option.bind_some, nI_clamp (by omega), cl_0, ra_wa, if_pos rfl, wa_wa, ra_wa, if_neg (by decide), ← e1]
  rfl

/-! what they count -/
theorem cert_of {adj : Nat → Nat → Nat} {A : Nat → Nat → Prop} {a RCn : Nat} (ha : a < RCn) (h64 : RCn ≤ 64) (hadj : ∀ c d, adj c d < 64 → adj c d < RCn) (h : ∀ p c, p < RCn → (EA adj p c ↔ A p c)) : Cert A a (bfR adj a).2.2 := by
  have q := (bfR_ok (adj := adj) (a := a) (by omega)).2
  refine q.congr fun p c hp => h p c ?_
  rcases q.2.1 p hp with w | ⟨r, _, ⟨_, d, _, w⟩, _⟩
  · omega
  · have := (bfR_ok (adj := adj) (a := a) (by omega)).1.2.2.2.2.2.1 p
    rw [← w]
    refine hadj r d ?_
    rw [w]
    rcases this with z | ⟨j, hj, z⟩
    · omega
    · rw [← z]; exact ((bfR_ok (adj := adj) (a := a) (by omega)).1.2.2.2.1 j hj).1
theorem nb_iff {R C p c d : Nat} (h : RC R C) (hp : p < R * C) (hc : c < R * C) (hd : d < 4) : nb R C p d = c ↔ nb R C c (opd d) = p := by
  have := h.le
  constructor
  · intro q; exact (nb_back h hp hd q (by omega)).1
  · intro q
    have := (nb_back h hc (opd_lt d) q (by omega)).1
    rw [opd_opd hd] at this; exact this
theorem wk_cert {g : gT} {R C : Nat} {b : Int64} (ok : GOk g R C) {a : Nat} (ha : a < R * C) : Cert (AS g R C (pFr g b)) a (bfR (adjW g R C b) a).2.2 := by
  refine cert_of ha ok.rc.le (wk_adj ok b) fun p c hp => ?_
  have free : ∀ x, tb (pFr g b) x = true ↔ (tb (gO g) x && !tb b x) = true := fun x => by
    have := fe_tb g b x
    unfold gFe at this; unfold pFr; rw [this]; unfold fre; exact Iff.rfl
  constructor
  · rintro ⟨hc, d, hd, q⟩
    unfold adjW at q
    split at q
    · rename_i z
      rw [q] at z
      have z2 := z
      rw [and_t] at z2
      exact ⟨(free c).mpr z, z2.1, opd d, opd_lt d, (nb_iff ok.rc hp (ok.open_lt z2.1) hd).mp q⟩
    · omega
  · rintro ⟨z, o, d, hd, q⟩
    refine ⟨tb_lt o, opd d, opd_lt d, ?_⟩
    have e := (nb_iff ok.rc (ok.open_lt o) hp hd).mp q
    unfold adjW
    rw [e, if_pos ((free c).mp z)]
theorem po_cert {g : gT} {R C : Nat} (ok : GOk g R C) {a : Nat} (ha : a < R * C) : Cert (AS g R C (gO g)) a (bfR (adjO g R C) a).2.2 := by
  refine cert_of ha ok.rc.le (po_adj ok) fun p c hp => ?_
  constructor
  · rintro ⟨hc, d, hd, q⟩
    unfold adjO at q
    split at q
    · rename_i z
      rw [q] at z
      exact ⟨z, z, opd d, opd_lt d, (nb_iff ok.rc hp (ok.open_lt z) hd).mp q⟩
    · omega
  · rintro ⟨_, o, d, hd, q⟩
    refine ⟨tb_lt o, opd d, opd_lt d, ?_⟩
    have e := (nb_iff ok.rc (ok.open_lt o) hp hd).mp q
    unfold adjO
    rw [e, if_pos o]
theorem pu_cert {g : gT} {R C : Nat} (ok : GOk g R C) {a : Nat} (ha : a < R * C) : Cert (APull g R C) a (bfR (adjP g R C) a).2.2 := by
  refine cert_of ha ok.rc.le (pu_adj ok) fun p c hp => ?_
  constructor
  · rintro ⟨hc, d, hd, q⟩
    unfold adjP at q
    split at q
    · rename_i z
      rw [q, and_t] at z
      refine ⟨d, hd, ?_, z.1, z.2⟩
      have := (nb_iff ok.rc hp (ok.open_lt z.1) (opd_lt d)).mp q
      rw [opd_opd hd] at this; exact this
    · omega
  · rintro ⟨d, hd, q, o, z⟩
    refine ⟨tb_lt o, d, hd, ?_⟩
    have e := (nb_iff ok.rc (ok.open_lt o) hp hd).mp q
    unfold adjP
    rw [e, o, z]; rfl
