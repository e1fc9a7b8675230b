/-! what a method leaves as it was -/
def Frm (A K : List Nat) (t t' : xT) : Prop := (∀ i, i ∉ A → ra t' i = ra t i) ∧ (∀ k, k ∉ K → rs t' k = rs t k) ∧ rb t' = rb t ∧ ro t' = ro t
theorem Frm.rf {A K : List Nat} {t : xT} : Frm A K t t := ⟨fun _ _ => rfl, fun _ _ => rfl, rfl, rfl⟩
theorem Frm.trans {A K : List Nat} {t u v : xT} (h : Frm A K t u) (h2 : Frm A K u v) : Frm A K t v :=
  ⟨fun i hi => (h2.1 i hi).trans (h.1 i hi), fun k hk => (h2.2.1 k hk).trans (h.2.1 k hk), h2.2.2.1.trans h.2.2.1, h2.2.2.2.trans h.2.2.2⟩
theorem Frm.mono {A K A' K' : List Nat} {t u : xT} (h : Frm A K t u) (hA : ∀ i, i ∈ A → i ∈ A') (hK : ∀ i, i ∈ K → i ∈ K') : Frm A' K' t u :=
  ⟨fun i hi => h.1 i fun z => hi (hA i z), fun k hk => h.2.1 k fun z => hk (hK k z), h.2.2.1, h.2.2.2⟩
theorem Frm.a {A K : List Nat} {t u : xT} (h : Frm A K t u) (i : Nat) (hi : A.contains i = false) : ra u i = ra t i := h.1 i (by
  intro z
  have := List.contains_iff_mem.mpr z
  rw [hi] at this; cases this)
theorem Frm.s {A K : List Nat} {t u : xT} (h : Frm A K t u) (i : Nat) (hi : K.contains i = false) : rs u i = rs t i := h.2.1 i (by
  intro z
  have := List.contains_iff_mem.mpr z
  rw [hi] at this; cases this)
theorem Frm.wa {A K : List Nat} {t u : xT} (h : Frm A K t u) {i : Nat} (hi : i ∈ A) (f : Nat → Int32) : Frm A K t (wa u i f) :=
  ⟨fun j hj => by
    have n : j ≠ i := fun z => hj (by rw [z]; exact hi)
    rw [ra_wa, if_neg n]; exact h.1 j hj, h.2.1, h.2.2.1, h.2.2.2⟩
theorem Frm.ws {A K : List Nat} {t u : xT} (h : Frm A K t u) {k : Nat} (hk : k ∈ K) (v : Int32) : Frm A K t (ws u k v) :=
  ⟨h.1, fun j hj => by
    have n : j ≠ k := fun z => hj (by rw [z]; exact hk)
    rw [rs_ws, if_neg n]; exact h.2.1 j hj, h.2.2.1, h.2.2.2⟩
theorem Frm.wq (A : Nat) (t : xT) (Q S : Nat → Int32) (n : Int32) : Frm [A, 6] [16] t (wQ A t Q S n) := by
  unfold wQ
  exact Frm.ws (Frm.wa (Frm.wa Frm.rf (by simp) S) (by simp) Q) (by simp) n
def inL (l m : List Nat) : Bool := l.all fun i => m.contains i
theorem Frm.up {A K A' K' : List Nat} {t u : xT} (h : Frm A K t u) (hA : inL A A' = true) (hK : inL K K' = true) : Frm A' K' t u :=
  h.mono (fun i z => List.contains_iff_mem.mp (List.all_eq_true.mp hA i z)) (fun i z => List.contains_iff_mem.mp (List.all_eq_true.mp hK i z))
theorem GR.of {t u : xT} {g : gT} {R C : Nat} (h : GR (ra t 1) g R C) (e : ra u 1 = ra t 1) : GR (ra u 1) g R C := by rw [e]; exact h
theorem GB.of {t u : xT} {b : Int64} (h : GB (ra t 1) b) (e : ra u 1 = ra t 1) : GB (ra u 1) b := by rw [e]; exact h
theorem nar_b (b : Bool) : vp_nar .boolean (bI b) = bI b := by cases b <;> rfl
/-- the distances that pulls count -/
def dP (g : gT) (R C e : Nat) : Nat → Nat := (bfR (adjP g R C) e).2.2
theorem s_pu {t : xT} {g : gT} {R C : Nat} (ok : GOk g R C) (hM : GR (ra t 1) g R C) {a : Nat} (ha : a < R * C) {N : Nat} (hN : 10000 ≤ N) : ∃ u, f_pushesTo N t (nI a) = some u ∧ Frm [8, 6] [16] t u ∧ ∀ c, c < R * C → ra u 8 c = sz (dP g R C a c) := by
  obtain ⟨Q, S, nn, e, r⟩ := m_pushesTo ok hM ha hN
  exact ⟨_, e, Frm.wq 8 t Q S nn, fun c hc => by rw [wQ_S (by decide)]; exact r.2.2 c hc⟩
theorem dP_or (g : gT) (R C e c : Nat) (he : e < 64) : dP g R C e c < 64 ∨ dP g R C e c = 99 := (bfR_ok (adj := adjP g R C) he).2.2.2.2 c
theorem sz_lt0 {k : Nat} (h : k < 64 ∨ k = 99) : (sz k < 0) ↔ 64 ≤ k := by
  rcases h with h | h
  · rw [sz_nI h]; exact ⟨fun z => absurd z (nI_pos (by omega)), fun z => by omega⟩
  · subst h; decide
/-! dead cells -/
def deadB (g : gT) (R C e : Nat) (c : Nat) : Bool := tb (gO g) c && (List.range e).all fun x => !tb (gG g) x || decide (64 ≤ dP g R C x c)
theorem deadB_0 (g : gT) (R C c : Nat) : deadB g R C 0 c = tb (gO g) c := by unfold deadB; simp
theorem deadB_s (g : gT) (R C e c : Nat) : deadB g R C (e + 1) c = (deadB g R C e c && (!tb (gG g) e || decide (64 ≤ dP g R C e c))) := by
  unfold deadB
  rw [List.range_succ, List.all_append]
  simp [Bool.and_assoc]
theorem deadB_all {g : gT} {R C : Nat} (ok : GOk g R C) (c : Nat) : deadB g R C (R * C) c = tb (gD g) c := by
  apply bool_iff
  rw [dead_tb ok (S := dP g R C) (fun e he => pu_cert ok (ok.sub_goal e he))]
  unfold deadB
  rw [and_t, List.all_eq_true]
  constructor
  · rintro ⟨a, b⟩
    refine ⟨a, fun e he => ?_⟩
    have := b e (List.mem_range.mpr (ok.sub_goal e he))
    rw [he] at this
    simpa using this
  · rintro ⟨a, b⟩
    refine ⟨a, fun e _ => ?_⟩
    cases he : tb (gG g) e with
    | false => rfl
    | true => simpa using b e he
theorem di_fill {g : gT} {R C : Nat} (ok : GOk g R C) (N : Nat) : ∀ (m c n : Nat) (t : xT), c + m = R * C → GR (ra t 1) g R C → (∀ x, x < c → ra t 9 x = bI (tb (gO g) x)) → ∃ u, f_dies_L N (n + 1 + m) 2 (nI c) 0 t = f_dies_L N n 29 0 0 u ∧ Frm [8, 6, 9] [16] t u ∧ ∀ x, x < R * C → ra u 9 x = bI (tb (gO g) x) := by
  intro m
  have hle := ok.rc.le
  induction m with
  | zero =>
    intro c n t hc hM h
    refine ⟨t, ?_, Frm.rf, fun x hx => h x (by omega)⟩
    rw [Nat.add_zero, u_dies_2, m_size hM, if_pos (nI_le (by omega) (by omega))]
  | succ m ih =>
    intro c n t hc hM h
    obtain ⟨u, e, f, q⟩ := ih (c + 1) n (wa t 9 (upd (ra t 9) c (bI (tb (gO g) c)))) (by omega) hM fun x hx => by
      rw [ra_wa, if_pos rfl]
      by_cases z : x = c
      · rw [z, pk_us]
      · rw [pk_un z]; exact h x (by omega)
    refine ⟨u, ?_, (Frm.wa Frm.rf (by decide) _).trans f, q⟩
    rw [show n + 1 + (m + 1) = n + 1 + m + 1 by omega, u_dies_2, m_size hM, if_neg (nI_ge (by omega) (by omega)), m_openI hM (by omega), Option.bind_some, if_pos (inB_nI (by omega) (by decide)), Option.bind_some, nI_clamp (by omega), nar_b, nI_1, e]
theorem di_in {g : gT} {R C : Nat} (ok : GOk g R C) {e : Nat} (he : e < R * C) (hg : tb (gG g) e = true) (N : Nat) : ∀ (m c n : Nat) (t : xT), c + m = R * C → GR (ra t 1) g R C → (∀ x, x < R * C → ra t 8 x = sz (dP g R C e x)) → (∀ x, x < R * C → ra t 9 x = bI (if x < c then deadB g R C (e + 1) x else deadB g R C e x)) → ∃ u, f_dies_L N (n + 1 + m) 55 (nI e) (nI c) t = f_dies_L N n 29 (nI (e + 1)) 0 u ∧ Frm [8, 6, 9] [16] t u ∧ ∀ x, x < R * C → ra u 9 x = bI (deadB g R C (e + 1) x) := by
  intro m
  have hle := ok.rc.le
  induction m with
  | zero =>
    intro c n t hc hM h8 h
    refine ⟨t, ?_, Frm.rf, fun x hx => by rw [h x hx, if_pos (by omega)]⟩
    rw [Nat.add_zero, u_dies_55, m_size hM, if_pos (nI_le (by omega) (by omega)), nI_1]
  | succ m ih =>
    intro c n t hc hM h8 h
    have hcl : c < R * C := by omega
    obtain ⟨u, e1, f, q⟩ := ih (c + 1) n (wa t 9 (upd (ra t 9) c (bI (deadB g R C (e + 1) c)))) (by omega) hM h8 fun x hx => by
      rw [ra_wa, if_pos rfl]
      by_cases z : x = c
      · subst z; rw [pk_us, if_pos (by omega)]
      · rw [pk_un z, h x hx]
        by_cases w : x < c
        · rw [if_pos w, if_pos (by omega)]
        · rw [if_neg w, if_neg (by omega)]
    refine ⟨u, ?_, (Frm.wa Frm.rf (by decide) _).trans f, q⟩
    have b1 := inB_nI (show c < 64 by omega) (show 64 < 2 ^ 31 by decide)
    rw [show n + 1 + (m + 1) = n + 1 + m + 1 by omega, u_dies_55, m_size hM, if_neg (nI_ge hcl (by omega))]
    simp only [b1, if_true, nI_clamp (show c < 2 ^ 31 by omega), h c hcl, h8 c hcl, Nat.lt_irrefl, if_false]
    rw [nI_1, ← e1, deadB_s, hg]
    cases hD : deadB g R C e c with
    | false =>
      simp only [b0f, if_true, Option.bind_some]
      rfl
    | true =>
      simp only [b0t, if_false]
      have so := sz_neg (dP_or g R C e c (by omega))
      rcases dP_or g R C e c (by omega) with w | w
      · rw [if_pos (so.mpr w), Option.bind_some]
        have : decide (64 ≤ dP g R C e c) = false := decide_eq_false (by omega)
        rw [this]; rfl
      · rw [if_neg (fun z => by have := so.mp z; omega), Option.bind_some]
        have : decide (64 ≤ dP g R C e c) = true := decide_eq_true (by omega)
        rw [this]; rfl
theorem di_out {g : gT} {R C : Nat} (ok : GOk g R C) {N : Nat} (hN : 10000 ≤ N) : ∀ (m e n : Nat) (t : xT), e + m = R * C → GR (ra t 1) g R C → (∀ x, x < R * C → ra t 9 x = bI (deadB g R C e x)) → ∃ u, f_dies_L N (n + 1 + 70 * m) 29 (nI e) 0 t = some u ∧ Frm [8, 6, 9] [16] t u ∧ ∀ x, x < R * C → ra u 9 x = bI (tb (gD g) x) := by
  intro m
  have hle := ok.rc.le
  induction m with
  | zero =>
    intro e n t he hM h
    refine ⟨t, ?_, Frm.rf, fun x hx => by rw [h x hx, show e = R * C by omega, deadB_all ok]⟩
    rw [Nat.mul_zero, Nat.add_zero, u_dies_29, m_size hM, if_pos (nI_le (by omega) (by omega))]
  | succ m ih =>
    intro e n t he hM h
    have hel : e < R * C := by omega
    rw [show n + 1 + 70 * (m + 1) = n + 1 + 70 * m + 69 + 1 by omega, u_dies_29, m_size hM, if_neg (nI_ge hel (by omega)), m_goal ok hM (by omega), Option.bind_some]
    cases hg : tb (gG g) e with
    | false =>
      simp only [b0f, if_true, nI_1]
      have : n + 1 + 70 * m + 69 = (n + 69) + 1 + 70 * m := by omega
      rw [this]
      exact ih (e + 1) (n + 69) t (by omega) hM fun x hx => by rw [h x hx, deadB_s, hg]; simp
    | true =>
      simp only [b0t, if_false]
      obtain ⟨u, e1, f1, q1⟩ := s_pu ok hM hel hN
      rw [e1, Option.bind_some]
      have hMu := hM.of (f1.a 1 rfl)
      obtain ⟨v, e2, f2, q2⟩ := di_in ok hel hg N (R * C) 0 (n + 1 + 70 * m + 68 - R * C) u (by omega) hMu q1 fun x hx => by
        rw [f1.a 9 rfl, h x hx, if_neg (by omega)]
      rw [nI_0] at e2
      have : n + 1 + 70 * m + 69 = n + 1 + 70 * m + 68 - R * C + 1 + R * C := by omega
      rw [this, e2]
      have : n + 1 + 70 * m + 68 - R * C = (n + 68 - R * C) + 1 + 70 * m := by omega
      rw [this]
      obtain ⟨w, e3, f3, q3⟩ := ih (e + 1) (n + 68 - R * C) v (by omega) (hMu.of (f2.a 1 rfl)) q2
      exact ⟨w, e3, ((f1.up (by decide) (by decide)).trans f2).trans f3, q3⟩
theorem s_dies {t : xT} {g : gT} {R C : Nat} (ok : GOk g R C) (hM : GR (ra t 1) g R C) {N : Nat} (hN : 10000 ≤ N) : ∃ u, f_dies N t = some u ∧ Frm [8, 6, 9] [16] t u ∧ ∀ x, x < R * C → ra u 9 x = bI (tb (gD g) x) := by
  have hle := ok.rc.le
  unfold f_dies
  obtain ⟨n, hn⟩ : ∃ n, N = (n + 1 + 70 * (R * C)) + 1 + R * C := ⟨N - (71 * (R * C) + 2), by omega⟩
  obtain ⟨u, e1, f1, q1⟩ := di_fill ok N (R * C) 0 (n + 1 + 70 * (R * C)) t (by omega) hM fun x hx => by omega
  rw [nI_0, ← hn] at e1
  obtain ⟨v, e2, f2, q2⟩ := di_out ok hN (R * C) 0 n u (by omega) (hM.of (f1.a 1 rfl)) fun x hx => by rw [q1 x hx, deadB_0]
  exact ⟨v, by rw [e1]; exact e2, f1.trans f2, q2⟩
