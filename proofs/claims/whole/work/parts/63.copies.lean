/-! rows that are copied -/
theorem RQ.cong {G G' : Nat → Int32} {g : gT} {R C : Nat} {b : Int64} {p n : Nat} {rec rec' : Nat → Int32} (h : RQ G g R C b p n rec) (hG : ∀ k, k < 602 → G' k = G k) (hr : ∀ i, i < n → i < 400 → rec' i = rec i) : RQ G' g R C b p n rec' := by
  obtain ⟨⟨a1, a2, a3, a4⟩, a5, a6, a7, a8⟩ := h
  refine ⟨⟨by rw [hG _ (by decide)]; exact a1, by rw [hG _ (by decide)]; exact a2, by rw [hG _ (by decide)]; exact a3, fun c hc => by rw [hG _ (by omega)]; exact a4 c hc⟩, fun c hc => by rw [hG _ (by omega)]; exact a5 c hc, by rw [hG _ (by decide)]; exact a6, by rw [hG _ (by decide)]; exact a7, fun i hi h4 => by rw [hG _ (by omega), hr i hi h4]; exact a8 i hi h4⟩
theorem l602 {k : Nat} (h : 602 ≤ k) (hk : k < 2 ^ 31) : (602 : Int32) ≤ nI k := nI_le (a := 602) h hk
theorem g602 {k : Nat} (h : k < 602) : ¬ (602 : Int32) ≤ nI k := nI_ge (b := 602) h (by decide)
theorem l4214 {k : Nat} (h : 4214 ≤ k) (hk : k < 2 ^ 31) : (4214 : Int32) ≤ nI k := nI_le (a := 4214) h hk
theorem g4214 {k : Nat} (h : k < 4214) : ¬ (4214 : Int32) ≤ nI k := nI_ge (b := 4214) h (by decide)
theorem s_remembers (t : xT) {N : Nat} (hN : 10000 ≤ N) : ∃ u, f_remembers N t = some u ∧ Frm [3] [] t u ∧ ∀ k, k < 602 → ra u 3 k = ra t 1 k := by
  have loop : ∀ (m k n : Nat) (t : xT), k + m = 602 → (∀ i, i < k → ra t 3 i = ra t 1 i) → ∃ u, f_remembers_L N (n + 1 + m) (nI k) t = some u ∧ Frm [3] [] t u ∧ ∀ i, i < 602 → ra u 3 i = ra t 1 i := by
    intro m
    induction m with
    | zero =>
      intro k n t hk h
      refine ⟨t, ?_, Frm.rf, fun i hi => h i (by omega)⟩
      rw [Nat.add_zero, u_remembers_2, if_pos (l602 (by omega) (by omega))]
    | succ m ih =>
      intro k n t hk h
      have ck : (nI k).toNatClampNeg = k := nI_clamp (by omega)
      have bk := inB_nI (show k < 602 by omega) (show 602 < 2 ^ 31 by decide)
      obtain ⟨u, e, f, r⟩ := ih (k + 1) n (wa t 3 (upd (ra t 3) k (ra t 1 k))) (by omega) fun i hi => by
        show upd (ra t 3) k (ra t 1 k) i = ra t 1 i
        rw [upd_at]
        by_cases z : i = k
        · rw [if_pos z, z]
        · rw [if_neg z]; exact h i (by omega)
      refine ⟨u, ?_, (Frm.wa Frm.rf (by decide) _).trans f, r⟩
      rw [show n + 1 + (m + 1) = n + 1 + m + 1 by omega, u_remembers_2, if_neg (g602 (by omega)), bk, if_pos rfl, if_pos rfl, Option.bind_some, ck, nI_1, e]
  obtain ⟨n, hn⟩ : ∃ n, N = n + 1 + 602 := ⟨N - 603, by omega⟩
  have := loop 602 0 n t (by omega) fun i hi => by omega
  rw [nI_0, ← hn] at this
  exact this
theorem s_goesBack (t : xT) {N : Nat} (hN : 10000 ≤ N) : ∃ u, f_goesBack N t = some u ∧ Frm [1] [] t u ∧ ∀ k, k < 602 → ra u 1 k = ra t 3 k := by
  have loop : ∀ (m k n : Nat) (t : xT), k + m = 602 → (∀ i, i < k → ra t 1 i = ra t 3 i) → ∃ u, f_goesBack_L N (n + 1 + m) (nI k) t = some u ∧ Frm [1] [] t u ∧ ∀ i, i < 602 → ra u 1 i = ra t 3 i := by
    intro m
    induction m with
    | zero =>
      intro k n t hk h
      refine ⟨t, ?_, Frm.rf, fun i hi => h i (by omega)⟩
      rw [Nat.add_zero, u_goesBack_2, if_pos (l602 (by omega) (by omega))]
    | succ m ih =>
      intro k n t hk h
      have ck : (nI k).toNatClampNeg = k := nI_clamp (by omega)
      have bk := inB_nI (show k < 602 by omega) (show 602 < 2 ^ 31 by decide)
      obtain ⟨u, e, f, r⟩ := ih (k + 1) n (wa t 1 (upd (ra t 1) k (ra t 3 k))) (by omega) fun i hi => by
        show upd (ra t 1) k (ra t 3 k) i = ra t 3 i
        rw [upd_at]
        by_cases z : i = k
        · rw [if_pos z, z]
        · rw [if_neg z]; exact h i (by omega)
      refine ⟨u, ?_, (Frm.wa Frm.rf (by decide) _).trans f, r⟩
      rw [show n + 1 + (m + 1) = n + 1 + m + 1 by omega, u_goesBack_2, if_neg (g602 (by omega)), bk, if_pos rfl, if_pos rfl, Option.bind_some, ck, nI_1, e]
  obtain ⟨n, hn⟩ : ∃ n, N = n + 1 + 602 := ⟨N - 603, by omega⟩
  have := loop 602 0 n t (by omega) fun i hi => by omega
  rw [nI_0, ← hn] at this
  exact this
theorem s_commands (t : xT) {N : Nat} (hN : 10000 ≤ N) {z : Nat} (hz : z ≤ 8) (h5 : rs t 5 = nI z) : ∃ u, f_commands N t = some u ∧ Frm [4] [5] t u ∧ rs u 5 = nI (if z = 8 then 8 else z + 1) ∧ (∀ k, k < 602 → ra u 4 (602 * (if z = 8 then 7 else z) + k) = ra t 3 k) ∧ ∀ i k, i < (if z = 8 then 7 else z) → k < 602 → ra u 4 (602 * i + k) = ra t 4 (602 * (if z = 8 then i + 1 else i) + k) := by
  have put : ∀ (m k n w : Nat) (t : xT), w < 8 → k + m = 602 → rs t 5 = nI w → (∀ i, i < k → ra t 4 (602 * w + i) = ra t 3 i) → ∃ u, f_commands_L N (n + 1 + m) 52 (nI k) t = some u ∧ Frm [4] [5] t u ∧ rs u 5 = nI (w + 1) ∧ (∀ i, i < 602 → ra u 4 (602 * w + i) = ra t 3 i) ∧ ∀ i, i < 602 * w → ra u 4 i = ra t 4 i := by
    intro m
    induction m with
    | zero =>
      intro k n w t hw hk h5 h
      refine ⟨ws t 5 (nI w + 1), ?_, Frm.ws Frm.rf (by decide) _, by rw [rs_ws, if_pos rfl, nI_1], fun i hi => h i (by omega), fun i _ => rfl⟩
      rw [Nat.add_zero, u_commands_52, if_pos (l602 (by omega) (by omega)), Option.bind_some, h5]
    | succ m ih =>
      intro k n w t hw hk h5 h
      have ck : (nI k).toNatClampNeg = k := nI_clamp (by omega)
      have bk := inB_nI (show k < 602 by omega) (show 602 < 2 ^ 31 by decide)
      have e1 : (602 : Int32) * nI w + nI k = nI (602 * w + k) := by rw [show (602 : Int32) = nI 602 from rfl, pk_mul, nI_add]
      obtain ⟨u, e, f, r5, r, o⟩ := ih (k + 1) n w (wa t 4 (upd (ra t 4) (602 * w + k) (ra t 3 k))) hw (by omega) h5 fun i hi => by
        show upd (ra t 4) (602 * w + k) (ra t 3 k) (602 * w + i) = ra t 3 i
        rw [upd_at]
        by_cases z : i = k
        · rw [if_pos (by omega), z]
        · rw [if_neg (by omega)]; exact h i (by omega)
      refine ⟨u, ?_, (Frm.wa Frm.rf (by decide) _).trans f, r5, r, fun i hi => ?_⟩
      · rw [show n + 1 + (m + 1) = n + 1 + m + 1 by omega, u_commands_52, if_neg (g602 (by omega)), bk, if_pos rfl, h5, e1, if_pos (inB_nI (by omega) (by decide)), Option.bind_some, ck, nI_clamp (by omega), nI_1, e]
      · rw [o i hi]
        show upd (ra t 4) (602 * w + k) (ra t 3 k) i = ra t 4 i
        rw [upd_at, if_neg (by omega)]
  have shift : ∀ (m k n : Nat) (t t0 : xT), k + m = 4214 → rs t 5 = 8 → (∀ i, i < k → ra t 4 i = ra t0 4 (i + 602)) → (∀ i, k ≤ i → ra t 4 i = ra t0 4 i) → ∃ u, f_commands_L N (n + 1 + m) 11 (nI k) t = f_commands_L N n 52 0 u ∧ Frm [4] [5] t u ∧ rs u 5 = nI 7 ∧ (∀ i, i < 4214 → ra u 4 i = ra t0 4 (i + 602)) := by
    intro m
    induction m with
    | zero =>
      intro k n t t0 hk h5 h1 h2
      refine ⟨ws t 5 7, ?_, Frm.ws Frm.rf (by decide) _, rfl, fun i hi => h1 i (by omega)⟩
      rw [Nat.add_zero, u_commands_11, if_pos (l4214 (by omega) (by omega)), Option.bind_some, h5]; rfl
    | succ m ih =>
      intro k n t t0 hk h5 h1 h2
      have ck : (nI k).toNatClampNeg = k := nI_clamp (by omega)
      have e1 : nI k + 602 = nI (k + 602) := nI_add k 602
      obtain ⟨u, e, f, r5, r⟩ := ih (k + 1) n (wa t 4 (upd (ra t 4) k (ra t 4 (k + 602)))) t0 (by omega) h5 (fun i hi => by
        show upd (ra t 4) k (ra t 4 (k + 602)) i = _
        rw [upd_at]
        by_cases z : i = k
        · rw [if_pos z, z, h2 _ (by omega)]
        · rw [if_neg z]; exact h1 i (by omega)) (fun i hi => by
        show upd (ra t 4) k (ra t 4 (k + 602)) i = _
        rw [upd_at, if_neg (by omega)]; exact h2 i (by omega))
      refine ⟨u, ?_, (Frm.wa Frm.rf (by decide) _).trans f, r5, r⟩
      rw [show n + 1 + (m + 1) = n + 1 + m + 1 by omega, u_commands_11, if_neg (g4214 (by omega)), e1, if_pos (inB_nI (by omega) (by decide)), if_pos (inB_nI (by omega) (by decide)), Option.bind_some, ck, nI_clamp (by omega), nI_1, e]
  unfold f_commands
  by_cases hz8 : z = 8
  · subst hz8
    rw [h5, if_pos (show nI 8 = (8 : Int32) from rfl)]
    obtain ⟨n, hn⟩ : ∃ n, N = (n + 1 + 602) + 1 + 4214 := ⟨N - 4818, by omega⟩
    obtain ⟨u, e1, f1, r1, q1⟩ := shift 4214 0 (n + 1 + 602) t t (by omega) h5 (fun i hi => by omega) (fun i _ => rfl)
    rw [nI_0, ← hn] at e1
    obtain ⟨w, e2, f2, r2, q2, o2⟩ := put 602 0 n 7 u (by omega) (by omega) r1 fun i hi => by omega
    rw [nI_0] at e2
    refine ⟨w, by rw [e1, e2], f1.trans f2, r2, fun k hk => ?_, fun i k hi hk => ?_⟩
    · simp only [if_true]
      rw [q2 k hk, f1.a 3 rfl]
    · simp only [if_true] at hi ⊢
      rw [o2 _ (by omega), q1 _ (by omega), show 602 * i + k + 602 = 602 * (i + 1) + k by omega]
  · have ne : ¬ rs t 5 = 8 := by rw [h5]; exact nI_ne (b := 8) (by omega) (by decide) hz8
    rw [if_neg ne]
    obtain ⟨n, hn⟩ : ∃ n, N = n + 1 + 602 := ⟨N - 603, by omega⟩
    obtain ⟨w, e2, f2, r2, q2, o2⟩ := put 602 0 n z t (by omega) (by omega) h5 fun i hi => by omega
    rw [nI_0, ← hn] at e2
    refine ⟨w, e2, f2, by rw [if_neg hz8]; exact r2, fun k hk => ?_, fun i k hi hk => ?_⟩
    · simp only [hz8, if_false]; exact q2 k hk
    · simp only [hz8, if_false] at hi ⊢
      refine o2 _ ?_
      have : 602 * (i + 1) ≤ 602 * z := Nat.mul_le_mul_left 602 hi
      omega
/-! the class's history -/
theorem fgt_at : ∀ (n k : Nat) (h : HiT), k + n ≤ 8 → hZ (fgtL n k h) = hZ h ∧ (∀ i, i < k → hB (fgtL n k h) i = hB h i ∧ hP (fgtL n k h) i = hP h i ∧ hS (fgtL n k h) i = hS h i) ∧ ∀ i, k ≤ i → i < k + n → hB (fgtL n k h) i = hB h (i + 1) ∧ hP (fgtL n k h) i = hP h (i + 1) ∧ hS (fgtL n k h) i = hS h (i + 1) := by
  intro n
  induction n with
  | zero => intro k h _; exact ⟨rfl, fun _ _ => ⟨rfl, rfl, rfl⟩, fun i h1 h2 => by omega⟩
  | succ n ih =>
    intro k h hk
    unfold fgtL
    rw [nI_1, setLn_at (show k < 9 by omega) (by decide), setI_at (show k < 9 by omega) (by decide), setI_at (show k < 9 by omega) (by decide), longAt_at (show k + 1 < 9 by omega) (by decide), intAt_at (show k + 1 < 9 by omega) (by decide), intAt_at (show k + 1 < 9 by omega) (by decide)]
    obtain ⟨i1, i2, i3⟩ := ih (k + 1) (vp_updL (hB h) k (hB h (k + 1)), upd (hP h) k (hP h (k + 1)), upd (hS h) k (hS h (k + 1)), hZ h) (by omega)
    refine ⟨i1, fun i hi => ?_, fun i h1 h2 => ?_⟩
    · obtain ⟨a, b, c⟩ := i2 i (by omega)
      rw [a, b, c]
      exact ⟨pk_uLn (by omega), pk_un (by omega), pk_un (by omega)⟩
    · rcases Nat.eq_or_lt_of_le h1 with z | z
      · subst z
        obtain ⟨a, b, c⟩ := i2 k (by omega)
        rw [a, b, c]
        exact ⟨pk_uLs, pk_us, pk_us⟩
      · obtain ⟨a, b, c⟩ := i3 i z (by omega)
        rw [a, b, c]
        exact ⟨pk_uLn (by omega), pk_un (by omega), pk_un (by omega)⟩
/-- what can be undone, in class and model -/
def HI (q : GmT) (R C n : Nat) (h : HiT) (t : xT) : Prop := ∃ z, z ≤ 8 ∧ hZ h = nI z ∧ rs t 5 = nI z ∧ ∃ (P S : Nat → Nat), (∀ i j, i ≤ j → j < z → S i ≤ S j) ∧ ∀ i, i < z → hP h i = nI (P i) ∧ hS h i = nI (S i) ∧ S i ≤ n ∧ S i ≤ 400 ∧ PV (qG q) (hB h i) (P i) ∧ rp (qG q) (qR q) (qS q) (S i) = some (hB h i, nI (P i)) ∧ RQ (fun k => ra t 4 (602 * i + k)) (qG q) R C (hB h i) (P i) (S i) (qR q)
/-- other games with the same beginning of the record -/
theorem HI.cong {q q' : GmT} {R C n n' : Nat} {h : HiT} {t u : xT} (H : HI q R C n h t) (hG : qG q' = qG q) (hS : qS q' = qS q) (hr : ∀ i, i < n → qR q' i = qR q i) (hn : n ≤ n') (h4 : ra u 4 = ra t 4) (h5 : rs u 5 = rs t 5) : HI q' R C n' h u := by
  obtain ⟨z, z8, e1, e2, P, S, mono, H⟩ := H
  refine ⟨z, z8, e1, h5.trans e2, P, S, mono, fun i hi => ?_⟩
  obtain ⟨a1, a2, a3, a4, a5, a6, a7⟩ := H i hi
  refine ⟨a1, a2, by omega, a4, by rw [hG]; exact a5, ?_, ?_⟩
  · rw [hG, hS, rp_cong (S i) fun j hj => hr j (by omega)]; exact a6
  · rw [hG, h4]; exact a7.cong (fun _ _ => rfl) fun j hj _ => hr j (by omega)
/-- the class notes the beginning of a command -/
theorem hBeg_eq {h : HiT} {q : GmT} {z p n : Nat} (hz : hZ h = nI z) (z8 : z ≤ 8) (hp : (qN q).2 = nI p) (hn : qC q = nI n) : hZ (hBeg h q) = nI z ∧ (∀ i, i < z → hB (hBeg h q) i = hB h i ∧ hP (hBeg h q) i = hP h i ∧ hS (hBeg h q) i = hS h i) ∧ hB (hBeg h q) z = (qN q).1 ∧ hP (hBeg h q) z = nI p ∧ hS (hBeg h q) z = nI n := by
  have e : hBeg h q = (vp_updL (hB h) z (qN q).1, upd (hP h) z (nI p), upd (hS h) z (nI n), nI z) := by
    unfold hBeg
    rw [hz, setLn_at (show z < 9 by omega) (by decide), setI_at (show z < 9 by omega) (by decide), setI_at (show z < 9 by omega) (by decide), hp, hn]
  rw [e]
  exact ⟨rfl, fun i hi => ⟨pk_uLn (by omega), pk_un (by omega), pk_un (by omega)⟩, pk_uLs, pk_us, pk_us⟩
theorem HI.beg {q : GmT} {R C p n : Nat} {h : HiT} {t : xT} (H : HI q R C n h t) (hp : (qN q).2 = nI p) (hn : qC q = nI n) : HI q R C n (hBeg h q) t := by
  obtain ⟨z, z8, e1, e2, P, S, mono, H⟩ := H
  obtain ⟨b1, b2, _⟩ := hBeg_eq (q := q) e1 z8 hp hn
  refine ⟨z, z8, b1, e2, P, S, mono, fun i hi => ?_⟩
  obtain ⟨c1, c2, c3⟩ := b2 i hi
  rw [c1, c2, c3]; exact H i hi
/-- .. and its end -/
theorem HI.commit {q0 q1 : GmT} {R C p0 n0 n1 : Nat} {h : HiT} {t0 t u : xT} (H : HI q0 R C n0 h t0) (G0 : GI q0 R C p0 n0) (Q0 : RQ (ra t 3) (qG q0) R C (qN q0).1 p0 n0 (qR q0)) (hn4 : n0 ≤ 400) (hn : n0 ≤ n1) (hG : qG q1 = qG q0) (hSt : qS q1 = qS q0) (hr : ∀ i, i < n0 → qR q1 i = qR q0 i) (h4 : ra t 4 = ra t0 4) (h5 : rs t 5 = rs t0 5) {N : Nat} (hN : 10000 ≤ N) (hu : f_commands N t = some u) : HI q1 R C n1 (cmtH (hBeg h q0)) u := by
  obtain ⟨z, z8, e1, e2, P, S, mono, H⟩ := H
  have pv := G0.2.2.2.2.1
  have rp0 := G0.2.2.2.2.2.2 hn4
  obtain ⟨b1, b2, b3, b4, b5⟩ := hBeg_eq (q := q0) e1 z8 G0.2.1 G0.2.2.1
  obtain ⟨u', c1, c2, c3, c4, c5⟩ := s_commands t hN z8 (h5.trans e2)
  rw [hu] at c1
  cases c1
  have new : PV (qG q1) (qN q0).1 p0 ∧ rp (qG q1) (qR q1) (qS q1) n0 = some ((qN q0).1, nI p0) ∧ RQ (ra t 3) (qG q1) R C (qN q0).1 p0 n0 (qR q1) := by
    rw [hG, hSt, rp_cong n0 hr, rp0]
    exact ⟨pv, by rw [← G0.2.1], Q0.cong (fun _ _ => rfl) fun j hj _ => hr j hj⟩
  have old : ∀ i, i < z → PV (qG q1) (hB h i) (P i) ∧ rp (qG q1) (qR q1) (qS q1) (S i) = some (hB h i, nI (P i)) ∧ RQ (fun k => ra t0 4 (602 * i + k)) (qG q1) R C (hB h i) (P i) (S i) (qR q1) := fun i hi => by
    obtain ⟨a1, a2, a3, a4, a5, a6, a7⟩ := H i hi
    rw [hG, hSt, rp_cong (S i) fun j hj => hr j (by omega)]
    exact ⟨a5, a6, a7.cong (fun _ _ => rfl) fun j hj _ => hr j (by omega)⟩
  unfold cmtH
  rw [b1]
  by_cases hz8 : z = 8
  · subst hz8
    rw [if_pos (by decide)]
    simp only [if_true] at c3 c4 c5
    obtain ⟨d1, _, d3⟩ := fgt_at 8 0 (hBeg h q0) (by omega)
    refine ⟨8, Nat.le_refl _, by rw [d1, b1], c3, fun i => if i = 7 then p0 else P (i + 1), fun i => if i = 7 then n0 else S (i + 1), fun i j hij hj => ?_, fun i hi => ?_⟩
    · simp only
      by_cases w : j = 7
      · rw [if_pos w]
        split
        · exact Nat.le_refl _
        · exact (H (i + 1) (by omega)).2.2.1
      · rw [if_neg w, if_neg (by omega)]; exact mono _ _ (by omega) (by omega)
    · obtain ⟨k1, k2, k3⟩ := d3 i (by omega) (by omega)
      rw [k1, k2, k3]
      simp only
      by_cases w : i = 7
      · subst w
        rw [if_pos rfl, if_pos rfl, b3, b4, b5]
        refine ⟨rfl, rfl, hn, hn4, new.1, new.2.1, new.2.2.cong (fun k hk => c4 k hk) fun _ _ _ => rfl⟩
      · obtain ⟨m1, m2, m3⟩ := b2 (i + 1) (by omega)
        obtain ⟨a1, a2, a3, a4, a5, a6, a7⟩ := H (i + 1) (by omega)
        obtain ⟨o1, o2, o3⟩ := old (i + 1) (by omega)
        rw [if_neg w, if_neg w, m1, m2, m3]
        refine ⟨a1, a2, by omega, a4, o1, o2, o3.cong (fun k hk => ?_) fun _ _ _ => rfl⟩
        show ra u 4 (602 * i + k) = ra t0 4 (602 * (i + 1) + k)
        rw [c5 i k (by omega) hk, h4]
  · have : ¬ (8 : Int32) ≤ nI z := nI_ge (b := 8) (by omega) (by decide)
    rw [if_neg this]
    simp only [hz8, if_false] at c3 c4 c5
    refine ⟨z + 1, by omega, nI_1 z, c3, fun i => if i = z then p0 else P i, fun i => if i = z then n0 else S i, fun i j hij hj => ?_, fun i hi => ?_⟩
    · simp only
      by_cases w : j = z
      · rw [if_pos w]
        split
        · exact Nat.le_refl _
        · exact (H i (by omega)).2.2.1
      · rw [if_neg w, if_neg (by omega)]; exact mono _ _ (by omega) (by omega)
    · show hP (hBeg h q0) i = _ ∧ hS (hBeg h q0) i = _ ∧ _ ∧ _ ∧ PV (qG q1) (hB (hBeg h q0) i) _ ∧ _ = some (hB (hBeg h q0) i, _) ∧ RQ _ (qG q1) R C (hB (hBeg h q0) i) _ _ _
      simp only
      by_cases w : i = z
      · subst w
        rw [if_pos rfl, if_pos rfl, b3, b4, b5]
        refine ⟨rfl, rfl, hn, hn4, new.1, new.2.1, new.2.2.cong (fun k hk => c4 k hk) fun _ _ _ => rfl⟩
      · obtain ⟨m1, m2, m3⟩ := b2 i (by omega)
        obtain ⟨a1, a2, a3, a4, a5, a6, a7⟩ := H i (by omega)
        obtain ⟨o1, o2, o3⟩ := old i (by omega)
        rw [if_neg w, if_neg w, m1, m2, m3]
        refine ⟨a1, a2, by omega, a4, o1, o2, o3.cong (fun k hk => ?_) fun _ _ _ => rfl⟩
        show ra u 4 (602 * i + k) = ra t0 4 (602 * i + k)
        rw [c5 i k (by omega) hk, h4]
