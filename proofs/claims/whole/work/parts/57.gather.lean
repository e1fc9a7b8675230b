/-! goal rooms: the model gathers -/
def adjG (g : gT) (R C : Nat) (c d : Nat) : Nat := if tb (gG g) (nb R C c d) = true then nb R C c d else 64
theorem ga_adj {g : gT} {R C : Nat} (ok : GOk g R C) (c d : Nat) (h : adjG g R C c d < 64) : adjG g R C c d < R * C := by
  unfold adjG at h ⊢
  split at h
  · rename_i q
    rw [if_pos q]; exact ok.sub_goal _ q
  · omega
theorem ga_cert {g : gT} {R C : Nat} (ok : GOk g R C) {a : Nat} (ha : a < R * C) : Cert (AS g R C (gG g)) a (bfR (adjG g R C) a).2.2 := by
  refine cert_of ha ok.rc.le (ga_adj ok) fun p c hp => ?_
  constructor
  · rintro ⟨hc, d, hd, q⟩
    unfold adjG at q
    split at q
    · rename_i z
      rw [q] at z
      exact ⟨z, ok.goal_open z, opd d, opd_lt d, (nb_iff ok.rc hp (ok.sub_goal c z) hd).mp q⟩
    · omega
  · rintro ⟨z, o, d, hd, q⟩
    refine ⟨tb_lt o, opd d, opd_lt d, ?_⟩
    have e := (nb_iff ok.rc (ok.open_lt o) hp hd).mp q
    unfold adjG
    rw [e, if_pos z]
/-- the cells beside that were seen -/
def gFd (g : gT) (R C i d : Nat) (X : bX) (x : Nat) : Prop := tb (gO g) x = true ∧ tb (gG g) x = false ∧ ∃ j e, j < X.2.1 ∧ e < 4 ∧ (j < i ∨ (j = i ∧ e < d)) ∧ nb R C (X.1 j) e = x
def EI (g : gT) (R C i d : Nat) (X : bX) (v ent : Int32) : Prop := (v = 0 ∧ ent = -1 ∧ ∀ x, ¬ gFd g R C i d X x) ∨ ∃ x, x < 64 ∧ ent = nI x ∧ gFd g R C i d X x ∧ ((v = 0 ∧ ∀ y, gFd g R C i d X y → y = x) ∨ ∃ k y z, 0 < k ∧ k ≤ 4 * i + d ∧ v = nI k ∧ gFd g R C i d X y ∧ gFd g R C i d X z ∧ y ≠ z)
def GQ (RCn : Nat) (M : Nat → Bool) (t : xT) (X : bX) : Prop := rs t 16 = nI X.2.1 ∧ (∀ j, j < X.2.1 → ra t 6 j = nI (X.1 j)) ∧ ∀ x, x < RCn → ra t 11 x = bI (M x || decide (X.2.2 x < 64))
theorem gFd_new {g : gT} {R C i d : Nat} {X Y : bX} (hi : i < X.2.1) (hd : d < 4) (hn : X.2.1 ≤ Y.2.1) (hq : ∀ j, j < X.2.1 → Y.1 j = X.1 j) (x : Nat) : gFd g R C i (d + 1) Y x ↔ gFd g R C i d X x ∨ (tb (gO g) x = true ∧ tb (gG g) x = false ∧ nb R C (X.1 i) d = x) := by
  constructor
  · rintro ⟨a, b, j, e, h1, h2, h3, h4⟩
    have hj : j < X.2.1 := by omega
    rw [hq j hj] at h4
    rcases h3 with z | ⟨z, w⟩
    · exact Or.inl ⟨a, b, j, e, hj, h2, Or.inl z, h4⟩
    · by_cases v : e = d
      · subst v; subst z; exact Or.inr ⟨a, b, h4⟩
      · exact Or.inl ⟨a, b, j, e, hj, h2, Or.inr ⟨z, by omega⟩, h4⟩
  · rintro (⟨a, b, j, e, h1, h2, h3, h4⟩ | ⟨a, b, h⟩)
    · exact ⟨a, b, j, e, by omega, h2, by omega, by rw [hq j h1]; exact h4⟩
    · exact ⟨a, b, i, d, by omega, hd, Or.inr ⟨rfl, by omega⟩, by rw [hq i hi]; exact h⟩
theorem EI_none {g : gT} {R C i d : Nat} {X Y : bX} {v ent : Int32} (hi : i < X.2.1) (hd : d < 4) (hn : X.2.1 ≤ Y.2.1) (hq : ∀ j, j < X.2.1 → Y.1 j = X.1 j) (h : EI g R C i d X v ent) (hx : ¬ (tb (gO g) (nb R C (X.1 i) d) = true ∧ tb (gG g) (nb R C (X.1 i) d) = false)) : EI g R C i (d + 1) Y v ent := by
  have f : ∀ x, gFd g R C i (d + 1) Y x ↔ gFd g R C i d X x := fun x => by
    rw [gFd_new hi hd hn hq]
    constructor
    · rintro (z | ⟨a, b, e⟩)
      · exact z
      · rw [← e] at a b; exact absurd ⟨a, b⟩ hx
    · intro z; exact Or.inl z
  rcases h with ⟨h1, h2, h3⟩ | ⟨x, h0, h1, h2, h3⟩
  · exact Or.inl ⟨h1, h2, fun x z => h3 x ((f x).mp z)⟩
  · refine Or.inr ⟨x, h0, h1, (f x).mpr h2, ?_⟩
    rcases h3 with ⟨a, b⟩ | ⟨k, y, z, a, b, c, e1, e2, e3⟩
    · exact Or.inl ⟨a, fun y hy => b y ((f y).mp hy)⟩
    · exact Or.inr ⟨k, y, z, a, by omega, c, (f y).mpr e1, (f z).mpr e2, e3⟩
theorem bfS_q {adj : Nat → Nat → Nat} {c d : Nat} {X : bX} : ∀ j, j < X.2.1 → (bfS adj c d X).1 j = X.1 j := by
  intro j hj
  unfold bfS
  split
  · show (if j = X.2.1 then _ else X.1 j) = _
    rw [if_neg (by omega)]
  · rfl
theorem nIm1 {x : Nat} (h : x < 2 ^ 31) : ¬ nI x < 0 := nI_pos h
theorem ga_step {t : xT} {g : gT} {R C : Nat} (ok : GOk g R C) (hM : GR (ra t 1) g R C) {M : Nat → Bool} (hcl : ∀ x d, x < R * C → d < 4 → M x = true → tb (gG g) (nb R C x d) = true → M (nb R C x d) = true) {a i d : Nat} {X : bX} (h1 : bI1 a X) (h2 : bI2 (adjG g R C) a i d X) (hi : i < X.2.1) (hd : d < 4) (ha : a < R * C) (hm : ∀ j, j < X.2.1 → M (X.1 j) = false) (hg : ∀ j, j < X.2.1 → tb (gG g) (X.1 j) = true) (hr : GQ (R * C) M t X) {v : Int32} (hv : EI g R C i d X v (rs t 24)) (N n : Nat) : ∃ u v', f_gathers_L N (n + 1) 39 v (nI i) (nI d) t = f_gathers_L N n 39 v' (nI i) (nI (d + 1)) u ∧ Frm [11, 6] [16, 24] t u ∧ GQ (R * C) M u (bfS (adjG g R C) (X.1 i) d X) ∧ EI g R C i (d + 1) (bfS (adjG g R C) (X.1 i) d X) v' (rs u 24) ∧ (∀ j, j < (bfS (adjG g R C) (X.1 i) d X).2.1 → M ((bfS (adjG g R C) (X.1 i) d X).1 j) = false) ∧ (∀ j, j < (bfS (adjG g R C) (X.1 i) d X).2.1 → tb (gG g) ((bfS (adjG g R C) (X.1 i) d X).1 j) = true) := by
  obtain ⟨s1, s2, s3, s4⟩ := bfS_ok h1 h2 hi hd
  have h64 := s1.n64
  have i64 := h1.n64
  have hc := bf_rc h1 h2 ha (ga_adj ok) hi
  obtain ⟨r1, r2, r3⟩ := hr
  have hle := ok.rc.le
  have ci : (nI i).toNatClampNeg = i := nI_clamp (by omega)
  have bi : inB (nI i) 64 = true := inB_nI (by omega) (by decide)
  have hb := m_bes ok.rc hM hc hd
  have ho := m_open hM (nb_le ok.rc hc hd)
  have none := EI_none (Y := bfS (adjG g R C) (X.1 i) d X) hi hd s3 bfS_q hv
  have fnew := gFd_new (g := g) (R := R) (C := C) (Y := bfS (adjG g R C) (X.1 i) d X) hi hd s3 bfS_q
  rw [u_gathers_39]
  simp only [n4 hd, if_false, bi, if_true, ci, r2 i hi, hb, Option.bind_some, ho, nI_1 d]
  have ea : adjG g R C (X.1 i) d = if tb (gG g) (nb R C (X.1 i) d) = true then nb R C (X.1 i) d else 64 := rfl
  have back : nb R C (X.1 i) d ≠ 64 → nb R C (nb R C (X.1 i) d) (opd d) = X.1 i ∧ nb R C (X.1 i) d < R * C := fun z => nb_back ok.rc hc hd rfl z
  generalize nb R C (X.1 i) d = e at *
  cases hO : tb (gO g) e with
  | false =>
    have hG : tb (gG g) e = false := by
      cases z : tb (gG g) e with
      | false => rfl
      | true => rw [ok.goal_open z] at hO; cases hO
    have same : bfS (adjG g R C) (X.1 i) d X = X := rel_same (by rw [ea, hG]; simp)
    rw [same] at none ⊢
    simp only [b0f, if_true, Option.bind_some]
    exact ⟨t, v, rfl, Frm.rf, ⟨r1, r2, r3⟩, none (by rw [hO]; simp), hm, hg⟩
  | true =>
    have el : e < 64 := tb_lt hO
    have er := ok.open_lt hO
    have ce : (nI e).toNatClampNeg = e := nI_clamp (by omega)
    simp only [b0t, if_false, bz_nI el, m_goal ok hM el, Option.bind_some]
    cases hG : tb (gG g) e with
    | false =>
      have same : bfS (adjG g R C) (X.1 i) d X = X := rel_same (by rw [ea, hG]; simp)
      rw [same] at fnew ⊢
      simp only [b0f, if_true]
      have fe : gFd g R C i (d + 1) X e := (fnew e).mpr (Or.inr ⟨hO, hG, rfl⟩)
      have old : ∀ x, gFd g R C i d X x → gFd g R C i (d + 1) X x := fun x z => (fnew x).mpr (Or.inl z)
      have gq : GQ (R * C) M (ws t 24 (nI e)) X := ⟨r1, r2, r3⟩
      rcases hv with ⟨q1, q2, q3⟩ | ⟨x, q0, q1, q2, q3⟩
      · have lt : rs t 24 < 0 := by rw [q2]; decide
        simp only [lt, if_true, Option.bind_some]
        refine ⟨ws t 24 (nI e), v + 0, rfl, Frm.ws Frm.rf (by decide) _, gq, Or.inr ⟨e, el, rfl, fe, Or.inl ⟨by rw [q1]; rfl, fun y hy => ?_⟩⟩, hm, hg⟩
        rcases (fnew y).mp hy with z | ⟨_, _, z⟩
        · exact absurd z (q3 y)
        · exact z.symm
      · have lt : ¬ rs t 24 < 0 := by rw [q1]; exact nI_pos (by omega)
        simp only [lt, if_false]
        by_cases hx : x = e
        · have eq : rs t 24 = nI e := by rw [q1, hx]
          simp only [eq, if_true, Option.bind_some]
          refine ⟨ws t 24 (nI e), v + 0, rfl, Frm.ws Frm.rf (by decide) _, gq, Or.inr ⟨e, el, rfl, fe, ?_⟩, hm, hg⟩
          rw [Int32.add_zero]
          rcases q3 with ⟨a1, a2⟩ | ⟨k, y, z, b1, b2, b3, b4, b5, b6⟩
          · refine Or.inl ⟨a1, fun y hy => ?_⟩
            rcases (fnew y).mp hy with z | ⟨_, _, z⟩
            · rw [a2 y z, hx]
            · exact z.symm
          · exact Or.inr ⟨k, y, z, b1, by omega, b3, old y b4, old z b5, b6⟩
        · have ne : ¬ rs t 24 = nI e := by rw [q1]; exact nI_ne (by omega) (by omega) hx
          simp only [ne, if_false, Option.bind_some]
          refine ⟨ws t 24 (nI e), v + 1, rfl, Frm.ws Frm.rf (by decide) _, gq, Or.inr ⟨e, el, rfl, fe, Or.inr ?_⟩, hm, hg⟩
          rcases q3 with ⟨a1, a2⟩ | ⟨k, y, z, b1, b2, b3, b4, b5, b6⟩
          · exact ⟨1, x, e, by omega, by omega, by rw [a1]; rfl, old x q2, fe, hx⟩
          · exact ⟨k + 1, y, z, by omega, by omega, by rw [b3, nI_1], old y b4, old z b5, b6⟩
    | true =>
      have ea : adjG g R C (X.1 i) d = e := by rw [ea, hG]; rfl
      have hMe : M e = false := by
        cases z : M e with
        | false => rfl
        | true =>
          have bk := back (by omega)
          have := hcl e (opd d) er (opd_lt d) z (by rw [bk.1]; exact hg i hi)
          rw [bk.1, hm i hi] at this; cases this
      simp only [b0t, if_false, inB_nI el (show 64 < 2 ^ 31 by decide), if_true, ce, r3 e er, hMe, Bool.false_or, bI_ne0]
      have non2 := none (by rw [hG]; simp)
      rcases bf_s h1 e with w | w
      · have same : bfS (adjG g R C) (X.1 i) d X = X := rel_same (by rw [ea]; omega)
        rw [same] at non2 ⊢
        rw [decide_eq_true w]
        simp only [Bool.true_eq_false, if_false, Option.bind_some]
        exact ⟨t, v, rfl, Frm.rf, ⟨r1, r2, r3⟩, non2, hm, hg⟩
      · have eS : bfS (adjG g R C) (X.1 i) d X = (fun j => if j = X.2.1 then e else X.1 j, X.2.1 + 1, fun x => if x = e then X.2.2 (X.1 i) + 1 else X.2.2 x) := by
          unfold bfS; rw [ea, if_pos ⟨el, w⟩]
        have n63 : X.2.1 < 64 := by rw [eS] at h64; simp only at h64; omega
        have cn : (nI X.2.1).toNatClampNeg = X.2.1 := nI_clamp (by omega)
        have si := (h1.2.2.2.1 i hi).2
        rw [decide_eq_false (by omega)]
        simp only [if_true, Option.bind_some, rs_wa, r1, inB_nI n63 (show 64 < 2 ^ 31 by decide), cn]
        refine ⟨_, v, rfl, Frm.ws (Frm.wa (Frm.wa Frm.rf (by decide) _) (by decide) _) (by decide) _, ?_, ?_, ?_, ?_⟩
        · rw [eS]
          refine ⟨?_, fun j hj => ?_, fun x hx => ?_⟩
          · show nI X.2.1 + 1 = _; rw [nI_1]
          · simp only at hj ⊢
            rw [ra_ws, ra_wa, if_pos rfl, ra_wa, if_neg (by decide)]
            by_cases z : j = X.2.1
            · rw [if_pos z, z, pk_us]
            · rw [if_neg z, pk_un z]; exact r2 j (by omega)
          · simp only
            rw [ra_ws, ra_wa, if_neg (by decide), ra_wa, if_pos rfl]
            by_cases z : x = e
            · subst z
              rw [pk_us]
              simp only [if_true]
              rw [decide_eq_true (show X.2.2 (X.1 i) + 1 < 64 by omega), Bool.or_true]; rfl
            · rw [pk_un z]
              simp only [z, if_false]
              exact r3 x hx
        · exact non2
        · rw [eS]
          intro j hj
          simp only at hj ⊢
          by_cases z : j = X.2.1
          · rw [if_pos z]; exact hMe
          · rw [if_neg z]; exact hm j (by omega)
        · rw [eS]
          intro j hj
          simp only at hj ⊢
          by_cases z : j = X.2.1
          · rw [if_pos z]; exact hG
          · rw [if_neg z]; exact hg j (by omega)
theorem ga_dirs {g : gT} {R C : Nat} (ok : GOk g R C) {M : Nat → Bool} (hcl : ∀ x d, x < R * C → d < 4 → M x = true → tb (gG g) (nb R C x d) = true → M (nb R C x d) = true) {a i c : Nat} (ha : a < R * C) (N n : Nat) : ∀ (k d : Nat) (X : bX) (t : xT) (v : Int32), GR (ra t 1) g R C → bI1 a X → bI2 (adjG g R C) a i d X → i < X.2.1 → d + k = 4 → X.1 i = c → (∀ j, j < X.2.1 → M (X.1 j) = false) → (∀ j, j < X.2.1 → tb (gG g) (X.1 j) = true) → GQ (R * C) M t X → EI g R C i d X v (rs t 24) → ∃ u v', f_gathers_L N (n + k) 39 v (nI i) (nI d) t = f_gathers_L N n 39 v' (nI i) (nI 4) u ∧ Frm [11, 6] [16, 24] t u ∧ GQ (R * C) M u (bfD (adjG g R C) c k d X) ∧ EI g R C i 4 (bfD (adjG g R C) c k d X) v' (rs u 24) ∧ (∀ j, j < (bfD (adjG g R C) c k d X).2.1 → M ((bfD (adjG g R C) c k d X).1 j) = false) ∧ (∀ j, j < (bfD (adjG g R C) c k d X).2.1 → tb (gG g) ((bfD (adjG g R C) c k d X).1 j) = true) := by
  intro k
  induction k with
  | zero =>
    intro d X t v hM h1 h2 hi hd _ hm hg hr hv
    have : d = 4 := by omega
    subst this
    exact ⟨t, v, rfl, Frm.rf, hr, hv, hm, hg⟩
  | succ k ih =>
    intro d X t v hM h1 h2 hi hd hq hm hg hr hv
    obtain ⟨u1, v1, e1, f1, r1, q1, m1, g1⟩ := ga_step ok hM hcl h1 h2 hi (by omega) ha hm hg hr hv N (n + k)
    obtain ⟨s1, s2, s3, s4⟩ := bfS_ok h1 h2 hi (by omega)
    rw [hq] at s1 s2 s3 s4 r1 q1 m1 g1
    obtain ⟨u2, v2, e2, f2, r2, q2, m2, g2⟩ := ih (d + 1) _ u1 v1 (hM.of (f1.a 1 rfl)) s1 s2 (Nat.lt_of_lt_of_le hi s3) (by omega) s4 m1 g1 r1 q1
    exact ⟨u2, v2, by rw [← Nat.add_assoc, e1, e2], f1.trans f2, r2, q2, m2, g2⟩
theorem EI.next {g : gT} {R C i : Nat} {X : bX} {v ent : Int32} (h : EI g R C i 4 X v ent) : EI g R C (i + 1) 0 X v ent := by
  have f : ∀ x, gFd g R C (i + 1) 0 X x ↔ gFd g R C i 4 X x := fun x => by
    constructor
    · rintro ⟨a, b, j, e, h1, h2, h3, h4⟩
      exact ⟨a, b, j, e, h1, h2, by omega, h4⟩
    · rintro ⟨a, b, j, e, h1, h2, h3, h4⟩
      exact ⟨a, b, j, e, h1, h2, by omega, h4⟩
  rcases h with ⟨h1, h2, h3⟩ | ⟨x, h0, h1, h2, h3⟩
  · exact Or.inl ⟨h1, h2, fun x z => h3 x ((f x).mp z)⟩
  · refine Or.inr ⟨x, h0, h1, (f x).mpr h2, ?_⟩
    rcases h3 with ⟨a, b⟩ | ⟨k, y, z, a, b, c, e1, e2, e3⟩
    · exact Or.inl ⟨a, fun y hy => b y ((f y).mp hy)⟩
    · exact Or.inr ⟨k, y, z, a, by omega, c, (f y).mpr e1, (f z).mpr e2, e3⟩
/-- all is seen -/
theorem ga_loop {g : gT} {R C : Nat} (ok : GOk g R C) {M : Nat → Bool} (hcl : ∀ x d, x < R * C → d < 4 → M x = true → tb (gG g) (nb R C x d) = true → M (nb R C x d) = true) {a : Nat} (ha : a < R * C) (N n : Nat) : ∀ (f i : Nat) (X : bX) (t : xT) (v : Int32), GR (ra t 1) g R C → bI1 a X → bI2 (adjG g R C) a i 0 X → 65 ≤ f + i → i ≤ 64 → (∀ j, j < X.2.1 → M (X.1 j) = false) → (∀ j, j < X.2.1 → tb (gG g) (X.1 j) = true) → GQ (R * C) M t X → EI g R C i 0 X v (rs t 24) → ∃ u v' m, f_gathers_L N (n + 1 + 6 * f) 28 v (nI i) 0 t = f_gathers_L N (n + 1) 28 v' (nI m) 0 u ∧ m ≤ 64 ∧ (bfL (adjG g R C) f i X).2.1 ≤ m ∧ Frm [11, 6] [16, 24] t u ∧ GQ (R * C) M u (bfL (adjG g R C) f i X) ∧ EI g R C m 0 (bfL (adjG g R C) f i X) v' (rs u 24) ∧ (∀ j, j < (bfL (adjG g R C) f i X).2.1 → tb (gG g) ((bfL (adjG g R C) f i X).1 j) = true) := by
  intro f
  induction f with
  | zero => intro i X t v hM h1 h2 hf hi; omega
  | succ f ih =>
    intro i X t v hM h1 h2 hf hi hm hg hr hv
    have n64 := h1.n64
    unfold bfL
    by_cases q : i < X.2.1
    · rw [if_pos q]
      obtain ⟨u1, v1, e1, f1, r1, q1, m1, g1⟩ := ga_dirs ok hcl ha N (n + 1 + 6 * f + 1) 4 0 X t v hM h1 h2 q rfl rfl hm hg hr hv
      obtain ⟨t1, t2, t3⟩ := bfD_ok 4 0 X h1 h2 q rfl rfl
      rw [nI_0] at e1
      rw [show n + 1 + 6 * (f + 1) = (n + 1 + 6 * f + 1 + 4) + 1 by omega, u_gathers_28, hr.1, if_neg (nI_ge q (by omega)), e1, u_gathers_39]
      simp only [n44, if_true, nI_1]
      have i64 : i + 1 ≤ 64 := by omega
      obtain ⟨u2, v2, m, e2, b1, b2, f2, r2, q2, g2⟩ := ih (i + 1) _ u1 v1 (hM.of (f1.a 1 rfl)) t1 (t2.next t1) (by omega) i64 m1 g1 r1 q1.next
      exact ⟨u2, v2, m, e2, b1, b2, f1.trans f2, r2, q2, g2⟩
    · rw [if_neg q]
      refine ⟨t, v, i, ?_, hi, by omega, Frm.rf, hr, hv, hg⟩
      rw [show n + 1 + 6 * (f + 1) = (n + 6 * f + 6) + 1 by omega, u_gathers_28, u_gathers_28, hr.1, if_pos (nI_le (by omega) (by omega)), if_pos (nI_le (by omega) (by omega))]
/-- counts of enumerated sets -/
theorem ct_enum : ∀ (n : Nat) (q : Nat → Nat) (P : Nat → Bool), (∀ i j, i < j → j < n → ¬ q i = q j) → (∀ j, j < n → q j < 64) → (∀ x, P x = true ↔ ∃ j, j < n ∧ q j = x) → fb_ct P 64 = n := by
  intro n
  induction n with
  | zero =>
    intro q P _ _ h
    refine fb_ct_zero.mpr fun k _ => ?_
    cases e : P k with
    | false => rfl
    | true => obtain ⟨j, hj, _⟩ := (h k).mp e; omega
  | succ n ih =>
    intro q P hi hl h
    have u := fb_ct_upd P false (i := q n) (n := 64) (hl n (by omega))
    have pn : P (q n) = true := (h _).mpr ⟨n, by omega, rfl⟩
    rw [pn] at u
    have r := ih q (fun k => if k = q n then false else P k) (fun i j a b => hi i j a (by omega)) (fun j hj => hl j (by omega)) fun x => by
      constructor
      · intro z
        by_cases w : x = q n
        · simp only [w, if_true] at z; cases z
        · simp only [w, if_false] at z
          obtain ⟨j, hj, e⟩ := (h x).mp z
          refine ⟨j, ?_, e⟩
          rcases Nat.eq_or_lt_of_le (Nat.le_of_lt_succ hj) with v | v
          · rw [v] at e; exact absurd e.symm w
          · exact v
      · rintro ⟨j, hj, e⟩
        have : ¬ x = q n := fun w => hi j n hj (by omega) (e.trans w)
        simp only [this, if_false]
        exact (h x).mpr ⟨j, by omega, e⟩
    simp only [if_true, Bool.false_eq_true, if_false] at u
    omega
theorem bc_one {s : Int64} : bcF s = 1 ↔ ∃ x, tb s x = true ∧ ∀ y, tb s y = true → y = x := by
  rw [pc_all]
  have le := fb_ct_le (tb s) 64
  constructor
  · intro h
    have h1 : fb_ct (tb s) 64 = 1 := (nI_eq (b := 1) (by omega) (by decide)).mp h
    obtain ⟨x, hx, hb⟩ := fb_ct_pos.mp (show 0 < fb_ct (tb s) 64 by omega)
    refine ⟨x, hb, fun y hy => ?_⟩
    have u := fb_ct_upd (tb s) false hx
    rw [hb] at u
    simp only [if_true, Bool.false_eq_true, if_false] at u
    have z := fb_ct_zero.mp (show fb_ct (fun k => if k = x then false else tb s k) 64 = 0 by omega) y (tb_lt hy)
    refine Classical.byContradiction fun w => ?_
    simp only [w, if_false] at z
    rw [hy] at z; cases z
  · rintro ⟨x, hb, h⟩
    have := ct_enum 1 (fun _ => x) (tb s) (fun i j a b => by omega) (fun _ _ => tb_lt hb) fun y => ⟨fun z => ⟨0, by omega, (h y z).symm⟩, fun ⟨_, _, e⟩ => by rw [← e]; exact hb⟩
    rw [this]; rfl
theorem en_tb {g : gT} {R C : Nat} (ok : GOk g R C) {s : Int64} (hs : Sub R C s) (x : Nat) : tb (enF g s) x = true ↔ tb (gO g) x = true ∧ tb (gG g) x = false ∧ ∃ d, d < 4 ∧ tb s (nb R C x d) = true := by
  unfold enF
  rw [tb_andn, and_t, bs_tb ok hs]
  constructor
  · rintro ⟨⟨a, b⟩, c⟩; exact ⟨a, by simpa using c, b⟩
  · rintro ⟨a, c, b⟩; exact ⟨⟨a, b⟩, by simpa using c⟩
/-- a goal room lies in the queue -/
def RF (g : gT) (u : xT) (S : Int64) : Prop := ∃ (cnt : Nat) (q : Nat → Nat), cnt ≤ 64 ∧ rs u 16 = nI cnt ∧ (∀ j, j < cnt → ra u 6 j = nI (q j) ∧ q j < 64) ∧ (∀ i j, i < j → j < cnt → ¬ q i = q j) ∧ (∀ x, tb S x = true ↔ ∃ j, j < cnt ∧ q j = x) ∧ ∃ x, rs u 24 = nI x ∧ tb (enF g S) x = true ∧ ∀ y, tb (enF g S) y = true → y = x
theorem s_gathers {t : xT} {g : gT} {R C : Nat} (ok : GOk g R C) (hM : GR (ra t 1) g R C) {M : Nat → Bool} (hcl : ∀ x d, x < R * C → d < 4 → M x = true → tb (gG g) (nb R C x d) = true → M (nb R C x d) = true) {a : Nat} (hg : tb (gG g) a = true) (hm : M a = false) (h11 : ∀ x, x < R * C → ra t 11 x = bI (M x)) {N : Nat} (hN : 10000 ≤ N) : ∃ u, f_gathers N t (nI a) = some (bI (decide (bcF (enF g (gSp g (jshl 1 (nI a)) (gG g))) = 1)), u) ∧ Frm [11, 6] [16, 24] t u ∧ (∀ x, x < R * C → ra u 11 x = bI (M x || tb (gSp g (jshl 1 (nI a)) (gG g)) x)) ∧ (bcF (enF g (gSp g (jshl 1 (nI a)) (gG g))) = 1 → RF g u (gSp g (jshl 1 (nI a)) (gG g))) := by
  have hle := ok.rc.le
  have ha := ok.sub_goal a hg
  obtain ⟨z1, z2⟩ := bf0_ok (adj := adjG g R C) (a := a) (by omega)
  obtain ⟨n, hn⟩ : ∃ n, N = n + 1 + 6 * 65 := ⟨N - 391, by omega⟩
  have ca : (nI a).toNatClampNeg = a := nI_clamp (by omega)
  obtain ⟨u, v', m, e1, m64, hmm, f1, r1, q1, g1⟩ := ga_loop ok hcl ha N n 65 0 (bf0 a) (wa (ws (wa (ws t 24 (-1)) 6 (upd (ra t 6) 0 (nI a))) 16 1) 11 (upd (ra t 11) a 1)) 0 hM z1 z2 (by omega) (by omega) (fun j hj => hm) (fun j hj => hg) ⟨rfl, fun j hj => by
      have : j = 0 := by unfold bf0 at hj; simp only at hj; omega
      subst this
      show upd (ra t 6) 0 (nI a) 0 = nI a
      exact pk_us, fun x hx => by
      rw [ra_wa, if_pos rfl]
      unfold bf0
      simp only
      by_cases z : x = a
      · subst z; rw [pk_us]; simp only [if_true]; rw [decide_eq_true (by decide), Bool.or_true]; rfl
      · rw [pk_un z]; simp only [z, if_false]; rw [h11 x hx, decide_eq_false (by decide), Bool.or_false]⟩ (Or.inl ⟨rfl, rfl, fun x => by
      rintro ⟨_, _, j, e, h1, h2, h3, _⟩; omega⟩)
  have f2 : Frm [11, 6] [16, 24] t u := (Frm.wa (Frm.ws (Frm.wa (Frm.ws Frm.rf (by decide) _) (by decide) _) (by decide) _) (by decide) _).trans f1
  have bok := bfR_ok (adj := adjG g R C) (a := a) (by omega)
  have n64 := bok.1.n64
  have area : ∀ x, tb (gSp g (jshl 1 (nI a)) (gG g)) x = decide ((bfR (adjG g R C) a).2.2 x < 64) := fun x => sp_cert ok ha hg (ga_cert ok ha) x
  have mem := bf_mem (adj := adjG g R C) (a := a) (by omega)
  have sS : Sub R C (gSp g (jshl 1 (nI a)) (gG g)) := fun x hx => by
    rw [area x, decide_eq_true_iff, mem] at hx
    obtain ⟨j, hj, e⟩ := hx
    rw [← e]; exact bf_rcn ha hle (ga_adj ok) hj
  have fd : ∀ x, gFd g R C m 0 (bfR (adjG g R C) a) x ↔ tb (enF g (gSp g (jshl 1 (nI a)) (gG g))) x = true := fun x => by
    rw [en_tb ok sS]
    constructor
    · rintro ⟨o, b, j, e, h1, h2, h3, h4⟩
      have jr := bf_rcn ha hle (ga_adj ok) h1
      refine ⟨o, b, opd e, opd_lt e, ?_⟩
      rw [(nb_iff ok.rc jr (ok.open_lt o) h2).mp h4, area, decide_eq_true_iff, mem]
      exact ⟨j, h1, rfl⟩
    · rintro ⟨o, b, d, hd, h⟩
      rw [area, decide_eq_true_iff, mem] at h
      obtain ⟨j, hj, e⟩ := h
      have jr := bf_rcn ha hle (ga_adj ok) hj
      refine ⟨o, b, j, opd d, hj, opd_lt d, Or.inl (Nat.lt_of_lt_of_le hj hmm), ?_⟩
      exact (nb_iff ok.rc (ok.open_lt o) jr hd).mp e.symm
  have er : f_gathers N t (nI a) = Option.bind (if (rs u 24) < 0 then (some (0 : Int32))
          else (if v' = 0 then (some (1 : Int32))
            else (some (0 : Int32)))) fun (r_168 : Int32) =>
        if r_168 &&& 1 = r_168 then (some (r_168, u)) else none := by
    unfold f_gathers
    rw [Option.bind_some, Option.bind_some, Option.bind_some, if_pos (inB_nI (by omega) (by decide)), Option.bind_some, cl_0, ca]
    have e2 : f_gathers_L N (n + 1) 28 v' (nI m) 0 u = Option.bind (if (rs u 24) < 0 then (some (0 : Int32))
          else (if v' = 0 then (some (1 : Int32))
            else (some (0 : Int32)))) fun (r_168 : Int32) =>
        if r_168 &&& 1 = r_168 then (some (r_168, u)) else none := by
      rw [u_gathers_28, r1.1, if_pos (nI_le (show (bfL (adjG g R C) 65 0 (bf0 a)).2.1 ≤ m from hmm) (by omega))]
    rw [nI_0] at e1
    rw [← e2, ← e1, ← hn]; rfl
  refine ⟨u, ?_, f2, fun x hx => by rw [r1.2.2 x hx, area]; rfl, fun h1 => ?_⟩
  · rw [er]
    rcases q1 with ⟨a1, a2, a3⟩ | ⟨x, a0, a1, a2, a3⟩
    · rw [if_pos (by rw [a2]; decide), decide_eq_false]
      · rfl
      · intro w
        obtain ⟨x, hx, _⟩ := bc_one.mp w
        exact a3 x ((fd x).mpr hx)
    · rw [if_neg (by rw [a1]; exact nI_pos (by omega))]
      rcases a3 with ⟨b1, b2⟩ | ⟨k, y, z, b1, b2, b3, b4, b5, b6⟩
      · rw [if_pos b1, decide_eq_true]
        · rfl
        · exact bc_one.mpr ⟨x, (fd x).mp a2, fun y hy => b2 y ((fd y).mpr hy)⟩
      · rw [if_neg (by rw [b3]; exact nI_ne0 b1 (by omega)), decide_eq_false]
        · rfl
        · intro w
          obtain ⟨x, _, hx⟩ := bc_one.mp w
          exact b6 ((hx y ((fd y).mp b4)).trans (hx z ((fd z).mp b5)).symm)
  · obtain ⟨x, hx, hu⟩ := bc_one.mp h1
    refine ⟨(bfR (adjG g R C) a).2.1, (bfR (adjG g R C) a).1, n64, r1.1, fun j hj => ⟨r1.2.1 j hj, (bok.1.2.2.2.1 j hj).1⟩, bok.1.2.2.2.2.1, fun y => by rw [area, decide_eq_true_iff, mem], x, ?_, hx, hu⟩
    rcases q1 with ⟨a1, a2, a3⟩ | ⟨y, a0, a1, a2, a3⟩
    · exact absurd ((fd x).mpr hx) (a3 x)
    · rw [a1, hu y ((fd y).mp a2)]
