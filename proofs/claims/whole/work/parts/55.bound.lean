/-! the bound -/
/-- the class's distances, of box k at 64 k -/
def DOk (g : gT) (R C : Nat) (b : Int64) (d : Nat → Int32) : Prop := ∀ c, tb b c = true → ∀ e, tb (gG g) e = true → intAtF 320 d (64 * nI (fb_ct (tb b) c) + nI e) = sz (dP g R C e c)
theorem ct_lt_all {p : Nat → Bool} {c n : Nat} (hc : c < n) (hp : p c = true) : fb_ct p c < fb_ct p n := by
  have h1 := fb_ct_mono p (show c + 1 ≤ n from hc)
  rw [fb_ct_succ, hp] at h1
  simp at h1; omega
theorem om_in {g : gT} {R C : Nat} {b : Int64} (ok : GOk g R C) (hb : ∀ c, tb b c = true → tb (gO g) c = true) (hJ : fb_ct (tb b) 64 ≤ 5) {d : Nat → Int32} (hd : DOk g R C b d) {e : Nat} (he : tb (gG g) e = true) {v V : Nat} (hV : V < 32) (hv : v ≤ V) (N : Nat) : ∀ (m c n B : Nat) (t : xT) (s : Nat → Int32), c + m = R * C → GR (ra t 1) g R C → GB (ra t 1) b → (∀ x, x < R * C → ra t 8 x = sz (dP g R C e x)) → OkV B V s → B + 64 * m < 2 ^ 30 → (∀ x, x ≤ V → ra t 12 x = s x) → ∃ u, f_oneMore_L N (n + 1 + m) 11 (nI v) (nI (fb_ct (tb b) c)) (nI c) t = f_oneMore_L N n 2 (nI v + (-1)) 0 0 u ∧ Frm [12] [] t u ∧ (∀ x, x ≤ V → ra u 12 x = of1 d (nI e) (nI v) (fb_ct (tb b) 64 - fb_ct (tb b) c) (fb_ct (tb b) c) s x) ∧ OkV (B + 64 * m) V (of1 d (nI e) (nI v) (fb_ct (tb b) 64 - fb_ct (tb b) c) (fb_ct (tb b) c) s) := by
  intro m
  have hle := ok.rc.le
  have all : fb_ct (tb b) (R * C) = fb_ct (tb b) 64 := ct_64 hle fun c hc => ok.open_lt (hb c hc)
  induction m with
  | zero =>
    intro c n B t s hc hM hB h8 hs hb2 h12
    have : c = R * C := by omega
    subst this
    rw [all, Nat.sub_self]
    refine ⟨t, ?_, Frm.rf, h12, hs⟩
    rw [Nat.add_zero, u_oneMore_11, m_size hM, if_pos (nI_le (Nat.le_refl _) (by omega))]
  | succ m ih =>
    intro c n B t s hc hM hB h8 hs hb2 h12
    have hcl : c < R * C := by omega
    rw [show n + 1 + (m + 1) = n + 1 + m + 1 by omega, u_oneMore_11, m_size hM, if_neg (nI_ge hcl (by omega)), m_boxI hB (by omega), Option.bind_some, nI_1 c]
    have cs := fb_ct_succ (tb b) c
    cases hx : tb b c with
    | false =>
      rw [hx] at cs
      simp only [Bool.false_eq_true, if_false, Nat.add_zero] at cs
      simp only [b0f, if_true, Option.bind_some]
      obtain ⟨u, e1, f1, q1, q2⟩ := ih (c + 1) n B t s (by omega) hM hB h8 hs (by omega) h12
      rw [cs] at e1 q1 q2
      exact ⟨u, e1, f1, q1, fun x hx => by
        rcases q2 x hx with z | ⟨a, h1, h2⟩
        · exact Or.inl z
        · exact Or.inr ⟨a, by omega, h2⟩⟩
    | true =>
      rw [hx] at cs
      simp only [if_true] at cs
      have lt := ct_lt_all (p := tb b) (show c < 64 by omega) hx
      simp only [b0t, if_false]
      obtain ⟨w, e0, f0, q0, s0⟩ := om_step (t := t) (c := c) hV (by omega) hs h12 hv (show fb_ct (tb b) c < 5 by omega) (by omega) (dP_or g R C e c (tb_lt (ok.goal_open he))) (h8 c hcl) (hd c hx e he)
      rw [e0, Option.bind_some]
      obtain ⟨u, e1, f1, q1, q2⟩ := ih (c + 1) n (B + 64) w _ (by omega) (hM.of (f0.a 1 rfl)) (hB.of (f0.a 1 rfl)) (fun x hx => by rw [f0.a 8 rfl]; exact h8 x hx) s0 (by omega) q0
      rw [cs] at e1 q1 q2
      have eq : fb_ct (tb b) 64 - fb_ct (tb b) c = fb_ct (tb b) 64 - (fb_ct (tb b) c + 1) + 1 := by omega
      rw [eq, of1_s]
      exact ⟨u, e1, f0.trans f1, q1, fun x hx => by
        rcases q2 x hx with z | ⟨a, h1, h2⟩
        · exact Or.inl z
        · exact Or.inr ⟨a, by omega, h2⟩⟩
theorem om_out {g : gT} {R C : Nat} {b : Int64} (ok : GOk g R C) (hb : ∀ c, tb b c = true → tb (gO g) c = true) (hJ : fb_ct (tb b) 64 ≤ 5) {d : Nat → Int32} (hd : DOk g R C b d) {e : Nat} (he : tb (gG g) e = true) {V : Nat} (hV : V < 32) (N : Nat) : ∀ (v n B : Nat) (t : xT) (s : Nat → Int32), v ≤ V → GR (ra t 1) g R C → GB (ra t 1) b → (∀ x, x < R * C → ra t 8 x = sz (dP g R C e x)) → OkV B V s → B + 4096 * v < 2 ^ 30 → (∀ x, x ≤ V → ra t 12 x = s x) → ∃ u, f_oneMore_L N (n + 1 + 66 * v) 2 (nI v) 0 0 t = some u ∧ Frm [12] [] t u ∧ (∀ x, x ≤ V → ra u 12 x = of2 d (nI e) (fb_ct (tb b) 64) v s x) ∧ OkV (B + 4096 * v) V (of2 d (nI e) (fb_ct (tb b) 64) v s) := by
  intro v
  have hle := ok.rc.le
  induction v with
  | zero =>
    intro n B t s hv hM hB h8 hs hb2 h12
    refine ⟨t, ?_, Frm.rf, h12, hs⟩
    rw [Nat.mul_zero, Nat.add_zero, u_oneMore_2, if_pos (by decide)]
  | succ v ih =>
    intro n B t s hv hM hB h8 hs hb2 h12
    obtain ⟨u, e1, f1, q1, q2⟩ := om_in ok hb hJ hd he hV hv N (R * C) 0 (n + 1 + 66 * v + 64 - R * C) B t s (by omega) hM hB h8 hs (by omega) h12
    have c0 : fb_ct (tb b) 0 = 0 := rfl
    rw [c0, nI_0] at e1
    rw [c0, Nat.sub_zero] at q1 q2
    rw [show n + 1 + 66 * (v + 1) = n + 1 + 66 * v + 64 - R * C + 1 + R * C + 1 by omega, u_oneMore_2, if_neg (nI_nle (by omega) (by omega)), e1, pk_m1]
    rw [show n + 1 + 66 * v + 64 - R * C = (n + 64 - R * C) + 1 + 66 * v by omega]
    obtain ⟨w, e2, f2, q3, q4⟩ := ih (n + 64 - R * C) (B + 4096) u _ (by omega) (hM.of (f1.a 1 rfl)) (hB.of (f1.a 1 rfl)) (fun x hx => by rw [f1.a 8 rfl]; exact h8 x hx) (fun x hx => by
      rcases q2 x hx with z | ⟨a, h1, h2⟩
      · exact Or.inl z
      · exact Or.inr ⟨a, by omega, h2⟩) (by omega) q1
    exact ⟨w, e2, f1.trans f2, q3, fun x hx => by
      rcases q4 x hx with z | ⟨a, h1, h2⟩
      · exact Or.inl z
      · exact Or.inr ⟨a, by omega, h2⟩⟩
theorem bd_goals {g : gT} {R C : Nat} {b : Int64} (ok : GOk g R C) (hb : ∀ c, tb b c = true → tb (gO g) c = true) (hJ : fb_ct (tb b) 64 ≤ 5) {d : Nat → Int32} (hd : DOk g R C b d) {N : Nat} (hN : 10000 ≤ N) {V : Nat} (hV : V < 32) : ∀ (m e n B : Nat) (t : xT) (s : Nat → Int32), e + m = 64 → GR (ra t 1) g R C → GB (ra t 1) b → OkV B V s → B + 131072 * m < 2 ^ 30 → (∀ x, x ≤ V → ra t 12 x = s x) → ∃ u, f_bound_L N (n + 1 + m) 65 (nI V) (nI (min e (R * C))) t = (if 0 ≤ suG d (gG g) (fb_ct (tb b) 64) V m e s V then some (suG d (gG g) (fb_ct (tb b) 64) V m e s V, u) else some (0, ws u 9 2)) ∧ Frm [12, 8, 6] [16] t u ∧ ∃ B', B' < 2 ^ 30 ∧ OkV B' V (suG d (gG g) (fb_ct (tb b) 64) V m e s) := by
  intro m
  have hle := ok.rc.le
  induction m with
  | zero =>
    intro e n B t s he hM hB hs hb2 h12
    refine ⟨t, ?_, Frm.rf, B, by omega, hs⟩
    rw [Nat.add_zero, u_bound_65, m_size hM, if_pos (nI_le (by omega) (by omega)), if_pos (inB_nI hV (by decide)), nI_clamp (by omega), h12 V (Nat.le_refl _), if_pos (inB_nI hV (by decide))]
    show _ = if 0 ≤ s V then some (s V, t) else some (0, ws t 9 2)
    split <;> rfl
  | succ m ih =>
    intro e n B t s he hM hB hs hb2 h12
    have sg : suG d (gG g) (fb_ct (tb b) 64) V (m + 1) e s = suG d (gG g) (fb_ct (tb b) 64) V m (e + 1) (if tb (gG g) e = true then of2 d (nI e) (fb_ct (tb b) 64) V s else s) := by
      show suG _ _ _ _ m (e + 1) (if hasF (gG g) (nI e) = true then _ else s) = _
      rw [has_tb _ (show e < 64 by omega)]
    by_cases hel : e < R * C
    · rw [show n + 1 + (m + 1) = n + 1 + m + 1 by omega, u_bound_65, m_size hM, if_neg (nI_ge (by omega) (by omega)), show min e (R * C) = e by omega, m_goal ok hM (by omega), Option.bind_some, nI_1, sg]
      cases hg : tb (gG g) e with
      | false =>
        simp only [b0f, if_true, Option.bind_some, Bool.false_eq_true, if_false]
        have := ih (e + 1) n B t s (by omega) hM hB hs (by omega) h12
        rw [show min (e + 1) (R * C) = e + 1 by omega] at this
        exact this
      | true =>
        simp only [b0t, if_false, if_true]
        obtain ⟨u1, e1, f1, q1⟩ := s_pu ok hM hel hN
        obtain ⟨n2, hn2⟩ : ∃ n2, N = n2 + 1 + 66 * V := ⟨N - (66 * V + 1), by omega⟩
        obtain ⟨u2, e2, f2, q2, q3⟩ := om_out ok hb hJ hd hg hV N V n2 B u1 s (Nat.le_refl _) (hM.of (f1.a 1 rfl)) (hB.of (f1.a 1 rfl)) q1 hs (by omega) (fun x hx => by rw [f1.a 12 rfl]; exact h12 x hx)
        have e2' : f_oneMore N u1 (nI V) = some u2 := by
          unfold f_oneMore; rw [← e2, ← hn2]
        rw [e1, Option.bind_some, e2', Option.bind_some, Option.bind_some]
        have f3 : Frm [12, 8, 6] [16] t u2 := (f1.up (by decide) (by decide)).trans (f2.up (by decide) (by decide))
        obtain ⟨w, e4, f4, q4⟩ := ih (e + 1) n (B + 131072) u2 _ (by omega) (hM.of (f3.a 1 rfl)) (hB.of (f3.a 1 rfl)) (fun x hx => by
          rcases q3 x hx with z | ⟨a, h1, h2⟩
          · exact Or.inl z
          · exact Or.inr ⟨a, by omega, h2⟩) (by omega) q2
        rw [show min (e + 1) (R * C) = e + 1 by omega] at e4
        exact ⟨w, e4, f3.trans f4, q4⟩
    · have hg : tb (gG g) e = false := by
        cases z : tb (gG g) e with
        | false => rfl
        | true => exact absurd (ok.sub_goal e z) hel
      rw [sg, hg]
      simp only [Bool.false_eq_true, if_false]
      have := ih (e + 1) (n + 1) B t s (by omega) hM hB hs (by omega) h12
      rw [show min (e + 1) (R * C) = min e (R * C) by omega, show n + 1 + 1 + m = n + 1 + (m + 1) by omega] at this
      exact this
theorem su0_at : ∀ (n k : Nat) (s : Nat → Int32), k + n ≤ 32 → (∀ x, x < k → su0 n k s x = s x) ∧ ∀ x, k ≤ x → x < k + n → su0 n k s x = if x = 0 then 0 else -1 := by
  intro n
  induction n with
  | zero => intro k s hk; exact ⟨fun x _ => rfl, fun x h1 h2 => by omega⟩
  | succ n ih =>
    intro k s hk
    unfold su0
    rw [setI_at (show k < 32 by omega) (by decide)]
    obtain ⟨i1, i2⟩ := ih (k + 1) (upd s k (if nI k = 0 then 0 else -1)) (by omega)
    refine ⟨fun x hx => by rw [i1 x (by omega), pk_un (by omega)], fun x h1 h2 => ?_⟩
    rcases Nat.eq_or_lt_of_le h1 with z | z
    · subst z
      rw [i1 k (by omega), pk_us]
      by_cases w : k = 0
      · subst w; rfl
      · rw [if_neg w, if_neg (nI_ne0 (by omega) (by omega))]
    · exact i2 x z (by omega)
theorem bd_fill {V : Nat} (hV : V < 32) (N : Nat) : ∀ (m v n : Nat) (t : xT), v + m = V + 1 → (∀ x, x < v → ra t 12 x = if x = 0 then 0 else -1) → ∃ u, f_bound_L N (n + 1 + m) 37 (nI V) (nI v) t = f_bound_L N n 65 (nI V) 0 u ∧ Frm [12] [] t u ∧ ∀ x, x ≤ V → ra u 12 x = if x = 0 then 0 else -1 := by
  intro m
  induction m with
  | zero =>
    intro v n t hv h
    refine ⟨t, ?_, Frm.rf, fun x hx => h x (by omega)⟩
    rw [Nat.add_zero, u_bound_37, if_pos (nI_lt (by omega) (by omega))]
  | succ m ih =>
    intro v n t hv h
    obtain ⟨u, e, f, q⟩ := ih (v + 1) n (wa t 12 (upd (ra t 12) v (if v = 0 then 0 else -1))) (by omega) fun x hx => by
      rw [ra_wa, if_pos rfl]
      by_cases z : x = v
      · rw [z, pk_us]
      · rw [pk_un z]; exact h x (by omega)
    refine ⟨u, ?_, (Frm.wa Frm.rf (by decide) _).trans f, q⟩
    rw [show n + 1 + (m + 1) = n + 1 + m + 1 by omega, u_bound_37, if_neg (nI_nlt (by omega) (by omega))]
    have e0 : (if nI v = 0 then (some (0 : Int32)) else (some ((-1) : Int32))) = some (if v = 0 then 0 else -1) := by
      by_cases w : v = 0
      · subst w; rfl
      · rw [if_neg w, if_neg (nI_ne0 (by omega) (by omega))]
    rw [e0, Option.bind_some, if_pos (inB_nI (by omega) (by decide)), Option.bind_some, nI_clamp (by omega), nI_1, e]
