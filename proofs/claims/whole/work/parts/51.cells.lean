/-! stuck for which reason; sets and counts of cells -/
theorem fmk_eq {f : Int64} {P : Nat → Bool} {x : Nat} (h : ∀ y, tb f y = P y) (hx : P x = true) (hl : ∀ y, y < x → P y = false) : lowF f = nI x := low_of (by rw [h]; exact hx) fun j hj => by rw [h]; exact hl j hj
theorem tb_andn (a b : Int64) (x : Nat) : tb (a &&& (b ^^^ (-1))) x = (tb a x && !tb b x) := by
  rw [tb_and]
  by_cases h : x < 64
  · rw [tb_not _ h]
  · rw [tb_big (s := a) (by omega)]; rfl
theorem sk_1 {t : xT} {g : gT} {R C : Nat} {b : Int64} (ok : GOk g R C) (hM : GR (ra t 1) g R C) (hB : GB (ra t 1) b) (hD : ∀ x, x < R * C → ra t 9 x = bI (tb (gD g) x)) (N n : Nat) : ∀ (m c : Nat), c + m = R * C → (∀ x, x < c → tb (b &&& gD g) x = false) → (∃ x, f_stuckFor_L N (n + 1 + m) 13 1 (nI c) t = some (1, ws t 21 (nI x)) ∧ tb (b &&& gD g) x = true ∧ ∀ y, y < x → tb (b &&& gD g) y = false) ∨ (f_stuckFor_L N (n + 1 + m) 13 1 (nI c) t = f_stuckFor_L N n 6 2 0 t ∧ b &&& gD g = 0) := by
  intro m
  have hle := ok.rc.le
  induction m with
  | zero =>
    intro c hc h
    refine Or.inr ⟨?_, tb_eq0.mpr fun x _ => ?_⟩
    · rw [Nat.add_zero, u_stuckFor_13, m_size hM, if_pos (nI_le (by omega) (by omega))]; rfl
    · by_cases z : x < c
      · exact h x z
      · cases e : tb (b &&& gD g) x with
        | false => rfl
        | true => rw [tb_and, and_t] at e; have := dd_sub ok x e.2; omega
  | succ m ih =>
    intro c hc h
    have hcl : c < R * C := by omega
    have cc : (nI c).toNatClampNeg = c := nI_clamp (by omega)
    have bc := inB_nI (show c < 64 by omega) (show 64 < 2 ^ 31 by decide)
    rw [show n + 1 + (m + 1) = n + 1 + m + 1 by omega, u_stuckFor_13, m_size hM, if_neg (nI_ge hcl (by omega)), if_pos rfl, m_boxI hB (by omega)]
    simp only [Option.bind_some, bI_ne0, bc, if_true, cc, hD c hcl, nI_1]
    have tc := tb_and b (gD g) c
    cases hb : tb b c with
    | false =>
      simp only [if_true]
      exact ih (c + 1) (by omega) fun x hx => by
        by_cases z : x = c
        · rw [z, tc, hb]; rfl
        · exact h x (by omega)
    | true =>
      cases hd : tb (gD g) c with
      | false =>
        simp only [Bool.true_eq_false, if_false, if_true]
        exact ih (c + 1) (by omega) fun x hx => by
          by_cases z : x = c
          · rw [z, tc, hd]; simp
          · exact h x (by omega)
      | true =>
        simp only [Bool.true_eq_false, if_false]
        exact Or.inl ⟨c, rfl, by rw [tc, hb, hd]; rfl, h⟩
theorem sk_2 {t : xT} {g : gT} {R C : Nat} {f : Int64} (ok : GOk g R C) (hM : GR (ra t 1) g R C) (hf : ∀ x, tb f x = true → x < R * C) (hF : ∀ x, x < R * C → ra t 10 x = bI (tb f x)) (N n : Nat) : ∀ (m c : Nat), c + m = R * C → (∀ x, x < c → tb (f &&& (gG g ^^^ (-1))) x = false) → (∃ x, f_stuckFor_L N (n + 1 + m) 13 2 (nI c) t = some (2, ws t 21 (nI x)) ∧ tb (f &&& (gG g ^^^ (-1))) x = true ∧ ∀ y, y < x → tb (f &&& (gG g ^^^ (-1))) y = false) ∨ (f_stuckFor_L N (n + 1 + m) 13 2 (nI c) t = f_stuckFor_L N n 6 3 0 t ∧ f &&& (gG g ^^^ (-1)) = 0) := by
  intro m
  have hle := ok.rc.le
  induction m with
  | zero =>
    intro c hc h
    refine Or.inr ⟨?_, tb_eq0.mpr fun x _ => ?_⟩
    · rw [Nat.add_zero, u_stuckFor_13, m_size hM, if_pos (nI_le (by omega) (by omega))]; rfl
    · by_cases z : x < c
      · exact h x z
      · cases e : tb (f &&& (gG g ^^^ (-1))) x with
        | false => rfl
        | true => rw [tb_and, and_t] at e; have := hf x e.1; omega
  | succ m ih =>
    intro c hc h
    have hcl : c < R * C := by omega
    have cc : (nI c).toNatClampNeg = c := nI_clamp (by omega)
    have bc := inB_nI (show c < 64 by omega) (show 64 < 2 ^ 31 by decide)
    rw [show n + 1 + (m + 1) = n + 1 + m + 1 by omega, u_stuckFor_13, m_size hM, if_neg (nI_ge hcl (by omega)), if_neg (by decide), m_goal ok hM (by omega)]
    simp only [Option.bind_some, bI_ne0, bc, if_true, cc, hF c hcl, nI_1]
    have tc := tb_andn f (gG g) c
    cases hb : tb f c with
    | false =>
      simp only [if_true]
      exact ih (c + 1) (by omega) fun x hx => by
        by_cases z : x = c
        · rw [z, tc, hb]; rfl
        · exact h x (by omega)
    | true =>
      cases hd : tb (gG g) c with
      | true =>
        simp only [Bool.true_eq_false, if_false]
        exact ih (c + 1) (by omega) fun x hx => by
          by_cases z : x = c
          · rw [z, tc, hd]; simp
          · exact h x (by omega)
      | false =>
        simp only [Bool.true_eq_false, if_false, if_true]
        exact Or.inl ⟨c, rfl, by rw [tc, hb, hd]; rfl, h⟩
theorem s_stuckFor {t : xT} {g : gT} {R C : Nat} {b : Int64} (ok : GOk g R C) (hM : GR (ra t 1) g R C) (hB : GB (ra t 1) b) (hb : ∀ c, tb b c = true → tb (gO g) c = true) (hD : ∀ x, x < R * C → ra t 9 x = bI (tb (gD g) x)) {N : Nat} (hN : 10000 ≤ N) : ∃ u, f_stuckFor N t = some (gSr g b, u) ∧ Frm [10] [21] t u ∧ (¬ gSr g b = 0 → rs u 21 = gSd g b (gSr g b)) := by
  have hle := ok.rc.le
  obtain ⟨u, e, f, hF⟩ := s_freezes ok hM hB hb hD hN
  unfold f_stuckFor
  rw [e, Option.bind_some]
  have hMu := hM.of (f.a 1 rfl)
  have hBu := hB.of (f.a 1 rfl)
  have hDu : ∀ x, x < R * C → ra u 9 x = bI (tb (gD g) x) := fun x hx => by rw [f.a 9 rfl]; exact hD x hx
  have f' : Frm [10] [21] t u := f.up (by decide) (by decide)
  obtain ⟨n, hn⟩ : ∃ n, N = ((n + 1 + 1 + R * C + 1) + 1 + R * C) + 1 := ⟨N - (2 * (R * C) + 5), by omega⟩
  generalize hk : n + 1 + 1 + R * C + 1 = k at hn
  have e0 : f_stuckFor_L N N 6 1 0 u = f_stuckFor_L N (k + 1 + R * C) 13 1 (nI 0) u := by
    conv => lhs; rw [hn]
    rw [u_stuckFor_6, if_neg (by decide), nI_0, ← hn]
  rw [e0]
  rcases sk_1 ok hMu hBu hDu N k (R * C) 0 (by omega) (fun x hx => by omega) with ⟨x, h1, h2, h3⟩ | ⟨h1, h2⟩
  · have nz : ¬ b &&& gD g = 0 := tb_ne0.mpr ⟨x, tb_lt h2, h2⟩
    have er : gSr g b = 1 := by unfold gSr; rw [if_neg nz]
    refine ⟨ws u 21 (nI x), by rw [h1, er], f'.trans (Frm.ws Frm.rf (by decide) _), fun _ => ?_⟩
    rw [er]
    unfold gSd
    rw [if_pos rfl, rs_ws, if_pos rfl, low_of h2 h3]
  · rw [h1, ← hk, u_stuckFor_6, if_neg (by decide), ← nI_0]
    have hf : ∀ x, tb (gFz g b) x = true → x < R * C := fun x hx => ok.open_lt (hb x ((fz_ok ok hb).1 x hx))
    rcases sk_2 ok hMu hf hF N (n + 1) (R * C) 0 (by omega) (fun x hx => by omega) with ⟨x, g1, g2, g3⟩ | ⟨g1, g2⟩
    · have nz : ¬ gFz g b &&& (gG g ^^^ (-1)) = 0 := tb_ne0.mpr ⟨x, tb_lt g2, g2⟩
      have er : gSr g b = 2 := by unfold gSr; rw [if_pos h2, if_neg nz]
      refine ⟨ws u 21 (nI x), by rw [g1, er], f'.trans (Frm.ws Frm.rf (by decide) _), fun _ => ?_⟩
      rw [er]
      unfold gSd
      rw [if_neg (by decide), rs_ws, if_pos rfl, low_of g2 g3]
    · have er : gSr g b = 0 := by unfold gSr; rw [if_pos h2, if_pos g2]
      refine ⟨u, ?_, f', fun z => absurd er z⟩
      rw [g1, u_stuckFor_6, if_pos (by decide), er]
/-! tunnels -/
theorem m_tunnel {t : xT} {g : gT} {R C : Nat} (ok : GOk g R C) (hM : GR (ra t 1) g R C) {c l : Nat} (hc : c < R * C) (hl : l < 2) : f_isTunnel t (nI c) (nI l) = some (bI (tb (gO g) c && (!tb (gG g) c && (!tb (gO g) (nb R C c (1 - l)) && !tb (gO g) (nb R C c (3 - l)))))) := by
  have hle := ok.rc.le
  unfold f_isTunnel
  have e1 : (1 : Int32) - nI l = nI (1 - l) := pk_sub (a := 1) (by omega)
  have e3 : (3 : Int32) - nI l = nI (3 - l) := pk_sub (a := 3) (by omega)
  rw [e1, e3, m_openI hM (by omega), m_goal ok hM (by omega), m_bes ok.rc hM hc (show 1 - l < 4 by omega), m_bes ok.rc hM hc (show 3 - l < 4 by omega)]
  simp only [Option.bind_some, m_open hM (nb_le ok.rc hc (show 1 - l < 4 by omega)), m_open hM (nb_le ok.rc hc (show 3 - l < 4 by omega)), bI_ne0]
  cases tb (gO g) c <;> cases tb (gG g) c <;> cases tb (gO g) (nb R C c (1 - l)) <;> cases tb (gO g) (nb R C c (3 - l)) <;> rfl
theorem tr_tb {g : gT} {R C : Nat} (ok : GOk g R C) (c : Nat) : tb (gTr g) c = (tb (gO g) c && (!tb (gG g) c && (!tb (gO g) (nb R C c 0) && !tb (gO g) (nb R C c 2)))) := by
  unfold gTr
  rw [tb_andn, tb_andn, tb_andn, show (0 : Int32) = nI 0 from rfl, show (2 : Int32) = nI 2 from rfl, mv_tb ok ok.sub_open (by decide), mv_tb ok ok.sub_open (by decide)]
  show (((tb (gO g) c && !tb (gG g) c) && !(tb (gO g) c && tb (gO g) (nb R C c 2))) && !(tb (gO g) c && tb (gO g) (nb R C c 0))) = _
  cases tb (gO g) c <;> cases tb (gG g) c <;> cases tb (gO g) (nb R C c 0) <;> cases tb (gO g) (nb R C c 2) <;> rfl
theorem tc_tb {g : gT} {R C : Nat} (ok : GOk g R C) (c : Nat) : tb (gTc g) c = (tb (gO g) c && (!tb (gG g) c && (!tb (gO g) (nb R C c 1) && !tb (gO g) (nb R C c 3)))) := by
  unfold gTc
  rw [tb_andn, tb_andn, tb_andn, show (3 : Int32) = nI 3 from rfl, show (1 : Int32) = nI 1 from rfl, mv_tb ok ok.sub_open (by decide), mv_tb ok ok.sub_open (by decide)]
  show (((tb (gO g) c && !tb (gG g) c) && !(tb (gO g) c && tb (gO g) (nb R C c 1))) && !(tb (gO g) c && tb (gO g) (nb R C c 3))) = _
  cases tb (gO g) c <;> cases tb (gG g) c <;> cases tb (gO g) (nb R C c 1) <;> cases tb (gO g) (nb R C c 3) <;> rfl
/-! counting -/
theorem so_loop {t : xT} {g : gT} {R C : Nat} {b : Int64} (ok : GOk g R C) (hM : GR (ra t 1) g R C) (hB : GB (ra t 1) b) (hb : ∀ c, tb b c = true → tb (gO g) c = true) (N n : Nat) : ∀ (m c : Nat), c + m = R * C → (∀ x, x < c → tb (b &&& (gG g ^^^ (-1))) x = false) → f_isSolved_L N (n + 1 + m) (nI c) t = some (bI (decide (b &&& (gG g ^^^ (-1)) = 0))) := by
  intro m
  have hle := ok.rc.le
  induction m with
  | zero =>
    intro c hc h
    rw [Nat.add_zero, u_isSolved_2, m_size hM, if_pos (nI_le (by omega) (by omega))]
    have : b &&& (gG g ^^^ (-1)) = 0 := tb_eq0.mpr fun x _ => by
      by_cases z : x < c
      · exact h x z
      · cases e : tb (b &&& (gG g ^^^ (-1))) x with
        | false => rfl
        | true => rw [tb_and, and_t] at e; have := ok.open_lt (hb x e.1); omega
    rw [decide_eq_true this]; rfl
  | succ m ih =>
    intro c hc h
    have hcl : c < R * C := by omega
    rw [show n + 1 + (m + 1) = n + 1 + m + 1 by omega, u_isSolved_2, m_size hM, if_neg (nI_ge hcl (by omega)), m_boxI hB (by omega), m_goal ok hM (by omega)]
    simp only [Option.bind_some, bI_ne0, nI_1]
    have tc := tb_andn b (gG g) c
    cases hx : tb b c with
    | false =>
      simp only [if_true]
      exact ih (c + 1) (by omega) fun x hx2 => by
        by_cases z : x = c
        · rw [z, tc, hx]; rfl
        · exact h x (by omega)
    | true =>
      cases hd : tb (gG g) c with
      | true =>
        simp only [Bool.true_eq_false, if_false]
        exact ih (c + 1) (by omega) fun x hx2 => by
          by_cases z : x = c
          · rw [z, tc, hd]; simp
          · exact h x (by omega)
      | false =>
        simp only [Bool.true_eq_false, if_false, if_true]
        have : ¬ b &&& (gG g ^^^ (-1)) = 0 := tb_ne0.mpr ⟨c, by omega, by rw [tc, hx, hd]; rfl⟩
        rw [decide_eq_false this]; rfl
theorem s_isSolved {t : xT} {g : gT} {R C : Nat} {b : Int64} (ok : GOk g R C) (hM : GR (ra t 1) g R C) (hB : GB (ra t 1) b) (hb : ∀ c, tb b c = true → tb (gO g) c = true) {N : Nat} (hN : 10000 ≤ N) : f_isSolved N t = some (bI (decide (b &&& (gG g ^^^ (-1)) = 0))) := by
  have hle := ok.rc.le
  unfold f_isSolved
  obtain ⟨n, hn⟩ : ∃ n, N = n + 1 + R * C := ⟨N - (R * C + 1), by omega⟩
  have := so_loop ok hM hB hb N n (R * C) 0 (by omega) fun x hx => by omega
  rw [nI_0, ← hn] at this
  exact this
theorem co_loop {t : xT} {g : gT} {R C : Nat} (ok : GOk g R C) (hM : GR (ra t 1) g R C) (N n : Nat) (v : Int32) (P : Nat → Bool) (hP : ∀ c, c < R * C → (if v = 0 then (Option.bind (f_isGoal t (nI c)) fun r_31 => if r_31 = 0 then (some (0 : Int32)) else (some (1 : Int32))) else (if inB (74 + nI c) 602 = true then (some ((ra t 1) (Int32.toNatClampNeg (74 + nI c)))) else none)) = some (bI (P c))) : ∀ (m c k : Nat), c + m = R * C → f_counted_L N (n + 1 + m) v (nI k) (nI c) t = some (nI (k + fb_ct (fun j => P (c + j)) m)) := by
  intro m
  have hle := ok.rc.le
  induction m with
  | zero =>
    intro c k hc
    rw [Nat.add_zero, u_counted_4, m_size hM, if_pos (nI_le (by omega) (by omega))]; rfl
  | succ m ih =>
    intro c k hc
    have hcl : c < R * C := by omega
    rw [show n + 1 + (m + 1) = n + 1 + m + 1 by omega, u_counted_4, m_size hM, if_neg (nI_ge hcl (by omega)), hP c hcl, Option.bind_some, nI_1]
    have e : nI k + bI (P c) = nI (k + (if P c then 1 else 0)) := by
      cases P c
      · show nI k + nI 0 = _; rw [nI_add]; rfl
      · show nI k + nI 1 = _; rw [nI_add]; rfl
    rw [e, ih (c + 1) _ (by omega)]
    congr 2
    have s := fb_ct_split (fun j => P (c + j)) 1 m
    have s1 : fb_ct (fun j => P (c + j)) 1 = if P c then 1 else 0 := by
      show fb_ct (fun j => P (c + j)) (0 + 1) = _
      rw [fb_ct_succ]; show 0 + _ = _; rw [Nat.zero_add]; rfl
    have s2 : (fun k => P (c + (1 + k))) = fun j => P (c + 1 + j) := by funext j; rw [Nat.add_assoc]
    rw [s2, s1, Nat.add_comm 1 m] at s
    omega
theorem ct_64 {P : Nat → Bool} {n : Nat} (hn : n ≤ 64) (h : ∀ c, P c = true → c < n) : fb_ct P n = fb_ct P 64 := by
  have s := fb_ct_split P n (64 - n)
  rw [show n + (64 - n) = 64 by omega] at s
  have z : fb_ct (fun k => P (n + k)) (64 - n) = 0 := fb_ct_zero.mpr fun k _ => by
    cases e : P (n + k) with
    | false => rfl
    | true => have := h _ e; omega
  omega
theorem s_counted {t : xT} {g : gT} {R C : Nat} {b : Int64} (ok : GOk g R C) (hM : GR (ra t 1) g R C) (hB : GB (ra t 1) b) (hb : ∀ c, tb b c = true → tb (gO g) c = true) {N : Nat} (hN : 10000 ≤ N) : f_counted N t 1 = some (bcF b) ∧ f_counted N t 0 = some (bcF (gG g)) := by
  have hle := ok.rc.le
  unfold f_counted
  obtain ⟨n, hn⟩ : ∃ n, N = n + 1 + R * C := ⟨N - (R * C + 1), by omega⟩
  have h1 := co_loop ok hM N n 1 (tb b) (fun c hc => by rw [if_neg (by decide), sfour, if_pos (inB_nI (by omega) (by decide)), nI_clamp (by omega), hB c (by omega)]) (R * C) 0 0 (by omega)
  have h0 := co_loop ok hM N n 0 (tb (gG g)) (fun c hc => by
    rw [if_pos rfl, m_goal ok hM (by omega), Option.bind_some]
    cases tb (gG g) c <;> rfl) (R * C) 0 0 (by omega)
  rw [nI_0, ← hn] at h1 h0
  rw [h1, h0, pc_all, pc_all]
  simp only [Nat.zero_add]
  have e1 : (fun j => tb b j) = tb b := rfl
  have e0 : (fun j => tb (gG g) j) = tb (gG g) := rfl
  rw [e1, e0, ct_64 hle (P := tb b) fun c hc => ok.open_lt (hb c hc), ct_64 hle (P := tb (gG g)) ok.sub_goal]
  exact ⟨rfl, rfl⟩
