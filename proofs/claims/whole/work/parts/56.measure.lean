/-! the class measures -/
theorem off_nI {j e : Nat} : (64 : Int32) * nI j + nI e = nI (64 * j + e) := by
  rw [show (64 : Int32) = nI 64 from rfl, pk_mul, nI_add]
theorem off_n {j : Nat} : (64 : Int32) * nI j = nI (64 * j) := by
  rw [show (64 : Int32) = nI 64 from rfl, pk_mul]
theorem mf1_at {j : Nat} (hj : j < 5) : ∀ (n k : Nat) (d : Nat → Int32), k + n ≤ 64 → (∀ i, (i < 64 * j + k ∨ 64 * j + k + n ≤ i) → mf1 (nI (64 * j)) n k d i = d i) ∧ ∀ i, 64 * j + k ≤ i → i < 64 * j + k + n → mf1 (nI (64 * j)) n k d i = -1 := by
  intro n
  induction n with
  | zero => intro k d hk; exact ⟨fun i _ => rfl, fun i h1 h2 => by omega⟩
  | succ n ih =>
    intro k d hk
    unfold mf1
    rw [nI_add, setI_at (by omega) (by decide)]
    obtain ⟨i1, i2⟩ := ih (k + 1) (upd d (64 * j + k) (-1)) (by omega)
    refine ⟨fun i hi => ?_, fun i h1 h2 => ?_⟩
    · rw [i1 i (by omega), pk_un (by omega)]
    · by_cases z : i = 64 * j + k
      · subst z; rw [i1 _ (by omega), pk_us]
      · exact i2 i (by omega) (by omega)
theorem mf2_at {j : Nat} (hj : j < 5) (q : Int64) (p : Int32) : ∀ (n k : Nat) (d : Nat → Int32), k + n ≤ 64 → (∀ i, (i < 64 * j + k ∨ 64 * j + k + n ≤ i) → mf2 (nI (64 * j)) q p n k d i = d i) ∧ ∀ e, k ≤ e → e < k + n → mf2 (nI (64 * j)) q p n k d (64 * j + e) = if tb q e = true then p else d (64 * j + e) := by
  intro n
  induction n with
  | zero => intro k d hk; exact ⟨fun i _ => rfl, fun i h1 h2 => by omega⟩
  | succ n ih =>
    intro k d hk
    unfold mf2
    rw [nI_add, has_tb _ (show k < 64 by omega)]
    obtain ⟨i1, i2⟩ := ih (k + 1) (if tb q k = true then setIntF 320 d (nI (64 * j + k)) p else d) (by omega)
    refine ⟨fun i hi => ?_, fun e h1 h2 => ?_⟩
    · rw [i1 i (by omega)]
      split
      · rw [setI_at (by omega) (by decide), pk_un (by omega)]
      · rfl
    · by_cases z : e = k
      · subst z
        rw [i1 _ (by omega)]
        split
        · rw [setI_at (by omega) (by decide), pk_us]
        · rfl
      · rw [i2 e (by omega) (by omega)]
        split
        · rfl
        · split
          · rw [setI_at (by omega) (by decide), pk_un (by omega)]
          · rfl
theorem mf3_at {g : gT} {R C : Nat} (ok : GOk g R C) {x j : Nat} (hx : x < R * C) (hj : j < 5) : ∀ (n p : Nat) (d : Nat → Int32), p + n = 64 → (∀ e, e < 64 → d (64 * j + e) = if tb (gG g) e = true ∧ dF g R C x e < p then nI (dF g R C x e) else -1) → (∀ i, (i < 64 * j ∨ 64 * j + 64 ≤ i) → mf3 g (nI (64 * j)) n p (ly (gLp g) (jshl 1 (nI x)) p).1 (ly (gLp g) (jshl 1 (nI x)) p).2 d i = d i) ∧ ∀ e, e < 64 → mf3 g (nI (64 * j)) n p (ly (gLp g) (jshl 1 (nI x)) p).1 (ly (gLp g) (jshl 1 (nI x)) p).2 d (64 * j + e) = if tb (gG g) e = true then sz (dF g R C x e) else -1 := by
  intro n
  have cert := fw_cert ok hx
  induction n with
  | zero =>
    intro p d hp h
    refine ⟨fun i _ => rfl, fun e he => ?_⟩
    show d (64 * j + e) = _
    rw [h e he]
    cases tb (gG g) e with
    | false => simp
    | true =>
      simp only [true_and, if_true]
      rcases cert.2.2.2 e with z | z
      · rw [if_pos (by omega), sz_nI z]
      · rw [if_neg (by omega), z]; rfl
  | succ n ih =>
    intro p d hp h
    unfold mf3
    have crt : ∀ c, tb (ly (gLp g) (jshl 1 (nI x)) p).1 c = decide (dF g R C x c = p) := fun c => ly_cert ok.rc (lp_hN ok) (lp_sub ok) hx cert (by omega) c
    by_cases z : (ly (gLp g) (jshl 1 (nI x)) p).1 = 0
    · rw [if_pos z]
      refine ⟨fun i _ => rfl, fun e he => ?_⟩
      rw [h e he]
      cases tb (gG g) e with
      | false => simp
      | true =>
        simp only [true_and, if_true]
        rcases cert.2.2.2 e with w | w
        · by_cases v : dF g R C x e < p
          · rw [if_pos v, sz_nI w]
          · exfalso
            have nil := ly_nil ok.rc (lp_hN ok) (lp_sub ok) (Sub.bit ok.rc hx) z (dF g R C x e) (by omega)
            have c2 := ly_cert ok.rc (lp_hN ok) (lp_sub ok) hx cert w e
            rw [nil, tb_0] at c2
            simp at c2
        · rw [if_neg (by omega), w]; rfl
    · rw [if_neg z]
      obtain ⟨m1, m2⟩ := mf2_at hj ((ly (gLp g) (jshl 1 (nI x)) p).1 &&& gG g) (nI p) 64 0 d (by omega)
      obtain ⟨i1, i2⟩ := ih (p + 1) (mf2 (nI (64 * j)) ((ly (gLp g) (jshl 1 (nI x)) p).1 &&& gG g) (nI p) 64 0 d) (by omega) fun e he => by
        rw [m2 e (by omega) (by omega), h e he, tb_and, crt e]
        cases tb (gG g) e with
        | false => simp
        | true =>
          simp only [Bool.and_true, decide_eq_true_iff, true_and]
          by_cases v : dF g R C x e = p
          · rw [if_pos v, if_pos (by omega), v]
          · rw [if_neg v]
            by_cases w : dF g R C x e < p
            · rw [if_pos w, if_pos (by omega)]
            · rw [if_neg w, if_neg (by omega)]
      exact ⟨fun i hi => by rw [← m1 i (by omega)]; exact i1 i hi, i2⟩
theorem mfF_at {g : gT} {R C : Nat} (ok : GOk g R C) {x j : Nat} (hx : x < R * C) (hj : j < 5) (d : Nat → Int32) : (∀ i, (i < 64 * j ∨ 64 * j + 64 ≤ i) → mfF g (nI x) (64 * nI j) d i = d i) ∧ ∀ e, e < 64 → mfF g (nI x) (64 * nI j) d (64 * j + e) = if tb (gG g) e = true then sz (dF g R C x e) else -1 := by
  unfold mfF
  rw [off_n]
  obtain ⟨m1, m2⟩ := mf1_at hj 64 0 d (by omega)
  obtain ⟨i1, i2⟩ := mf3_at ok hx hj 64 0 (mf1 (nI (64 * j)) 64 0 d) (by omega) fun e he => by
    rw [m2 _ (by omega) (by omega), if_neg (by omega)]
  exact ⟨fun i hi => by rw [← m1 i (by omega)]; exact i1 i hi, i2⟩
theorem ms_ok {g : gT} {R C : Nat} (ok : GOk g R C) {q : Int64} (hq : ∀ c, tb q c = true → tb (gO g) c = true) (hJ : fb_ct (tb q) 64 ≤ 5) : ∀ (n c : Nat) (d : Nat → Int32), c + n = 64 → ∃ d' : Nat → Int32, msL g q n c (fb_ct (tb q) c) d = (fb_ct (tb q) 64, d') ∧ (∀ i, i < 64 * fb_ct (tb q) c → d' i = d i) ∧ ∀ x, c ≤ x → tb q x = true → ∀ e, e < 64 → d' (64 * fb_ct (tb q) x + e) = if tb (gG g) e = true then sz (dF g R C x e) else -1 := by
  intro n
  induction n with
  | zero =>
    intro c d hc
    have : c = 64 := by omega
    subst this
    exact ⟨d, rfl, fun _ _ => rfl, fun x h1 h2 => by have := tb_lt h2; omega⟩
  | succ n ih =>
    intro c d hc
    unfold msL
    have cs := fb_ct_succ (tb q) c
    have mono := fb_ct_mono (tb q) (show c + 1 ≤ 64 by omega)
    by_cases h5 : 5 ≤ fb_ct (tb q) c
    · rw [if_pos h5]
      refine ⟨d, by congr 1; omega, fun _ _ => rfl, fun x h1 h2 => ?_⟩
      have := ct_lt_all (p := tb q) (tb_lt h2) h2
      have := fb_ct_mono (tb q) h1
      omega
    · rw [if_neg h5, has_tb _ (show c < 64 by omega)]
      cases hx : tb q c with
      | false =>
        rw [hx] at cs
        simp only [Bool.false_eq_true, if_false, Nat.add_zero] at cs ⊢
        obtain ⟨d', e1, e2, e3⟩ := ih (c + 1) d (by omega)
        rw [cs] at e1 e2
        refine ⟨d', e1, e2, fun x h1 h2 => ?_⟩
        by_cases z : x = c
        · rw [z, hx] at h2; cases h2
        · exact e3 x (by omega) h2
      | true =>
        rw [hx] at cs
        simp only [if_true] at cs ⊢
        have hcl := ok.open_lt (hq c hx)
        obtain ⟨f1, f2⟩ := mfF_at ok hcl (show fb_ct (tb q) c < 5 by omega) d
        obtain ⟨d', e1, e2, e3⟩ := ih (c + 1) (mfF g (nI c) (64 * nI (fb_ct (tb q) c)) d) (by omega)
        rw [cs] at e1 e2
        refine ⟨d', e1, fun i hi => by rw [e2 i (by omega), f1 i (by omega)], fun x h1 h2 e he => ?_⟩
        by_cases z : x = c
        · subst z
          rw [e2 _ (by omega), f2 e he]
        · exact e3 x (by omega) h2 e he
theorem ms_dok {g : gT} {R C : Nat} (ok : GOk g R C) {q : Int64} (hq : ∀ c, tb q c = true → tb (gO g) c = true) (hJ : fb_ct (tb q) 64 ≤ 5) (d : Nat → Int32) : (lsM g q d).1 = fb_ct (tb q) 64 ∧ DOk g R C q (lsM g q d).2 := by
  obtain ⟨d', e1, e2, e3⟩ := ms_ok ok hq hJ 64 0 d (by omega)
  have e : lsM g q d = (fb_ct (tb q) 64, d') := e1
  rw [e]
  refine ⟨rfl, fun c hc x hx => ?_⟩
  have lt := ct_lt_all (p := tb q) (tb_lt hc) hc
  have hxl := tb_lt hx
  show intAtF 320 d' _ = _
  rw [off_nI, intAt_at (by omega) (by decide), e3 c (by omega) hc x hxl, if_pos hx, dF_dP ok (hq c hc) (ok.goal_open hx)]
theorem shl_t : ∀ J, J < 6 → ((1 : Int32) <<< (nI J &&& 31)) - 1 = nI (2 ^ J - 1) ∧ 2 ^ J - 1 < 32 := by decide +kernel
theorem ro0 : ((0 : Int32) ≤ 0) = True := eq_true (by decide)
/-- the answer of bound, in a room -/
theorem s_bound {t : xT} {g : gT} {R C : Nat} {b : Int64} (ok : GOk g R C) (hM : GR (ra t 1) g R C) (hB : GB (ra t 1) b) (hb : ∀ c, tb b c = true → tb (gO g) c = true) (hJ : fb_ct (tb b) 64 ≤ 5) {N : Nat} (hN : 10000 ≤ N) (d s : Nat → Int32) : ∃ u, Frm [12, 8, 6] [9, 16] t u ∧ ((lsF g b d s = -1 ∧ f_bound N t = some (0, u) ∧ rs u 9 = 2) ∨ (¬ lsF g b d s = -1 ∧ f_bound N t = some (lsF g b d s, u) ∧ rs u 9 = 0)) := by
  have hle := ok.rc.le
  obtain ⟨m1, m2⟩ := ms_dok ok hb hJ d
  obtain ⟨v1, v2⟩ := shl_t (fb_ct (tb b) 64) (by omega)
  have hp : 1 ≤ 2 ^ fb_ct (tb b) 64 := Nat.one_le_two_pow
  have hls : lsF g b d s = suG (lsM g b d).2 (gG g) (fb_ct (tb b) 64) (2 ^ fb_ct (tb b) 64 - 1) 64 0 (su0 (2 ^ fb_ct (tb b) 64) 0 s) (2 ^ fb_ct (tb b) 64 - 1) := by
    unfold lsF lsS
    rw [m1, intAt_at v2 (by decide)]
  rw [hls]
  unfold f_bound
  rw [m_room hM, Option.bind_some, if_neg (by decide), Option.bind_some, Option.bind_some, rs_ws, if_pos rfl, if_pos (by decide)]
  have hM0 : GR (ra (ws t 9 0) 1) g R C := hM
  rw [(s_counted ok hM0 hB hb hN).1, Option.bind_some, pc_all, v1]
  generalize hV : 2 ^ fb_ct (tb b) 64 - 1 = V at v2
  obtain ⟨n, hn⟩ : ∃ n, N = (n + 1 + 64) + 1 + (V + 1) := ⟨N - (V + 67), by omega⟩
  obtain ⟨u1, e1, f1, q1⟩ := bd_fill v2 N (V + 1) 0 (n + 1 + 64) (ws t 9 0) (by omega) fun x hx => by omega
  rw [nI_0, ← hn] at e1
  obtain ⟨_, z2⟩ := su0_at (2 ^ fb_ct (tb b) 64) 0 s (by omega)
  have okv : OkV 0 V (su0 (2 ^ fb_ct (tb b) 64) 0 s) := fun x hx => by
    rw [z2 x (by omega) (by omega)]
    by_cases w : x = 0
    · exact Or.inr ⟨0, Nat.le_refl _, by rw [if_pos w]; rfl⟩
    · exact Or.inl (if_neg w)
  have f0 : Frm [12, 8, 6] [9, 16] t (ws t 9 0) := Frm.ws Frm.rf (by decide) _
  obtain ⟨u2, e2, f2, B', hB', q2⟩ := bd_goals ok hb hJ m2 hN v2 64 0 n 0 u1 _ (by omega) (hM0.of (f1.a 1 rfl)) (GB.of (t := ws t 9 0) hB (f1.a 1 rfl)) okv (by omega) fun x hx => by rw [q1 x hx, z2 x (by omega) (by omega)]
  have : min 0 (R * C) = 0 := by omega
  rw [this, nI_0] at e2
  have f3 : Frm [12, 8, 6] [9, 16] t u2 := (f0.trans (f1.up (by decide) (by decide))).trans (f2.up (by decide) (by decide))
  have r9 : rs u2 9 = 0 := by rw [f2.s 9 rfl, f1.s 9 rfl]; rfl
  rw [e1, e2]
  rcases q2 V (Nat.le_refl _) with z | ⟨k, h1, h2⟩
  · refine ⟨ws u2 9 2, f3.trans (Frm.ws Frm.rf (by decide) _), Or.inl ⟨z, ?_, rfl⟩⟩
    rw [z, if_neg (by decide)]
  · refine ⟨u2, f3, Or.inr ⟨by rw [h2]; exact m1_nI (by omega), ?_, r9⟩⟩
    rw [if_pos (by rw [h2]; exact nI_pos' (by omega))]
/-! whether a number is a cell's -/
theorem in_cell {t : xT} {g : gT} {R C : Nat} (ok : GOk g R C) (hM : GR (ra t 1) g R C) (a : Int32) : (∃ k, k < R * C ∧ a = nI k ∧ f_in a 0 (f_size t - 1) = some 1) ∨ ((∀ k, k < R * C → ¬ a = nI k) ∧ f_in a 0 (f_size t - 1) = some 0) := by
  have hle := ok.rc.le
  have hge := ok.rc.ge
  rw [m_in, m_size hM, show nI (R * C) - 1 = nI (R * C - 1) from pk_sub (b := 1) (by omega)]
  by_cases h0 : a < 0
  · refine Or.inr ⟨fun k hk z => ?_, ?_⟩
    · rw [z] at h0; exact nI_pos (by omega) h0
    · rw [decide_eq_false (by rw [Int32.not_le]; exact h0)]; rfl
  · obtain ⟨j, hj, e⟩ := nI_of h0
    rw [e, decide_eq_true (nI_pos' hj)]
    by_cases h1 : j < R * C
    · exact Or.inl ⟨j, h1, rfl, by rw [decide_eq_true (nI_le (by omega) (by omega))]; rfl⟩
    · refine Or.inr ⟨fun k hk z => ?_, ?_⟩
      · have := (nI_eq hj (by omega)).mp z; omega
      · rw [decide_eq_false (nI_ge (by omega) hj)]; rfl
theorem has_cell {g : gT} {R C : Nat} (ok : GOk g R C) {s : Int64} (hs : Sub R C s) {a : Int32} (h : ∀ k, k < R * C → ¬ a = nI k) : hasF s a = false := by
  cases e : hasF s a with
  | false => rfl
  | true =>
    obtain ⟨k, hk, h1, h2⟩ := (has_iff s a).mp e
    exact absurd h1 (h k (hs k h2))
/-- the answer of distance, in a room -/
theorem s_distance {t : xT} {g : gT} {R C : Nat} (ok : GOk g R C) (hM : GR (ra t 1) g R C) {N : Nat} (hN : 10000 ≤ N) (a e : Int32) : ∃ u, Frm [8, 6] [9, 16] t u ∧ (((hasF (gO g) a = false ∨ (¬ e = -1 ∧ hasF (gG g) e = false)) ∧ f_distance N t a e = some (0, u) ∧ rs u 9 = 2) ∨
    (hasF (gO g) a = true ∧ (e = -1 ∨ hasF (gG g) e = true) ∧ ((gLe g (jshl 1 a) (if e = -1 then gG g else jshl 1 e) = -1 ∧ f_distance N t a e = some (0, u) ∧ rs u 9 = 3) ∨ (¬ gLe g (jshl 1 a) (if e = -1 then gG g else jshl 1 e) = -1 ∧ f_distance N t a e = some (gLe g (jshl 1 a) (if e = -1 then gG g else jshl 1 e), u) ∧ rs u 9 = 0)))) := by
  have hle := ok.rc.le
  have no : ∀ b : Bool, b = false → (hasF (gO g) a = false ∨ (¬ e = -1 ∧ hasF (gG g) e = false)) → f_distance N t a e = (Option.bind (some (bI b)) fun (r_11 : Int32) =>
  Option.bind (f_hasRoom t) fun r_57 =>
  Option.bind (if r_57 = 0 then (some (1 : Int32))
    else (if r_11 = 0 then (some (2 : Int32))
      else (some (0 : Int32)))) fun (r_60 : Int32) =>
  Option.bind (some (ws t 9 r_60)) fun t_76 =>
  if (rs t_76 9) ≤ 0 then (f_distance_L N N a e (-1) 0 t_76)
  else (some ((0 : Int32), t_76))) → ∃ u, Frm [8, 6] [9, 16] t u ∧ (((hasF (gO g) a = false ∨ (¬ e = -1 ∧ hasF (gG g) e = false)) ∧ f_distance N t a e = some (0, u) ∧ rs u 9 = 2) ∨
    (hasF (gO g) a = true ∧ (e = -1 ∨ hasF (gG g) e = true) ∧ ((gLe g (jshl 1 a) (if e = -1 then gG g else jshl 1 e) = -1 ∧ f_distance N t a e = some (0, u) ∧ rs u 9 = 3) ∨ (¬ gLe g (jshl 1 a) (if e = -1 then gG g else jshl 1 e) = -1 ∧ f_distance N t a e = some (gLe g (jshl 1 a) (if e = -1 then gG g else jshl 1 e), u) ∧ rs u 9 = 0)))) := by
    intro b hb h1 h2
    refine ⟨ws t 9 2, Frm.ws Frm.rf (by decide) _, Or.inl ⟨h1, ?_, rfl⟩⟩
    rw [h2, hb, m_room hM]; rfl
  have yes : ∀ (c : Nat) (T : Int64), c < R * C → tb (gO g) c = true → a = nI c → (∀ e, tb T e = true → tb (gO g) e = true) → ((e = -1 ∧ T = gG g) ∨ ∃ gl, gl < 64 ∧ e = nI gl ∧ T = jshl 1 (nI gl)) → (if e = -1 then gG g else jshl 1 e) = T → hasF (gO g) a = true → (e = -1 ∨ hasF (gG g) e = true) → f_distance N t a e = (Option.bind (some (1 : Int32)) fun (r_11 : Int32) =>
  Option.bind (f_hasRoom t) fun r_57 =>
  Option.bind (if r_57 = 0 then (some (1 : Int32))
    else (if r_11 = 0 then (some (2 : Int32))
      else (some (0 : Int32)))) fun (r_60 : Int32) =>
  Option.bind (some (ws t 9 r_60)) fun t_76 =>
  if (rs t_76 9) ≤ 0 then (f_distance_L N N a e (-1) 0 t_76)
  else (some ((0 : Int32), t_76))) → ∃ u, Frm [8, 6] [9, 16] t u ∧ (((hasF (gO g) a = false ∨ (¬ e = -1 ∧ hasF (gG g) e = false)) ∧ f_distance N t a e = some (0, u) ∧ rs u 9 = 2) ∨
    (hasF (gO g) a = true ∧ (e = -1 ∨ hasF (gG g) e = true) ∧ ((gLe g (jshl 1 a) (if e = -1 then gG g else jshl 1 e) = -1 ∧ f_distance N t a e = some (0, u) ∧ rs u 9 = 3) ∨ (¬ gLe g (jshl 1 a) (if e = -1 then gG g else jshl 1 e) = -1 ∧ f_distance N t a e = some (gLe g (jshl 1 a) (if e = -1 then gG g else jshl 1 e), u) ∧ rs u 9 = 0)))) := by
    intro c T hc ho ha hT hv hTe h1 h2 h3
    obtain ⟨n, hn⟩ : ∃ n, N = n + 1 + R * C := ⟨N - (R * C + 1), by omega⟩
    obtain ⟨u, e1, f1⟩ := ds_loop ok hN hc hT hv (R * C) 0 n (ws t 9 0) (by omega) hM
    rw [nI_0, ← hn] at e1
    have f2 : Frm [8, 6] [9, 16] t u := (Frm.ws Frm.rf (by decide) 0).trans (f1.up (by decide) (by decide))
    have r9 : rs u 9 = 0 := by rw [f1.s 9 rfl]; rfl
    have e2 : f_distance N t a e = f_distance_L N N (nI c) e (sz (mnT (tb T) (fun x => dP g R C x c) 0)) 0 (ws t 9 0) := by
      rw [h3, m_room hM, ha]; rfl
    rw [hTe, ha, le_mn ok ho hT]
    rw [ha] at e2 h1
    by_cases z : mnT (tb T) (fun x => dP g R C x c) (R * C) < 64
    · refine ⟨u, f2, Or.inr ⟨h1, h2, Or.inr ⟨?_, ?_, r9⟩⟩⟩
      · rw [sz_nI z]; exact m1_nI (by omega)
      · rw [e2, e1, if_pos z]
    · refine ⟨ws u 9 3, f2.trans (Frm.ws Frm.rf (by decide) _), Or.inr ⟨h1, h2, Or.inl ⟨?_, ?_, rfl⟩⟩⟩
      · unfold sz; rw [if_neg z]
      · rw [e2, e1, if_neg z]
  rcases in_cell ok hM a with ⟨c, hc, ha, hi⟩ | ⟨ha, hi⟩
  · have hh : hasF (gO g) a = tb (gO g) c := by rw [ha]; exact has_tb _ (by omega)
    cases ho : tb (gO g) c with
    | false =>
      refine no false rfl (Or.inl (by rw [hh, ho])) ?_
      unfold f_distance
      rw [hi, Option.bind_some, if_neg (by decide), ha, m_openI hM (by omega), ho]; rfl
    | true =>
      have pre : f_distance N t a e = Option.bind (if e = (-1) then (some (1 : Int32))
        else (Option.bind (f_in e 0 ((f_size t) - 1)) fun r_35 =>
          if r_35 = 0 then (some (0 : Int32))
          else (Option.bind (f_isGoal t e) fun r_43 =>
            if r_43 = 0 then (some (0 : Int32))
            else (some (1 : Int32))))) fun (r_11 : Int32) =>
  Option.bind (f_hasRoom t) fun r_57 =>
  Option.bind (if r_57 = 0 then (some (1 : Int32))
    else (if r_11 = 0 then (some (2 : Int32))
      else (some (0 : Int32)))) fun (r_60 : Int32) =>
  Option.bind (some (ws t 9 r_60)) fun t_76 =>
  if (rs t_76 9) ≤ 0 then (f_distance_L N N a e (-1) 0 t_76)
  else (some ((0 : Int32), t_76)) := by
        unfold f_distance
        rw [hi, Option.bind_some, if_neg (by decide), ha, m_openI hM (by omega), ho]; rfl
      by_cases he : e = -1
      · refine yes c (gG g) hc ho ha (fun x hx => ok.goal_open hx) (Or.inl ⟨he, rfl⟩) (if_pos he) (by rw [hh, ho]) (Or.inl he) ?_
        rw [pre, if_pos he]
      · rw [if_neg he] at pre
        rcases in_cell ok hM e with ⟨gl, hgl, h1, h2⟩ | ⟨h1, h2⟩
        · rw [h2, Option.bind_some, if_neg (by decide)] at pre
          have hg : hasF (gG g) e = tb (gG g) gl := by rw [h1]; exact has_tb _ (by omega)
          have mg := m_goal ok hM (show gl < 64 by omega)
          rw [← h1] at mg
          rw [mg, Option.bind_some] at pre
          cases hg2 : tb (gG g) gl with
          | false =>
            rw [hg2] at pre
            exact no false rfl (Or.inr ⟨he, by rw [hg, hg2]⟩) pre
          | true =>
            rw [hg2] at pre
            refine yes c (jshl 1 (nI gl)) hc ho ha (fun x hx => ?_) (Or.inr ⟨gl, by omega, h1, rfl⟩) (by rw [if_neg he, h1]) (by rw [hh, ho]) (Or.inr (by rw [hg, hg2])) pre
            rw [(bit_eq ok.rc hgl x).mp hx]; exact ok.goal_open hg2
        · rw [h2] at pre
          exact no false rfl (Or.inr ⟨he, has_cell ok ok.sub_goal h1⟩) pre
  · refine no false rfl (Or.inl (has_cell ok ok.sub_open ha)) ?_
    unfold f_distance
    rw [hi]; rfl
