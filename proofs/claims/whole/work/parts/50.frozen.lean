/-! frozen boxes -/
theorem bI_ne0 {b : Bool} : (bI b = 0) = (b = false) := propext bI_0
theorem bI_chk2 (b : Bool) {x : Option (Int32 × xT)} : (if bI b &&& 1 = bI b then x else none) = x := if_pos (bI_and b)
theorem bI_ct : bI true = 1 := rfl
theorem bI_cf : bI false = 0 := rfl
theorem z0 : ((0 : Int32) = 0) = True := eq_true rfl
theorem o0 : ((1 : Int32) = 0) = False := eq_false (by decide)
theorem m_blk {t : xT} {g : gT} {R C : Nat} (ok : GOk g R C) (hM : GR (ra t 1) g R C) {q : Nat → Bool} (hF : ∀ x, x < R * C → ra t 10 x = bI (q x)) (hD : ∀ x, x < R * C → ra t 9 x = bI (tb (gD g) x)) {c d : Nat} (hc : c < R * C) (hd : d < 4) : f_isBlocked t (nI c) (nI d) = some (bI (blk g R C q c d)) := by
  have hle := ok.rc.le
  unfold f_isBlocked
  have b1 := m_bes ok.rc hM hc hd
  have b2 := m_bes ok.rc hM hc (opd_lt d)
  have l1 := nb_le ok.rc hc hd
  have l2 := nb_le ok.rc hc (opd_lt d)
  have o1 := m_open hM l1
  have o2 := m_open hM l2
  unfold blk fre
  generalize nb R C c d = a at *
  generalize nb R C c (opd d) = b at *
  simp only [m_opp d hd, b1, b2, o1, o2, Option.bind_some, bI_ne0]
  cases ha : tb (gO g) a with
  | false => simp [bI_ct]
  | true =>
    have al := tb_lt ha
    have ar := ok.open_lt ha
    cases hb : tb (gO g) b with
    | false => simp [bI_ct]
    | true =>
      have bl := tb_lt hb
      have br := ok.open_lt hb
      have c1 : (nI a).toNatClampNeg = a := nI_clamp (by omega)
      have c2 : (nI b).toNatClampNeg = b := nI_clamp (by omega)
      simp only [bz_nI al, bz_nI bl, inB_nI al (show 64 < 2 ^ 31 by decide), inB_nI bl (show 64 < 2 ^ 31 by decide), c1, c2, hF a ar, hF b br, hD a ar, hD b br, if_true, Bool.true_and, bI_ne0, Bool.true_eq_false, if_false, reduceCtorEq]
      cases q a <;> cases q b <;> cases tb (gD g) a <;> cases tb (gD g) b <;> rfl
theorem fz_fill {b : Int64} {g : gT} {R C : Nat} (ok : GOk g R C) (N : Nat) : ∀ (m c n : Nat) (t : xT), c + m = R * C → GR (ra t 1) g R C → GB (ra t 1) b → (∀ x, x < c → ra t 10 x = bI (tb b x)) → ∃ u, f_freezes_L N (n + 1 + m) 2 (nI c) 0 t = f_freezes_L N n 29 1 0 u ∧ Frm [10] [] t u ∧ ∀ x, x < R * C → ra u 10 x = bI (tb b x) := by
  intro m
  have hle := ok.rc.le
  induction m with
  | zero =>
    intro c n t hc hM hB h
    refine ⟨t, ?_, Frm.rf, fun x hx => h x (by omega)⟩
    rw [Nat.add_zero, u_freezes_2, m_size hM, if_pos (nI_le (by omega) (by omega))]
  | succ m ih =>
    intro c n t hc hM hB h
    obtain ⟨u, e, f, q⟩ := ih (c + 1) n (wa t 10 (upd (ra t 10) c (bI (tb b c)))) (by omega) hM hB fun x hx => by
      rw [ra_wa, if_pos rfl]
      by_cases z : x = c
      · rw [z, pk_us]
      · rw [pk_un z]; exact h x (by omega)
    refine ⟨u, ?_, (Frm.wa Frm.rf (by decide) _).trans f, q⟩
    rw [show n + 1 + (m + 1) = n + 1 + m + 1 by omega, u_freezes_2, m_size hM, if_neg (nI_ge (by omega) (by omega)), m_boxI hB (by omega), Option.bind_some, if_pos (inB_nI (by omega) (by decide)), Option.bind_some, nI_clamp (by omega), nar_b, nI_1, e]
/-- one pass -/
theorem fz_pass {g : gT} {R C : Nat} (ok : GOk g R C) (N : Nat) : ∀ (m c n : Nat) (v : Bool) (t : xT) (q : Nat → Bool), c + m = R * C → GR (ra t 1) g R C → (∀ x, x < R * C → ra t 9 x = bI (tb (gD g) x)) → (∀ x, x < R * C → ra t 10 x = bI (q x)) →
    ∃ u q' v', f_freezes_L N (n + 1 + m) 37 (bI v) (nI c) t = f_freezes_L N n 29 (bI v') 0 u ∧ Frm [10] [] t u ∧ (∀ x, x < R * C → ra u 10 x = bI (q' x)) ∧ (∀ x, q' x = true → q x = true) ∧ (∀ X : Nat → Bool, (∀ x, X x = true → q x = true) → SB g R C X → ∀ x, X x = true → q' x = true) ∧ ((v' = v ∧ q' = q ∧ ∀ x, c ≤ x → x < R * C → q x = true → blk g R C q x 0 = true ∧ blk g R C q x 1 = true) ∨ (v' = true ∧ fb_ct q' 64 < fb_ct q 64)) := by
  intro m
  have hle := ok.rc.le
  induction m with
  | zero =>
    intro c n v t q hc hM hD hF
    refine ⟨t, q, v, ?_, Frm.rf, hF, fun _ h => h, fun _ h _ => h, Or.inl ⟨rfl, rfl, fun x h1 h2 => by omega⟩⟩
    rw [Nat.add_zero, u_freezes_37, m_size hM, if_pos (nI_le (by omega) (by omega))]
  | succ m ih =>
    intro c n v t q hc hM hD hF
    have hcl : c < R * C := by omega
    have cc : (nI c).toNatClampNeg = c := nI_clamp (by omega)
    have bc := inB_nI (show c < 64 by omega) (show 64 < 2 ^ 31 by decide)
    have st : f_freezes_L N (n + 1 + (m + 1)) 37 (bI v) (nI c) t = if q c = true ∧ ¬ (blk g R C q c 0 = true ∧ blk g R C q c 1 = true) then f_freezes_L N (n + 1 + m) 37 1 (nI (c + 1)) (wa t 10 (upd (ra t 10) c 0)) else f_freezes_L N (n + 1 + m) 37 (bI v) (nI (c + 1)) t := by
      rw [show n + 1 + (m + 1) = n + 1 + m + 1 by omega, u_freezes_37, m_size hM, if_neg (nI_ge hcl (by omega))]
      have k0 := m_blk ok hM hF hD hcl (show 0 < 4 by decide)
      have k1 := m_blk ok hM hF hD hcl (show 1 < 4 by decide)
      rw [nI_0] at k0
      rw [show nI 1 = 1 from rfl] at k1
      simp only [bc, if_true, cc, hF c hcl, k0, k1, Option.bind_some, nI_1, bI_ne0]
      cases q c with
      | false => simp
      | true =>
        cases blk g R C q c 0 with
        | false => simp; rfl
        | true =>
          cases blk g R C q c 1 with
          | false => simp; rfl
          | true => simp
    by_cases z : q c = true ∧ ¬ (blk g R C q c 0 = true ∧ blk g R C q c 1 = true)
    · rw [if_pos z] at st
      have hq1 : ∀ x, (if x = c then false else q x) = true → q x = true := fun x h => by
        by_cases w : x = c
        · rw [if_pos w] at h; cases h
        · rw [if_neg w] at h; exact h
      obtain ⟨u, q', v', e1, e2, e3, e4, e5, e6⟩ := ih (c + 1) n true (wa t 10 (upd (ra t 10) c 0)) (fun x => if x = c then false else q x) (by omega) hM hD fun x hx => by
        rw [ra_wa, if_pos rfl]
        by_cases w : x = c
        · rw [w, pk_us, if_pos rfl]; rfl
        · rw [pk_un w, if_neg w]; exact hF x hx
      have ctl : fb_ct (fun x => if x = c then false else q x) 64 < fb_ct q 64 := ct_lt (fun k _ => hq1 k) ⟨c, by omega, z.1, by simp⟩
      refine ⟨u, q', v', st.trans e1, (Frm.wa Frm.rf (by decide) _).trans e2, e3, fun x h => hq1 x (e4 x h), fun X hX hB => e5 X (fun x h => ?_) hB, Or.inr ?_⟩
      · by_cases w : x = c
        · subst w
          exact absurd ⟨blk_mono hX (hB x h).1, blk_mono hX (hB x h).2⟩ z.2
        · rw [if_neg w]; exact hX x h
      · rcases e6 with ⟨w1, w2, _⟩ | ⟨w1, w2⟩
        · exact ⟨w1, by rw [w2]; exact ctl⟩
        · exact ⟨w1, by omega⟩
    · rw [if_neg z] at st
      obtain ⟨u, q', v', e1, e2, e3, e4, e5, e6⟩ := ih (c + 1) n v t q (by omega) hM hD hF
      refine ⟨u, q', v', st.trans e1, e2, e3, e4, e5, ?_⟩
      rcases e6 with ⟨w1, w2, w3⟩ | w
      · refine Or.inl ⟨w1, w2, fun x h1 h2 h3 => ?_⟩
        by_cases w : x = c
        · subst w
          exact Classical.byContradiction fun y => z ⟨h3, y⟩
        · exact w3 x (by omega) h2 h3
      · exact Or.inr w
theorem fz_loop {g : gT} {R C : Nat} (ok : GOk g R C) {b : Int64} (hb : ∀ c, tb b c = true → tb (gO g) c = true) (N : Nat) : ∀ (k n : Nat) (t : xT) (q : Nat → Bool), fb_ct q 64 < k → GR (ra t 1) g R C → (∀ x, x < R * C → ra t 9 x = bI (tb (gD g) x)) → (∀ x, x < R * C → ra t 10 x = bI (q x)) → (∀ x, q x = true → tb b x = true) → (∀ x, tb (gFz g b) x = true → q x = true) → ∃ u, f_freezes_L N (n + 2 + 66 * k) 29 1 0 t = some u ∧ Frm [10] [] t u ∧ ∀ x, x < R * C → ra u 10 x = bI (tb (gFz g b) x) := by
  intro k
  have hle := ok.rc.le
  induction k with
  | zero => intro n t q h; omega
  | succ k ih =>
    intro n t q hk hM hD hF hqb hfq
    obtain ⟨f1, f2, f3⟩ := fz_ok ok hb
    obtain ⟨u, q', v', e1, e2, e3, e4, e5, e6⟩ := fz_pass ok N (R * C) 0 (n + 2 + 66 * k + 64 - R * C) false t q (by omega) hM hD hF
    rw [nI_0, bI_cf] at e1
    have s1 : f_freezes_L N (n + 2 + 66 * (k + 1)) 29 1 0 t = f_freezes_L N (n + 2 + 66 * k + 64 - R * C) 29 (bI v') 0 u := by
      rw [show n + 2 + 66 * (k + 1) = (n + 2 + 66 * k + 64 - R * C + 1 + R * C) + 1 by omega, u_freezes_29, if_neg (by decide), e1]
    rw [s1]
    have hMu := hM.of (e2.a 1 rfl)
    have hDu : ∀ x, x < R * C → ra u 9 x = bI (tb (gD g) x) := fun x hx => by rw [e2.a 9 rfl]; exact hD x hx
    have kept : ∀ x, tb (gFz g b) x = true → q' x = true := e5 _ hfq f2
    cases v' with
    | true =>
      have less : fb_ct q' 64 < fb_ct q 64 := by
        rcases e6 with ⟨w, _⟩ | ⟨_, w⟩
        · cases w
        · exact w
      rw [bI_ct, show n + 2 + 66 * k + 64 - R * C = (n + 64 - R * C) + 2 + 66 * k by omega]
      obtain ⟨w, g1, g2, g3⟩ := ih (n + 64 - R * C) u q' (by omega) hMu hDu e3 (fun x h => hqb x (e4 x h)) kept
      exact ⟨w, g1, e2.trans g2, g3⟩
    | false =>
      rw [bI_cf, show n + 2 + 66 * k + 64 - R * C = (n + 2 + 66 * k + 63 - R * C) + 1 by omega, u_freezes_29, if_pos rfl]
      refine ⟨u, rfl, e2, fun x hx => ?_⟩
      rw [e3 x hx]
      congr 1
      apply bool_iff
      refine ⟨fun h => ?_, kept x⟩
      rcases e6 with ⟨_, w2, w3⟩ | ⟨w, _⟩
      · have hx2 := f3 q (fun y hy => hqb y hy) (fun y hy => w3 y (by omega) (ok.open_lt (hb y (hqb y hy))) hy)
        rw [w2] at h
        exact hx2 x h
      · cases w
theorem s_freezes {t : xT} {g : gT} {R C : Nat} {b : Int64} (ok : GOk g R C) (hM : GR (ra t 1) g R C) (hB : GB (ra t 1) b) (hb : ∀ c, tb b c = true → tb (gO g) c = true) (hD : ∀ x, x < R * C → ra t 9 x = bI (tb (gD g) x)) {N : Nat} (hN : 10000 ≤ N) : ∃ u, f_freezes N t = some u ∧ Frm [10] [] t u ∧ ∀ x, x < R * C → ra u 10 x = bI (tb (gFz g b) x) := by
  have hle := ok.rc.le
  unfold f_freezes
  obtain ⟨n, hn⟩ : ∃ n, N = (n + 2 + 66 * 65) + 1 + R * C := ⟨N - (R * C + 4293), by omega⟩
  obtain ⟨u, e1, f1, q1⟩ := fz_fill ok N (R * C) 0 (n + 2 + 66 * 65) t (by omega) hM hB fun x hx => by omega
  rw [nI_0, ← hn] at e1
  have ct := fb_ct_le (tb b) 64
  obtain ⟨v, e2, f2, q2⟩ := fz_loop ok hb N 65 n u (tb b) (by omega) (hM.of (f1.a 1 rfl)) (fun x hx => by rw [f1.a 9 rfl]; exact hD x hx) q1 (fun _ h => h) (fz_ok ok hb).1
  exact ⟨v, by rw [e1]; exact e2, f1.trans f2, q2⟩
