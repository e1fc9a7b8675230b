/-! the search: one more position in the model -/
def FrB (A K : List Nat) (t u : xT) : Prop := (∀ i, i ∉ A → ra u i = ra t i) ∧ (∀ k, k ∉ K → rs u k = rs t k) ∧ ro u = ro t
theorem Frm.toB {A K : List Nat} {t u : xT} (h : Frm A K t u) : FrB A K t u := ⟨h.1, h.2.1, h.2.2.2⟩
theorem FrB.trans {A K : List Nat} {t u v : xT} (h : FrB A K t u) (h2 : FrB A K u v) : FrB A K t v := ⟨fun i hi => (h2.1 i hi).trans (h.1 i hi), fun k hk => (h2.2.1 k hk).trans (h.2.1 k hk), h2.2.2.trans h.2.2⟩
theorem FrB.up {A K A' K' : List Nat} {t u : xT} (h : FrB A K t u) (hA : inL A A' = true) (hK : inL K K' = true) : FrB A' K' t u :=
  ⟨fun i hi => h.1 i fun z => hi (List.contains_iff_mem.mp (List.all_eq_true.mp hA i z)), fun k hk => h.2.1 k fun z => hk (List.contains_iff_mem.mp (List.all_eq_true.mp hK k z)), h.2.2⟩
def SR (q : SeT) (n lim : Nat) (t : xT) : Prop := HT q n ∧ sM q = nI lim ∧ n ≤ lim ∧ lim ≤ 1000 ∧ rs t 31 = nI n ∧ rs t 35 = bI (sY q) ∧ ∀ i, i < n → rb t i = sB q i ∧ ra t 15 i = sP q i ∧ ra t 16 i = sF q i ∧ (1 ≤ i → ra t 17 i = sU q i)
theorem SR.frm {q : SeT} {n lim : Nat} {t u : xT} {A K : List Nat} (h : SR q n lim t) (f : Frm A K t u) (h15 : ra u 15 = ra t 15) (h16 : ra u 16 = ra t 16) (h17 : ra u 17 = ra t 17) (h31 : rs u 31 = rs t 31) (h35 : rs u 35 = rs t 35) : SR q n lim u := by
  obtain ⟨a1, a2, a3, a4, a5, a6, a7⟩ := h
  exact ⟨a1, a2, a3, a4, h31.trans a5, h35.trans a6, fun i hi => by rw [f.2.2.1, h15, h16, h17]; exact a7 i hi⟩
theorem m_takes {t : xT} {g : gT} {R C : Nat} {b0 : Int64} (rc : RC R C) (hM : GR (ra t 1) g R C) (hB : GB (ra t 1) b0) (hb0 : ∀ c, tb b0 c = true → c < R * C) {i : Nat} (hi : i < 1000) (hbi : ∀ c, tb (rb t i) c = true → c < R * C) {N : Nat} (hN : 10000 ≤ N) : ∃ u, f_takes N t (nI i) = some u ∧ Frm [1] [] t u ∧ GR (ra u 1) g R C ∧ GB (ra u 1) (rb t i) ∧ ra u 1 3 = ra t 15 i ∧ ra u 1 4 = ra t 1 4 := by
  have le := rc.le
  have loop : ∀ m k r t1, k + m = R * C → Frm [1] [] t t1 → (∀ c, c < 64 → ra t1 1 (74 + c) = if c < k then bI (tb (rb t i) c) else ra t 1 (74 + c)) → (∀ j, j < 74 → ra t1 1 j = ra t 1 j) → ∃ u, f_takes_L N (r + 1 + m) (nI i) (nI k) t1 = some u ∧ Frm [1] [] t u ∧ (∀ c, c < 64 → ra u 1 (74 + c) = if c < R * C then bI (tb (rb t i) c) else ra t 1 (74 + c)) ∧ (∀ j, j < 74 → j ≠ 3 → ra u 1 j = ra t 1 j) ∧ ra u 1 3 = ra t 15 i := by
    intro m
    induction m with
    | zero =>
      intro k r t1 hk f hc hj
      have kk : k = R * C := by omega
      subst kk
      have s1 : f_size t1 = nI (R * C) := m_size (g := g) ⟨by rw [hj _ (by decide)]; exact hM.1, by rw [hj _ (by decide)]; exact hM.2.1, by rw [hj _ (by decide)]; exact hM.2.2.1, fun c hc => by rw [hj _ (by omega)]; exact hM.2.2.2 c hc⟩
      rw [Nat.add_zero, u_takes_2, s1, if_pos (Int32.le_refl _), if_pos (inB_nI hi (by decide)), Option.bind_some, cl_3, nI_clamp (by omega), f.a 15 rfl]
      refine ⟨_, rfl, f.wa (by decide) _, fun c h64 => ?_, fun j h74 h3 => ?_, ?_⟩
      · rw [ra_wa, if_pos rfl, upd_at, if_neg (by omega)]; exact hc c h64
      · rw [ra_wa, if_pos rfl, upd_at, if_neg h3]; exact hj j h74
      · rw [ra_wa, if_pos rfl, upd_at, if_pos rfl]
    | succ m ih =>
      intro k r t1 hk f hc hj
      have s1 : f_size t1 = nI (R * C) := m_size (g := g) ⟨by rw [hj _ (by decide)]; exact hM.1, by rw [hj _ (by decide)]; exact hM.2.1, by rw [hj _ (by decide)]; exact hM.2.2.1, fun c hc => by rw [hj _ (by omega)]; exact hM.2.2.2 c hc⟩
      have k2 : (74 : Int32) + nI k = nI (74 + k) := nI_add 74 k
      rw [← Nat.add_assoc, u_takes_2, s1, if_neg (nI_ge (show k < R * C by omega) (by omega)), if_pos (inB_nI hi (by decide)), k2, if_pos (inB_nI (show 74 + k < 602 by omega) (by decide)), Option.bind_some, nI_clamp (show 74 + k < 2 ^ 31 by omega), nI_clamp (show i < 2 ^ 31 by omega), f.2.2.1, bit_at _ (show k < 64 by omega), nI_1]
      refine ih (k + 1) r _ (by omega) (f.wa (by decide) _) (fun c h64 => ?_) fun j h74 => ?_
      · rw [ra_wa, if_pos rfl, upd_at]
        by_cases z : c = k
        · rw [if_pos (by omega), if_pos (by omega), z]
        · rw [if_neg (by omega), hc c h64]
          by_cases y : c < k
          · rw [if_pos y, if_pos (by omega)]
          · rw [if_neg y, if_neg (by omega)]
      · rw [ra_wa, if_pos rfl, upd_at, if_neg (by omega)]; exact hj j h74
  obtain ⟨u, e, f, hc, hj, h3⟩ := loop (R * C) 0 (N - 1 - R * C) t (Nat.zero_add _) Frm.rf (fun c _ => by rw [if_neg (Nat.not_lt_zero c)]) fun _ _ => rfl
  rw [show N - 1 - R * C + 1 + R * C = N by omega] at e
  refine ⟨u, e, f, ⟨by rw [hj _ (by decide) (by decide)]; exact hM.1, by rw [hj _ (by decide) (by decide)]; exact hM.2.1, by rw [hj _ (by decide) (by decide)]; exact hM.2.2.1, fun c hc => by rw [hj _ (by omega) (by omega)]; exact hM.2.2.2 c hc⟩, fun c h64 => ?_, h3, hj 4 (by decide) (by decide)⟩
  rw [hc c h64]
  by_cases z : c < R * C
  · rw [if_pos z]
  · rw [if_neg z, hB c h64]
    have z1 : tb b0 c = false := by
      cases y : tb b0 c with
      | false => rfl
      | true => exact absurd (hb0 c y) z
    have z2 : tb (rb t i) c = false := by
      cases y : tb (rb t i) c with
      | false => rfl
      | true => exact absurd (hbi c y) z
    rw [z1, z2]
theorem SR.full {q : SeT} {lim : Nat} {t : xT} (h : SR q lim lim t) : SR (adY q) lim lim (ws t 35 1) := by
  obtain ⟨a1, a2, a3, a4, a5, a6, a7⟩ := h
  exact ⟨a1, a2, a3, a4, a5, rfl, a7⟩
theorem fin_new {t : xT} {k : Nat} (h31 : rs t 31 = nI k) (hk : k < 1000) (b : Int64) (x par pu : Int32) : (Option.bind (some (wb t (vp_updL (rb t) k b))) fun t_80 =>
        if inB (rs t_80 31) 1000 = true then (Option.bind (some (wa t_80 15 (upd (ra t_80 15) (Int32.toNatClampNeg (rs t_80 31)) x))) fun t_91 =>
        if inB (rs t_91 31) 1000 = true then (Option.bind (some (wa t_91 16 (upd (ra t_91 16) (Int32.toNatClampNeg (rs t_91 31)) par))) fun t_101 =>
        if inB (rs t_101 31) 1000 = true then (Option.bind (some (wa t_101 17 (upd (ra t_101 17) (Int32.toNatClampNeg (rs t_101 31)) pu))) fun t_111 =>
        Option.bind (some (ws t_111 31 ((rs t_111 31) + 1))) fun t_119 =>
        some t_119) else none) else none) else none) = some (ws (wa (wa (wa (wb t (vp_updL (rb t) k b)) 15 (upd (ra t 15) k x)) 16 (upd (ra t 16) k par)) 17 (upd (ra t 17) k pu)) 31 (nI (k + 1))) := by
  have e : inB (nI k) 1000 = true := inB_nI hk (by decide)
  have c : (nI k).toNatClampNeg = k := nI_clamp (by omega)
  have e1 : rs (wb t (vp_updL (rb t) k b)) 31 = nI k := h31
  rw [Option.bind_some, e1, if_pos e, c, Option.bind_some]
  generalize ht1 : wa (wb t (vp_updL (rb t) k b)) 15 (upd (ra (wb t (vp_updL (rb t) k b)) 15) k x) = t1
  have f1 : rs t1 31 = nI k := by rw [← ht1]; exact h31
  have g1 : ra t1 16 = ra t 16 := by rw [← ht1]; rfl
  rw [f1, if_pos e, c, Option.bind_some, g1]
  have g2 : ra (wa t1 16 (upd (ra t 16) k par)) 17 = ra t 17 := by rw [← ht1]; rfl
  have f2 : rs (wa t1 16 (upd (ra t 16) k par)) 31 = nI k := f1
  rw [f2, if_pos e, c, Option.bind_some, g2]
  have f3 : rs (wa (wa t1 16 (upd (ra t 16) k par)) 17 (upd (ra t 17) k pu)) 31 = nI k := f1
  rw [Option.bind_some, f3, nI_1, ← ht1]
  rfl
theorem SR.new {q : SeT} {k lim s : Nat} {t : xT} (h : SR q k lim t) (hlt : k < lim) {b : Int64} {x par pu pv : Int32} (hpu : 1 ≤ k → pv = pu) (a : HT (nwS q k s b x par pu) (k + 1)) : SR (nwS q k s b x par pu) (k + 1) lim (ws (wa (wa (wa (wb t (vp_updL (rb t) k b)) 15 (upd (ra t 15) k x)) 16 (upd (ra t 16) k par)) 17 (upd (ra t 17) k pv)) 31 (nI (k + 1))) := by
  obtain ⟨a1, a2, a3, a4, a5, a6, a7⟩ := h
  refine ⟨a, a2, hlt, a4, rfl, a6, fun i hi => ?_⟩
  have c1 : rb (ws (wa (wa (wa (wb t (vp_updL (rb t) k b)) 15 (upd (ra t 15) k x)) 16 (upd (ra t 16) k par)) 17 (upd (ra t 17) k pv)) 31 (nI (k + 1))) i = vp_updL (rb t) k b i := rfl
  have c2 : ra (ws (wa (wa (wa (wb t (vp_updL (rb t) k b)) 15 (upd (ra t 15) k x)) 16 (upd (ra t 16) k par)) 17 (upd (ra t 17) k pv)) 31 (nI (k + 1))) 15 i = upd (ra t 15) k x i := rfl
  have c3 : ra (ws (wa (wa (wa (wb t (vp_updL (rb t) k b)) 15 (upd (ra t 15) k x)) 16 (upd (ra t 16) k par)) 17 (upd (ra t 17) k pv)) 31 (nI (k + 1))) 16 i = upd (ra t 16) k par i := rfl
  have c4 : ra (ws (wa (wa (wa (wb t (vp_updL (rb t) k b)) 15 (upd (ra t 15) k x)) 16 (upd (ra t 16) k par)) 17 (upd (ra t 17) k pv)) 31 (nI (k + 1))) 17 i = upd (ra t 17) k pv i := rfl
  have d1 : sB (nwS q k s b x par pu) i = vp_updL (sB q) k b i := rfl
  have d2 : sP (nwS q k s b x par pu) i = upd (sP q) k x i := rfl
  have d3 : sF (nwS q k s b x par pu) i = upd (sF q) k par i := rfl
  have d4 : sU (nwS q k s b x par pu) i = upd (sU q) k pu i := rfl
  rw [c1, c2, c3, c4, d1, d2, d3, d4, updL_at, updL_at, upd_at, upd_at, upd_at, upd_at, upd_at, upd_at]
  by_cases z : i = k
  · subst z
    refine ⟨by rw [if_pos rfl, if_pos rfl], by rw [if_pos rfl, if_pos rfl], by rw [if_pos rfl, if_pos rfl], fun w => by rw [if_pos rfl, if_pos rfl]; exact hpu w⟩
  · simp only [z, if_false]
    exact a7 i (by omega)
theorem fn_loop {N : Nat} {q : SeT} {n lim : Nat} {t : xT} (h : SR q n lim t) (b : Int64) (l : Nat) (par pu pv : Int32) (hpu : 1 ≤ n → pv = pu) : ∀ m k r, k + m = n → (∀ i, i < k → ¬ (sB q i = b ∧ sP q i = nI l)) → ∃ u n', f_finds_L N (r + 1 + m) par pv (nI lim) b (nI l) (nI k) t = some u ∧ SR (adS q b (nI l) par pu) n' lim u ∧ n ≤ n' ∧ FrB [15, 16, 17] [31, 35] t u := by
  have h' := h
  obtain ⟨a1, a2, a3, a4, a5, a6, a7⟩ := h'
  intro m
  induction m with
  | zero =>
    intro k r hk no
    have kn : k = n := by omega
    subst kn
    obtain ⟨j, s, j1, s1, p1, e1, z1, l1⟩ := a1.miss no
    rw [Nat.add_zero, u_finds_15, a5, if_pos (Int32.le_refl _)]
    by_cases hf : k = lim
    · subst hf
      rw [if_pos rfl]
      refine ⟨ws t 35 1, k, rfl, ?_, Nat.le_refl _, (Frm.ws (A := [15, 16, 17]) (K := [31, 35]) Frm.rf (by decide) 1).toB⟩
      rw [adS_full q b (nI l) par pu (by rw [e1, intAt_at s1 (by decide), z1]) (by rw [a1.1, a2]; exact Int32.lt_irrefl)]
      exact h.full
    · have hlt : k < lim := by omega
      rw [if_neg (nI_ne (show k < 2 ^ 31 by omega) (show lim < 2 ^ 31 by omega) hf), if_pos (inB_nI (show k < 1000 by omega) (by decide)), nI_clamp (show k < 2 ^ 31 by omega), fin_new a5 (by omega), adS_nw a1.1 (by omega) s1 e1 z1 (by rw [a1.1, a2]; exact nI_lt hlt (by omega))]
      refine ⟨_, k + 1, rfl, h.new hlt hpu (a1.add (by omega) j1 s1 p1 z1 l1 par pu), by omega, ?_⟩
      refine ⟨fun i hi => ?_, fun i hi => ?_, rfl⟩
      · have n15 : i ≠ 15 := fun z => hi (by rw [z]; decide)
        have n16 : i ≠ 16 := fun z => hi (by rw [z]; decide)
        have n17 : i ≠ 17 := fun z => hi (by rw [z]; decide)
        show ra (wa (wa (wa (wb t (vp_updL (rb t) k b)) 15 _) 16 _) 17 _) i = _
        rw [ra_wa, if_neg n17, ra_wa, if_neg n16, ra_wa, if_neg n15]; rfl
      · have n31 : i ≠ 31 := fun z => hi (by rw [z]; decide)
        rw [rs_ws, if_neg n31]; rfl
  | succ m ih =>
    intro k r hk no
    obtain ⟨b1, b2, _, _⟩ := a7 k (by omega)
    rw [← Nat.add_assoc, u_finds_15, a5, if_neg (nI_ge (show k < n by omega) (by omega)), if_pos (inB_nI (show k < 1000 by omega) (by decide)), if_pos (inB_nI (show k < 1000 by omega) (by decide)), nI_clamp (by omega), b1, b2, nI_1]
    by_cases y1 : sB q k = b
    · rw [if_pos y1]
      by_cases y2 : sP q k = nI l
      · rw [if_pos y2]
        refine ⟨t, n, rfl, ?_, Nat.le_refl _, (Frm.rf (A := [15, 16, 17]) (K := [31, 35])).toB⟩
        rw [← y1, ← y2, a1.hit (show k < n by omega)]; exact h
      · rw [if_neg y2]
        exact ih (k + 1) r (by omega) fun i hi => by
          by_cases z : i = k
          · rw [z]; exact fun w => y2 w.2
          · exact no i (by omega)
    · rw [if_neg y1]
      exact ih (k + 1) r (by omega) fun i hi => by
        by_cases z : i = k
        · rw [z]; exact fun w => y1 w.1
        · exact no i (by omega)
