/-! the search: its run -/
def srEnd (N n : Nat) (v3 v4 : Int32) (t : xT) : Option (Int32 × xT) := Option.bind (f_goesBack N t) fun r_80 =>
          if v4 = 0 then (Option.bind (if (rs r_80 35) = 1 then (some (3 : Int32))
              else (some (4 : Int32))) fun (r_93 : Int32) =>
            some (r_93, r_80))
          else (Option.bind (some (ws r_80 34 (rs r_80 31))) fun t_107 =>
            Option.bind (some (ws t_107 33 0)) fun t_112 =>
            f_searches_L N n 118 0 0 v3 0 v3 0 t_112)
theorem FrB.rf {A K : List Nat} {t : xT} : FrB A K t t := ⟨fun _ _ => rfl, fun _ _ => rfl, rfl⟩
theorem ru_stop {g : gT} {k j : Nat} {q : SeT} (hj : j < 2 ^ 20) (h : sV q = nI j) (m : Nat) : ruL g m k q = q := by
  cases m with
  | zero => rfl
  | succ m =>
    show (if sN q ≤ nI k then q else if sV q = -1 then _ else q) = q
    rw [h, if_neg (nI_m1 (by omega))]
    split <;> rfl
theorem ru_ok {g : gT} {R C : Nat} (ok : GOk g R C) {lim : Nat} {wt : Bool} {N M : Nat} (hN : 10000 ≤ N) (hM : M = 1000) : ∀ m k q n t F, k + m = M → m + 2 ≤ F → VS g R C q n lim t → sV q = -1 → sW q = wt → ∃ u n' j F' v4, f_searches_L N F 30 (nI lim) (bI wt) (nI k) 0 0 0 t = srEnd N F' (nI j) v4 u ∧ F ≤ F' + m + 2 ∧ VS g R C (ruL g m k q) n' lim u ∧ n ≤ n' ∧ FrB [1, 6, 7, 10, 15, 16, 17] [16, 21, 26, 31, 35] t u ∧ ((v4 = 0 ∧ sV (ruL g m k q) = -1) ∨ (v4 = 1 ∧ j < n' ∧ sV (ruL g m k q) = nI j ∧ sY (ruL g m k q) = false)) ∧ ∀ i, i < n → sB (ruL g m k q) i = sB q i ∧ sP (ruL g m k q) i = sP q i := by
  have le := ok.rc.le
  intro m
  induction m with
  | zero =>
    intro k q n t F hk hF h hv hw
    obtain ⟨F', rfl⟩ : ∃ F', F = F' + 1 := ⟨F - 1, by omega⟩
    have hn : n ≤ 1000 := h.2.2.1.1.2.1
    refine ⟨t, n, k, F', 0, ?_, by omega, h, Nat.le_refl n, FrB.rf, Or.inl ⟨rfl, hv⟩, fun _ _ => ⟨rfl, rfl⟩⟩
    rw [u_searches_30, if_pos rfl, h.2.2.1.2.2.2.2.1, if_pos (nI_le (show n ≤ k by omega) (by omega))]
    rfl
  | succ m ih =>
    intro k q n t F hk hF h hv hw
    obtain ⟨F', rfl⟩ : ∃ F', F = F' + 1 := ⟨F - 1, by omega⟩
    have hn : n ≤ 1000 := h.2.2.1.1.2.1
    have h31 : rs t 31 = nI n := h.2.2.1.2.2.2.2.1
    have h35 : rs t 35 = bI (sY q) := h.2.2.1.2.2.2.2.2.1
    have hN' : sN q = nI n := h.2.2.1.1.1
    have ru : ruL g (m + 1) k q = if sN q ≤ nI k then q else if sV q = -1 then (if sY q = true then q else ruL g m (k + 1) (viS g q (nI k))) else q := rfl
    rw [u_searches_30, if_pos rfl, h31, ru, hN']
    by_cases hk' : n ≤ k
    · rw [if_pos (nI_le hk' (by omega)), if_pos (nI_le hk' (by omega))]
      exact ⟨t, n, k, F', 0, rfl, by omega, h, Nat.le_refl n, FrB.rf, Or.inl ⟨rfl, hv⟩, fun _ _ => ⟨rfl, rfl⟩⟩
    · rw [if_neg (nI_ge (show k < n by omega) (by omega)), if_neg (nI_ge (show k < n by omega) (by omega)), if_pos hv, h35]
      cases hY : sY q with
      | true =>
        rw [if_neg (show ¬ bI true = 0 by decide), if_pos rfl]
        exact ⟨t, n, k, F', 0, rfl, by omega, h, Nat.le_refl n, FrB.rf, Or.inl ⟨rfl, hv⟩, fun _ _ => ⟨rfl, rfl⟩⟩
      | false =>
        rw [if_pos (show bI false = 0 from rfl), if_neg (by decide)]
        obtain ⟨hMr, ⟨b0, hB0, hb0⟩, sr, nv, hD⟩ := h
        have hi : k < n := by omega
        have h1000 : k < 1000 := by omega
        obtain ⟨⟨l, l1, pv⟩, _, _⟩ := nv k hi
        obtain ⟨s1, s2, _, _⟩ := sr.2.2.2.2.2.2 k hi
        have sub : ∀ x, tb (sB q k) x = true → x < R * C := fun x hx => ok.open_lt (pv.1 x hx)
        obtain ⟨u0, e0, f0, gr, gb, g3, _⟩ := m_takes ok.rc hMr hB0 hb0 h1000 (by rw [s1]; exact sub) hN
        rw [s1] at gb
        have sr0 := sr.frm f0 (f0.a 15 rfl) (f0.a 16 rfl) (f0.a 17 rfl) (f0.s 31 rfl) (f0.s 35 rfl)
        have hD0 : ∀ x, x < R * C → ra u0 9 x = bI (tb (gD g) x) := fun x hx => by rw [f0.a 9 rfl]; exact hD x hx
        have vs0 : VS g R C q n lim u0 := ⟨gr, ⟨sB q k, gb, sub⟩, sr0, nv, hD0⟩
        have ff0 : FrB [1, 6, 7, 10, 15, 16, 17] [16, 21, 26, 31, 35] t u0 := f0.toB.up (by decide) (by decide)
        rw [e0, Option.bind_some, s_isSolved ok gr gb pv.1 hN, Option.bind_some]
        by_cases hs : sB q k &&& (gG g ^^^ (-1)) = 0
        · have la : longAtF 1000 (sB q) (nI k) = sB q k := longAt_at h1000 (by decide)
          have vq : viS g q (nI k) = (sB q, sP q, sF q, sU q, sT q, sM q, sW q, sN q, nI k, sY q) := by
            unfold viS
            rw [la, if_pos hs]
          have st : ruL g m (k + 1) (viS g q (nI k)) = (sB q, sP q, sF q, sU q, sT q, sM q, sW q, sN q, nI k, sY q) := by
            rw [vq]; exact ru_stop (j := k) (by omega) rfl m
          obtain ⟨F2, rfl⟩ : ∃ F2, F' = F2 + 1 := ⟨F' - 1, by omega⟩
          rw [decide_eq_true hs, if_neg (show ¬ bI true = 0 by decide), u_searches_30, if_neg (show ¬ bI true = 0 by decide), st]
          exact ⟨u0, n, k, F2, 1, rfl, by omega, vs0, Nat.le_refl n, ff0, Or.inr ⟨rfl, hi, rfl, hY⟩, fun _ _ => ⟨rfl, rfl⟩⟩
        · obtain ⟨u, n1, a1, a2, a3, a4, a5⟩ := m_visits ok vs0 hi hw hs hN
          rw [decide_eq_false hs, if_pos (show bI false = 0 from rfl), a1, Option.bind_some, nI_1]
          obtain ⟨v, n', j, F2, v4, z1, z2, z3, z4, z5, z6, z7⟩ := ih (k + 1) (viS g q (nI k)) n1 u F' (by omega) (by omega) a2 (a4.2.2.2.trans hv) (a4.2.2.1.trans hw)
          exact ⟨v, n', j, F2, v4, z1, by omega, z3, by omega, (ff0.trans a5).trans z5, z6, fun x hx => ⟨(z7 x (by omega)).1.trans (a4.1 x hx).1, (z7 x (by omega)).2.trans (a4.1 x hx).2.1⟩⟩
