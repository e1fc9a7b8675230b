/-! the search: its start -/
theorem st_ok {g : gT} {R C : Nat} (ok : GOk g R C) {b : Int64} {p : Nat} {t : xT} (hM : GR (ra t 1) g R C) (hB : GB (ra t 1) b) (h3 : ra t 1 3 = nI p) (pv : PV g b p) (hD : ∀ x, x < R * C → ra t 9 x = bI (tb (gD g) x)) (h31 : rs t 31 = 0) (h35 : rs t 35 = 0) (q : SeT) {lim : Nat} (hl : lim ≤ 1000) (wt : Bool) {N M : Nat} (hM2 : M = 2048) (hN : 10000 ≤ N) : ∃ u n', f_finds N t (-1) (-1) (nI lim) = some u ∧ VS g R C (adS (ru0 q (nI lim) wt (zeL M 0 (sT q))) b (lowF (pAr g b (nI p))) (-1) 0) n' lim u ∧ FrB [6, 7, 15, 16, 17] [16, 31, 35] t u ∧ sV (adS (ru0 q (nI lim) wt (zeL M 0 (sT q))) b (lowF (pAr g b (nI p))) (-1) 0) = -1 ∧ sW (adS (ru0 q (nI lim) wt (zeL M 0 (sT q))) b (lowF (pAr g b (nI p))) (-1) 0) = wt ∧ (0 < n' → sB (adS (ru0 q (nI lim) wt (zeL M 0 (sT q))) b (lowF (pAr g b (nI p))) (-1) 0) 0 = b ∧ sP (adS (ru0 q (nI lim) wt (zeL M 0 (sT q))) b (lowF (pAr g b (nI p))) (-1) 0) 0 = lowF (pAr g b (nI p))) := by
  have ht := HT.start q (nI lim) wt hM2
  generalize hq : ru0 q (nI lim) wt (zeL M 0 (sT q)) = q0 at ht
  have qM : sM q0 = nI lim := by rw [← hq]; rfl
  have qY : sY q0 = false := by rw [← hq]; rfl
  have qV : sV q0 = -1 := by rw [← hq]; rfl
  have qW : sW q0 = wt := by rw [← hq]; rfl
  have sub : ∀ x, tb b x = true → x < R * C := fun x hx => ok.open_lt (pv.1 x hx)
  have sr : SR q0 0 lim t := ⟨ht, qM, Nat.zero_le _, hl, h31, by rw [qY]; exact h35, fun i hi => absurd hi (Nat.not_lt_zero i)⟩
  obtain ⟨u, n', z1, z2, _, z4⟩ := m_finds ok hM hB sub h3 pv.2.1 sr (-1) 0 (-1) (fun h => absurd h (by decide)) hN
  obtain ⟨l, l1, l2⟩ := low_pv ok pv
  rw [l1] at z2 ⊢
  have n2 : n' ≤ 1000 := z2.1.2.1
  have e1 : ra u 1 = ra t 1 := z4.1 1 (by decide)
  have key : NV g (adS q0 b (nI l) (-1) 0) n' ∧ sV (adS q0 b (nI l) (-1) 0) = -1 ∧ sW (adS q0 b (nI l) (-1) 0) = wt ∧ (0 < n' → sB (adS q0 b (nI l) (-1) 0) 0 = b ∧ sP (adS q0 b (nI l) (-1) 0) 0 = nI l) := by
    have hh := z2.1.1
    rcases adS_cases ht qM hl b (nI l) (-1) 0 with e | e | ⟨s, e⟩
    · rw [e] at hh ⊢
      have : n' = 0 := (nI_eq (by omega) (by omega)).mp (hh.symm.trans ht.1)
      subst this
      exact ⟨fun i hi => absurd hi (Nat.not_lt_zero i), qV, qW, fun w => absurd w (Nat.lt_irrefl 0)⟩
    · rw [e] at hh ⊢
      have e2 : sN (adY q0) = nI 0 := ht.1
      have : n' = 0 := (nI_eq (by omega) (by omega)).mp (hh.symm.trans e2)
      subst this
      exact ⟨fun i hi => absurd hi (Nat.not_lt_zero i), qV, qW, fun w => absurd w (Nat.lt_irrefl 0)⟩
    · rw [e] at hh ⊢
      have e2 : sN (nwS q0 0 s b (nI l) (-1) 0) = nI 1 := rfl
      have : n' = 1 := (nI_eq (by omega) (by omega)).mp (hh.symm.trans e2)
      subst this
      have eB : sB (nwS q0 0 s b (nI l) (-1) 0) 0 = b := updL_at (sB q0) 0 b 0
      have eP : sP (nwS q0 0 s b (nI l) (-1) 0) 0 = nI l := upd_at (sP q0) 0 _ 0
      refine ⟨fun i hi => ?_, qV, qW, fun _ => ⟨eB, eP⟩⟩
      have i0 : i = 0 := by omega
      subst i0
      have eF : sF (nwS q0 0 s b (nI l) (-1) 0) 0 = -1 := upd_at (sF q0) 0 _ 0
      have eU : sU (nwS q0 0 s b (nI l) (-1) 0) 0 = 0 := upd_at (sU q0) 0 _ 0
      rw [eB, eP, eF, eU]
      exact ⟨⟨l, rfl, l2⟩, Or.inl ⟨rfl, rfl⟩, 0, by decide, rfl⟩
  refine ⟨u, n', z1, ⟨by rw [e1]; exact hM, ⟨b, by rw [e1]; exact hB, sub⟩, z2, key.1, fun x hx => ?_⟩, z4, key.2.1, key.2.2.1, key.2.2.2⟩
  rw [z4.1 9 (by decide)]; exact hD x hx
