/-! the search: the way back -/
theorem par_at {g : gT} {q : SeT} {n i : Nat} (nv : NV g q n) (hi : i < n) : (i = 0 ∧ sF q i = -1) ∨ ∃ j, j < i ∧ sF q i = nI j := (nv i hi).2.1.imp id fun ⟨j, _, _, a, b, _⟩ => ⟨j, a, b⟩
theorem dp_ok {g : gT} {q : SeT} {n lim : Nat} {N : Nat} {v3 : Int32} : ∀ i, i < n → ∀ m k t F, i ≤ m → k + i < 2 ^ 20 → i + 2 ≤ F → SR q n lim t → NV g q n → rs t 33 = nI k → ∃ F' d, F ≤ F' + i + 1 ∧ dpL (sF q) m k (sF q i) = k + d ∧ d ≤ i ∧ f_searches_L N F 118 0 0 v3 0 (nI i) 0 t = f_searches_L N F' 159 0 0 0 0 (nI (k + d)) v3 (ws t 33 (nI (k + d))) := by
  intro i
  induction i using Nat.strongRecOn with
  | ind i ih =>
    intro hi m k t F hm hk hF sr nv h33
    obtain ⟨F', rfl⟩ : ∃ F', F = F' + 1 := ⟨F - 1, by omega⟩
    have hn : n ≤ 1000 := sr.1.2.1
    obtain ⟨_, _, s3, _⟩ := sr.2.2.2.2.2.2 i hi
    rw [u_searches_118, if_pos (inB_nI (show i < 1000 by omega) (by decide)), nI_clamp (show i < 2 ^ 31 by omega), s3]
    rcases par_at nv hi with ⟨_, z⟩ | ⟨j, j1, z⟩
    · rw [z, if_pos (show (-1 : Int32) < 0 by decide)]
      refine ⟨F', 0, by omega, ?_, Nat.zero_le _, ?_⟩
      · cases m with
        | zero => rfl
        | succ m => rfl
      · have e : ws t 33 (nI (k + 0)) = t := by
          rw [Nat.add_zero, ← h33]; exact ws_rs t 33
        rw [e, h33, Nat.add_zero]
    · obtain ⟨m', rfl⟩ : ∃ m', m = m' + 1 := ⟨m - 1, by omega⟩
      have nj : ¬ nI j = (-1 : Int32) := nI_m1 (by omega)
      have e : dpL (sF q) (m' + 1) k (nI j) = dpL (sF q) m' (k + 1) (sF q j) := by
        show (if nI j = -1 then k else dpL (sF q) m' (k + 1) (intAtF 1000 (sF q) (nI j))) = _
        rw [if_neg nj, intAt_at (show j < 1000 by omega) (by decide)]
      rw [z, if_neg (nI_pos (show j < 2 ^ 31 by omega)), Option.bind_some, h33, nI_1, e]
      have sr' : SR q n lim (ws t 33 (nI (k + 1))) := sr.frm (Frm.ws (A := []) (K := [33]) Frm.rf (by decide) _) rfl rfl rfl rfl rfl
      have e16 : ra (ws t 33 (nI (k + 1))) 16 i = nI j := s3.trans z
      obtain ⟨F2, d, a1, a2, a3, a4⟩ := ih j j1 (by omega) m' (k + 1) (ws t 33 (nI (k + 1))) F' (by omega) (by omega) (by omega) sr' nv rfl
      refine ⟨F2, d + 1, by omega, by omega, by omega, ?_⟩
      rw [if_pos (inB_nI (show i < 1000 by omega) (by decide)), e16, a4, show k + 1 + d = k + (d + 1) by omega, ws_ws]
theorem wy_ok {g : gT} {q : SeT} {n lim : Nat} {N : Nat} : ∀ i, i < n → ∀ d m p t F, i ≤ m → dpL (sF q) m 0 (sF q i) = d → i + 1 ≤ F → SR q n lim t → NV g q n → ∃ u, f_searches_L N F 159 0 0 0 0 (nI d) (nI i) t = some (0, u) ∧ Frm [18] [] t u ∧ ∀ x, (x < d ∨ ra t 18 x = p x) → ra u 18 x = kpL (sF q) (sU q) d (nI i) p x := by
  have dp_sh : ∀ f m k i, dpL f m k i = k + dpL f m 0 i := by
    intro f m
    induction m with
    | zero => intro k i; rfl
    | succ m ih =>
      intro k i
      show (if i = -1 then k else dpL f m (k + 1) (intAtF 1000 f i)) = k + (if i = -1 then 0 else dpL f m (0 + 1) (intAtF 1000 f i))
      split
      · rfl
      · rw [ih (k + 1), ih (0 + 1)]; omega
  intro i
  induction i using Nat.strongRecOn with
  | ind i ih =>
    intro hi d m p t F hm hd hF sr nv
    obtain ⟨F', rfl⟩ : ∃ F', F = F' + 1 := ⟨F - 1, by omega⟩
    have hn : n ≤ 1000 := sr.1.2.1
    obtain ⟨_, _, s3, s4⟩ := sr.2.2.2.2.2.2 i hi
    rw [u_searches_159, if_pos (inB_nI (show i < 1000 by omega) (by decide)), nI_clamp (show i < 2 ^ 31 by omega), s3]
    rcases par_at nv hi with ⟨_, z⟩ | ⟨j, j1, z⟩
    · have d0 : d = 0 := by
        rw [← hd, z]
        cases m with
        | zero => rfl
        | succ m => rfl
      subst d0
      rw [z, if_pos (show (-1 : Int32) < 0 by decide)]
      exact ⟨t, rfl, Frm.rf, fun x hx => hx.resolve_left (Nat.not_lt_zero x)⟩
    · obtain ⟨m', rfl⟩ : ∃ m', m = m' + 1 := ⟨m - 1, by omega⟩
      have nj : ¬ nI j = (-1 : Int32) := nI_m1 (by omega)
      have e : dpL (sF q) (m' + 1) 0 (nI j) = 1 + dpL (sF q) m' 0 (sF q j) := by
        show (if nI j = -1 then 0 else dpL (sF q) m' (0 + 1) (intAtF 1000 (sF q) (nI j))) = _
        rw [if_neg nj, intAt_at (show j < 1000 by omega) (by decide), dp_sh]
      obtain ⟨d', hd'⟩ : ∃ d', d = d' + 1 := ⟨d - 1, by rw [z, e] at hd; omega⟩
      have hdj : dpL (sF q) m' 0 (sF q j) = d' := by rw [z, e] at hd; omega
      have db : d' ≤ j := by
        have := dp_ok (N := 0) (v3 := 0) (g := g) j (by omega) m' 0 (ws t 33 0) (j + 2) (by omega) (by omega) (Nat.le_refl _) (sr.frm (Frm.ws (A := []) (K := [33]) Frm.rf (by decide) 0) rfl rfl rfl rfl rfl) nv rfl
        obtain ⟨_, dd, _, x2, x3, _⟩ := this
        omega
      subst hd'
      rw [z, if_neg (nI_pos (show j < 2 ^ 31 by omega)), show nI (d' + 1) + (-1) = nI d' from (Int32.sub_eq_add_neg (nI (d' + 1)) 1).symm.trans (ent_m1 (show d' < 2 ^ 20 by omega)).1, if_pos (inB_nI (show i < 1000 by omega) (by decide)), if_pos (inB_nI (show d' < 1000 by omega) (by decide)), Option.bind_some, nI_clamp (show d' < 2 ^ 31 by omega), s4 (by omega), if_pos (inB_nI (show i < 1000 by omega) (by decide))]
      have f1 : Frm [18] [] t (wa t 18 (upd (ra t 18) d' (sU q i))) := Frm.wa Frm.rf (by decide) _
      have e16 : ra (wa t 18 (upd (ra t 18) d' (sU q i))) 16 i = nI j := s3.trans z
      obtain ⟨u, a1, a2, a3⟩ := ih j j1 (by omega) d' m' (setIntF 1000 p (nI d') (intAtF 1000 (sU q) (nI i))) (wa t 18 (upd (ra t 18) d' (sU q i))) F' (by omega) hdj (by omega) (sr.frm f1 rfl rfl rfl rfl rfl) nv
      rw [e16, a1]
      refine ⟨u, rfl, f1.trans a2, fun x hx => ?_⟩
      show ra u 18 x = kpL (sF q) (sU q) d' (intAtF 1000 (sF q) (nI i)) (setIntF 1000 p (nI d') (intAtF 1000 (sU q) (nI i))) x
      rw [intAt_at (f := sF q) (show i < 1000 by omega) (by decide), z]
      refine a3 x ?_
      rw [ra_wa, if_pos rfl, upd_at, setI_at (show d' < 1000 by omega) (by decide), upd_at, intAt_at (f := sU q) (show i < 1000 by omega) (by decide)]
      by_cases w : x = d'
      · rw [if_pos w, if_pos w]; exact Or.inr rfl
      · rw [if_neg w, if_neg w]
        rcases hx with y | y
        · exact Or.inl (by omega)
        · exact Or.inr y
