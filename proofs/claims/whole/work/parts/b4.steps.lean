/-! the law's steps: a case each (printed by gen/pb2.py) -/
def LSt (E : mEnv) (b L : Nat) (xs : Nat → Int32) (k P : Nat) (c : cT) (t : xT) : Prop := ∃ (c' : cT) (u : xT), ReL c' u ∧ GoL E b L xs M_L_law 1 (P, LL k, [], (mw t, cw c)) (.inl (1564, LL k, [], (mw u, cw c')))
theorem ReL.qG {c : cT} {t : xT} (h : ReL c t) : ¬ qC (tG c) < 0 := by
  rcases h.2.2.2.1 with ⟨a, _⟩ | ⟨R, C, p, n, a, b, _⟩
  · rw [a.2.2.2.2.2]; decide
  · rw [a.2.2.1]; exact nI_pos (by omega)
theorem ReL.qS {c : cT} {t : xT} (h : ReL c t) : ¬ qC (tS c) < 0 := by
  rcases h.2.2.2.2 with ⟨_, _, a⟩ | ⟨R, C, p, n, a, b, _⟩
  · rw [a]; decide
  · rw [a.2.2.1]; exact nI_pos (by omega)
theorem ReL.ln {c : cT} {t : xT} (h : ReL c t) : ¬ (tI c).2 < 0 := by
  obtain ⟨_, len, hl, l2, _⟩ := h.1
  rw [l2]; exact nI_pos (by omega)
theorem rStS_R {x : RtT} {r : Nat} (s : Int32) (h : rR x = nI r) : rR (rStS x s) = nI r ∨ rR (rStS x s) = nI (r + 1) := by
  unfold rStS
  by_cases h1 : s = 47
  · rw [if_pos h1]
    unfold rEndS
    by_cases h2 : rEndB x = true
    · rw [if_pos h2]
      refine Or.inr ?_
      show rR x + 1 = _
      rw [h, nI_1]
    · rw [if_neg h2]; exact Or.inl h
  · rw [if_neg h1]
    by_cases h2 : rAddB x s = true
    · rw [if_pos h2]; exact Or.inl h
    · rw [if_neg h2]; exact Or.inl h
theorem rdL_R (f : Nat → Int32) (N : Int32) : ∀ (n k : Nat) (x : RtT) (r : Nat), rR x = nI r → r + n + 1 < 2 ^ 30 → ∃ r', r' < 2 ^ 30 ∧ rR (rdL f N n k x).2 = nI r' := by
  intro n
  induction n with
  | zero =>
    intro k x r h hr
    show ∃ r', r' < 2 ^ 30 ∧ rR (rEndS x) = nI r'
    unfold rEndS
    by_cases h2 : rEndB x = true
    · rw [if_pos h2]
      refine ⟨r + 1, by omega, ?_⟩
      show rR x + 1 = _
      rw [h, nI_1]
    · rw [if_neg h2]; exact ⟨r, by omega, h⟩
  | succ n ih =>
    intro k x r h hr
    have e : rdL f N (n + 1) k x = if rStB x (iAt f (nI k)) = true then rdL f N n (k + 1) (rStS x (iAt f (nI k))) else (nI k, rStS x (iAt f (nI k))) := rfl
    rw [e]
    by_cases h1 : rStB x (iAt f (nI k)) = true
    · rw [if_pos h1]
      rcases rStS_R (iAt f (nI k)) h with h2 | h2
      · exact ih _ _ r h2 (by omega)
      · exact ih _ _ (r + 1) h2 (by omega)
    · rw [if_neg h1]
      rcases rStS_R (iAt f (nI k)) h with h2 | h2
      · exact ⟨r, by omega, h2⟩
      · exact ⟨r + 1, by omega, h2⟩
theorem ReL.rw {c : cT} {t : xT} (h : ReL c t) : ¬ rR (rdL (tI c).1 (nI (tI c).2.toNatClampNeg) (tI c).2.toNatClampNeg 0 rClr).2 < 0 := by
  obtain ⟨_, len, hl, l2, _⟩ := h.1
  have e : (tI c).2.toNatClampNeg = len := by rw [l2, nI_clamp (by omega)]
  rw [e]
  obtain ⟨r', h1, h2⟩ := rdL_R (tI c).1 (nI len) len 0 rClr 0 rfl (by omega)
  rw [h2]; exact nI_pos (by omega)
theorem s_case_feed {E : mEnv} (hE : E.1.stackTraces = false) {b L k N : Nat} {xs : Nat → Int32} (hN : 10000 ≤ N) (hL : L ≤ 1536) (hk : k + 2 < L) {c : cT} {t : xT} (h : ReL c t) : LSt E b L xs k 148 c t := by
  have hc := c_feed hE (mw t) c (i2cF (xs (k + 1)))
  rcases PM.two (f := fun z => f_feed z (i2cF (xs (k + 1)))) (t := t) (pm_feed h (i2cF (xs (k + 1)))) (fun g => pm_feed (h.wo g) (i2cF (xs (k + 1)))) with ⟨v, c', e, P⟩ | ⟨X, kk, c', r, u, e, hin, f, e9, R⟩
  · rw [e] at hc
    obtain ⟨u, f, e2, e9, R⟩ := P (vp_updL (ro t) 0 v.toInt64)
    exact ⟨c', u, R, (k_feed hE hL hk (hA_feed hE hc) (c_m_feed hE _ _ (i2cF (xs (k + 1))) (v, u) f) e9 (fun _ => by rw [e2]; rfl)).widenS (Nat.zero_le 1)⟩
  · rw [e] at hc
    rcases List.mem_cons.mp hin with hin | hin
    · obtain ⟨rfl, rfl⟩ := Prod.mk.inj hin
      exact ⟨c', u, R, k_feed hE hL hk (hT_feed_1 hE hc) (c_m_feed hE _ _ (i2cF (xs (k + 1))) (r, u) f) e9 (fun z => absurd z (by decide))⟩
    replace hin := List.mem_singleton.mp hin
    obtain ⟨rfl, rfl⟩ := Prod.mk.inj hin
    exact ⟨c', u, R, k_feed hE hL hk (hT_feed_2 hE hc) (c_m_feed hE _ _ (i2cF (xs (k + 1))) (r, u) f) e9 (fun z => absurd z (by decide))⟩
theorem s_case_readRoom {E : mEnv} (hE : E.1.stackTraces = false) {b L k N : Nat} {xs : Nat → Int32} (hN : 10000 ≤ N) (hL : L ≤ 1536) (hk : k + 2 < L) {c : cT} {t : xT} (h : ReL c t) : LSt E b L xs k 206 c t := by
  have hc := c_readRoom hE (mw t) c (h.ln) (h.1.1) (h.rw)
  rcases PM.two (f := fun z => f_readRoom N z) (t := t) (pm_readRoom h hN) (fun g => pm_readRoom (h.wo g) hN) with ⟨v, c', e, P⟩ | ⟨X, kk, c', r, u, e, hin, f, e9, R⟩
  · rw [e] at hc
    obtain ⟨u, f, e2, e9, R⟩ := P (vp_updL (ro t) 0 v.toInt64)
    exact ⟨c', u, R, (k_readRoom hE hL hk (hA_readRoom hE hc) (c_m_readRoom hE _ N _ (v, u) f) e9 (fun _ => by rw [e2]; rfl)).widenS (Nat.zero_le 1)⟩
  · rw [e] at hc
    replace hin := List.mem_singleton.mp hin
    obtain ⟨rfl, rfl⟩ := Prod.mk.inj hin
    exact ⟨c', u, R, k_readRoom hE hL hk (hT_readRoom_1 hE hc) (c_m_readRoom hE _ N _ (r, u) f) e9 (fun z => absurd z (by decide))⟩
theorem s_case_cell {E : mEnv} (hE : E.1.stackTraces = false) {b L k N : Nat} {xs : Nat → Int32} (hN : 10000 ≤ N) (hL : L ≤ 1536) (hk : k + 2 < L) {c : cT} {t : xT} (h : ReL c t) : LSt E b L xs k 250 c t := by
  have hc := c_cell hE (mw t) c (xs (k + 1)) (xs (k + 2))
  rcases PM.two (f := fun z => f_cell z (xs (k + 1)) (xs (k + 2))) (t := t) (pm_cell h (xs (k + 1)) (xs (k + 2))) (fun g => pm_cell (h.wo g) (xs (k + 1)) (xs (k + 2))) with ⟨v, c', e, P⟩ | ⟨X, kk, c', r, u, e, hin, f, e9, R⟩
  · rw [e] at hc
    obtain ⟨u, f, e2, e9, R⟩ := P (vp_updL (ro t) 0 v.toInt64)
    exact ⟨c', u, R, (k_cell hE hL hk (hA_cell hE hc) (c_m_cell hE _ _ (xs (k + 1)) (xs (k + 2)) (v, u) f) e9 (fun _ => by rw [e2]; rfl)).widenS (Nat.zero_le 1)⟩
  · rw [e] at hc
    rcases List.mem_cons.mp hin with hin | hin
    · obtain ⟨rfl, rfl⟩ := Prod.mk.inj hin
      exact ⟨c', u, R, k_cell hE hL hk (hT_cell_1 hE hc) (c_m_cell hE _ _ (xs (k + 1)) (xs (k + 2)) (r, u) f) e9 (fun z => absurd z (by decide))⟩
    replace hin := List.mem_singleton.mp hin
    obtain ⟨rfl, rfl⟩ := Prod.mk.inj hin
    exact ⟨c', u, R, k_cell hE hL hk (hT_cell_2 hE hc) (c_m_cell hE _ _ (xs (k + 1)) (xs (k + 2)) (r, u) f) e9 (fun z => absurd z (by decide))⟩
theorem s_case_cells {E : mEnv} (hE : E.1.stackTraces = false) {b L k N : Nat} {xs : Nat → Int32} (hN : 10000 ≤ N) (hL : L ≤ 1536) (hk : k + 2 < L) {c : cT} {t : xT} (h : ReL c t) : LSt E b L xs k 318 c t := by
  have hc := c_cells hE (mw t) c (xs (k + 1))
  rcases PML.two (f := fun z => f_cells N z (xs (k + 1))) (t := t) (pm_cells h hN (xs (k + 1))) (fun g => pm_cells (h.wo g) hN (xs (k + 1))) with ⟨v, c', e, P⟩ | ⟨X, kk, c', r, u, e, hin, f, e9, R⟩
  · rw [e] at hc
    obtain ⟨u, f, e2, e9, R⟩ := P (vp_updL (ro t) 0 v)
    exact ⟨c', u, R, (k_cells hE hL hk (hA_cells hE hc) (c_m_cells hE _ N _ (xs (k + 1)) (v, u) f) e9 (fun _ => by rw [e2]; rfl)).widenS (Nat.zero_le 1)⟩
  · rw [e] at hc
    rcases List.mem_cons.mp hin with hin | hin
    · obtain ⟨rfl, rfl⟩ := Prod.mk.inj hin
      exact ⟨c', u, R, k_cells hE hL hk (hT_cells_1 hE hc) (c_m_cells hE _ N _ (xs (k + 1)) (r, u) f) e9 (fun z => absurd z (by decide))⟩
    replace hin := List.mem_singleton.mp hin
    obtain ⟨rfl, rfl⟩ := Prod.mk.inj hin
    exact ⟨c', u, R, k_cells hE hL hk (hT_cells_2 hE hc) (c_m_cells hE _ N _ (xs (k + 1)) (r, u) f) e9 (fun z => absurd z (by decide))⟩
theorem s_case_count {E : mEnv} (hE : E.1.stackTraces = false) {b L k N : Nat} {xs : Nat → Int32} (hN : 10000 ≤ N) (hL : L ≤ 1536) (hk : k + 2 < L) {c : cT} {t : xT} (h : ReL c t) : LSt E b L xs k 373 c t := by
  have hc := c_count hE (mw t) c (xs (k + 1)) (h.qG)
  rcases PM.two (f := fun z => f_count N z (xs (k + 1))) (t := t) (pm_count h hN (xs (k + 1))) (fun g => pm_count (h.wo g) hN (xs (k + 1))) with ⟨v, c', e, P⟩ | ⟨X, kk, c', r, u, e, hin, f, e9, R⟩
  · rw [e] at hc
    obtain ⟨u, f, e2, e9, R⟩ := P (vp_updL (ro t) 0 v.toInt64)
    exact ⟨c', u, R, (k_count hE hL hk (hA_count hE hc) (c_m_count hE _ N _ (xs (k + 1)) (v, u) f) e9 (fun _ => by rw [e2]; rfl)).widenS (Nat.zero_le 1)⟩
  · rw [e] at hc
    replace hin := List.mem_singleton.mp hin
    obtain ⟨rfl, rfl⟩ := Prod.mk.inj hin
    exact ⟨c', u, R, k_count hE hL hk (hT_count_1 hE hc) (c_m_count hE _ N _ (xs (k + 1)) (r, u) f) e9 (fun z => absurd z (by decide))⟩
theorem s_case_distance {E : mEnv} (hE : E.1.stackTraces = false) {b L k N : Nat} {xs : Nat → Int32} (hN : 10000 ≤ N) (hL : L ≤ 1536) (hk : k + 2 < L) {c : cT} {t : xT} (h : ReL c t) : LSt E b L xs k 429 c t := by
  have hc := c_distance hE (mw t) c (xs (k + 1)) (xs (k + 2))
  rcases PM.two (f := fun z => f_distance N z (xs (k + 1)) (xs (k + 2))) (t := t) (pm_distance h hN (xs (k + 1)) (xs (k + 2))) (fun g => pm_distance (h.wo g) hN (xs (k + 1)) (xs (k + 2))) with ⟨v, c', e, P⟩ | ⟨X, kk, c', r, u, e, hin, f, e9, R⟩
  · rw [e] at hc
    obtain ⟨u, f, e2, e9, R⟩ := P (vp_updL (ro t) 0 v.toInt64)
    exact ⟨c', u, R, (k_distance hE hL hk (hA_distance hE hc) (c_m_distance hE _ N _ (xs (k + 1)) (xs (k + 2)) (v, u) f) e9 (fun _ => by rw [e2]; rfl)).widenS (Nat.zero_le 1)⟩
  · rw [e] at hc
    rcases List.mem_cons.mp hin with hin | hin
    · obtain ⟨rfl, rfl⟩ := Prod.mk.inj hin
      exact ⟨c', u, R, k_distance hE hL hk (hT_distance_1 hE hc) (c_m_distance hE _ N _ (xs (k + 1)) (xs (k + 2)) (r, u) f) e9 (fun z => absurd z (by decide))⟩
    rcases List.mem_cons.mp hin with hin | hin
    · obtain ⟨rfl, rfl⟩ := Prod.mk.inj hin
      exact ⟨c', u, R, k_distance hE hL hk (hT_distance_2 hE hc) (c_m_distance hE _ N _ (xs (k + 1)) (xs (k + 2)) (r, u) f) e9 (fun z => absurd z (by decide))⟩
    replace hin := List.mem_singleton.mp hin
    obtain ⟨rfl, rfl⟩ := Prod.mk.inj hin
    exact ⟨c', u, R, k_distance hE hL hk (hT_distance_3 hE hc) (c_m_distance hE _ N _ (xs (k + 1)) (xs (k + 2)) (r, u) f) e9 (fun z => absurd z (by decide))⟩
theorem s_case_bound {E : mEnv} (hE : E.1.stackTraces = false) {b L k N : Nat} {xs : Nat → Int32} (hN : 10000 ≤ N) (hL : L ≤ 1536) (hk : k + 2 < L) {c : cT} {t : xT} (h : ReL c t) : LSt E b L xs k 497 c t := by
  have hc := c_bound hE (mw t) c
  rcases PM.two (f := fun z => f_bound N z) (t := t) (pm_bound h hN) (fun g => pm_bound (h.wo g) hN) with ⟨v, c', e, P⟩ | ⟨X, kk, c', r, u, e, hin, f, e9, R⟩
  · rw [e] at hc
    obtain ⟨u, f, e2, e9, R⟩ := P (vp_updL (ro t) 0 v.toInt64)
    exact ⟨c', u, R, (k_bound hE hL hk (hA_bound hE hc) (c_m_bound hE _ N _ (v, u) f) e9 (fun _ => by rw [e2]; rfl)).widenS (Nat.zero_le 1)⟩
  · rw [e] at hc
    rcases List.mem_cons.mp hin with hin | hin
    · obtain ⟨rfl, rfl⟩ := Prod.mk.inj hin
      exact ⟨c', u, R, k_bound hE hL hk (hT_bound_1 hE hc) (c_m_bound hE _ N _ (r, u) f) e9 (fun z => absurd z (by decide))⟩
    replace hin := List.mem_singleton.mp hin
    obtain ⟨rfl, rfl⟩ := Prod.mk.inj hin
    exact ⟨c', u, R, k_bound hE hL hk (hT_bound_2 hE hc) (c_m_bound hE _ N _ (r, u) f) e9 (fun z => absurd z (by decide))⟩
theorem s_case_stuck {E : mEnv} (hE : E.1.stackTraces = false) {b L k N : Nat} {xs : Nat → Int32} (hN : 10000 ≤ N) (hL : L ≤ 1536) (hk : k + 2 < L) {c : cT} {t : xT} (h : ReL c t) : LSt E b L xs k 541 c t := by
  have hc := c_stuck hE (mw t) c (!decide (xs (k + 1) = 0))
  rcases PM.two (f := fun z => f_stuck N z (bI (!decide (xs (k + 1) = 0)))) (t := t) (pm_stuck h hN (!decide (xs (k + 1) = 0))) (fun g => pm_stuck (h.wo g) hN (!decide (xs (k + 1) = 0))) with ⟨v, c', e, P⟩ | ⟨X, kk, c', r, u, e, hin, f, e9, R⟩
  · rw [e] at hc
    obtain ⟨u, f, e2, e9, R⟩ := P (vp_updL (ro t) 0 v.toInt64)
    exact ⟨c', u, R, (k_stuck hE hL hk (hA_stuck hE hc) (c_m_stuck hE _ N _ (nzF (xs (k + 1))) (v, u) f) e9 (fun _ => by rw [e2]; rfl)).widenS (Nat.zero_le 1)⟩
  · rw [e] at hc
    replace hin := List.mem_singleton.mp hin
    obtain ⟨rfl, rfl⟩ := Prod.mk.inj hin
    exact ⟨c', u, R, k_stuck hE hL hk (hT_stuck_1 hE hc) (c_m_stuck hE _ N _ (nzF (xs (k + 1))) (r, u) f) e9 (fun z => absurd z (by decide))⟩
theorem s_case_goalRoom {E : mEnv} (hE : E.1.stackTraces = false) {b L k N : Nat} {xs : Nat → Int32} (hN : 10000 ≤ N) (hL : L ≤ 1536) (hk : k + 2 < L) {c : cT} {t : xT} (h : ReL c t) : LSt E b L xs k 613 c t := by
  have hc := c_goalRoom hE (mw t) c (xs (k + 1)) (xs (k + 2))
  rcases PM.two (f := fun z => f_goalRoom N z (xs (k + 1)) (xs (k + 2))) (t := t) (pm_goalRoom h hN (xs (k + 1)) (xs (k + 2))) (fun g => pm_goalRoom (h.wo g) hN (xs (k + 1)) (xs (k + 2))) with ⟨v, c', e, P⟩ | ⟨X, kk, c', r, u, e, hin, f, e9, R⟩
  · rw [e] at hc
    obtain ⟨u, f, e2, e9, R⟩ := P (vp_updL (ro t) 0 v.toInt64)
    exact ⟨c', u, R, (k_goalRoom hE hL hk (hA_goalRoom hE hc) (c_m_goalRoom hE _ N _ (xs (k + 1)) (xs (k + 2)) (v, u) f) e9 (fun _ => by rw [e2]; rfl)).widenS (Nat.zero_le 1)⟩
  · rw [e] at hc
    rcases List.mem_cons.mp hin with hin | hin
    · obtain ⟨rfl, rfl⟩ := Prod.mk.inj hin
      exact ⟨c', u, R, k_goalRoom hE hL hk (hT_goalRoom_1 hE hc) (c_m_goalRoom hE _ N _ (xs (k + 1)) (xs (k + 2)) (r, u) f) e9 (fun z => absurd z (by decide))⟩
    replace hin := List.mem_singleton.mp hin
    obtain ⟨rfl, rfl⟩ := Prod.mk.inj hin
    exact ⟨c', u, R, k_goalRoom hE hL hk (hT_goalRoom_2 hE hc) (c_m_goalRoom hE _ N _ (xs (k + 1)) (xs (k + 2)) (r, u) f) e9 (fun z => absurd z (by decide))⟩
theorem s_case_step {E : mEnv} (hE : E.1.stackTraces = false) {b L k N : Nat} {xs : Nat → Int32} (hN : 10000 ≤ N) (hL : L ≤ 1536) (hk : k + 2 < L) {c : cT} {t : xT} (h : ReL c t) : LSt E b L xs k 681 c t := by
  have hc := c_step hE (mw t) c (xs (k + 1))
  rcases PM.two (f := fun z => f_step N z (xs (k + 1))) (t := t) (pm_step h hN (xs (k + 1))) (fun g => pm_step (h.wo g) hN (xs (k + 1))) with ⟨v, c', e, P⟩ | ⟨X, kk, c', r, u, e, hin, f, e9, R⟩
  · rw [e] at hc
    obtain ⟨u, f, e2, e9, R⟩ := P (vp_updL (ro t) 0 v.toInt64)
    exact ⟨c', u, R, (k_step hE hL hk (hA_step hE hc) (c_m_step hE _ N _ (xs (k + 1)) (v, u) f) e9 (fun _ => by rw [e2]; rfl)).widenS (Nat.zero_le 1)⟩
  · rw [e] at hc
    rcases List.mem_cons.mp hin with hin | hin
    · obtain ⟨rfl, rfl⟩ := Prod.mk.inj hin
      exact ⟨c', u, R, k_step hE hL hk (hT_step_1 hE hc) (c_m_step hE _ N _ (xs (k + 1)) (r, u) f) e9 (fun z => absurd z (by decide))⟩
    rcases List.mem_cons.mp hin with hin | hin
    · obtain ⟨rfl, rfl⟩ := Prod.mk.inj hin
      exact ⟨c', u, R, k_step hE hL hk (hT_step_2 hE hc) (c_m_step hE _ N _ (xs (k + 1)) (r, u) f) e9 (fun z => absurd z (by decide))⟩
    replace hin := List.mem_singleton.mp hin
    obtain ⟨rfl, rfl⟩ := Prod.mk.inj hin
    exact ⟨c', u, R, k_step hE hL hk (hT_step_3 hE hc) (c_m_step hE _ N _ (xs (k + 1)) (r, u) f) e9 (fun z => absurd z (by decide))⟩
theorem s_case_push {E : mEnv} (hE : E.1.stackTraces = false) {b L k N : Nat} {xs : Nat → Int32} (hN : 10000 ≤ N) (hL : L ≤ 1536) (hk : k + 2 < L) {c : cT} {t : xT} (h : ReL c t) : LSt E b L xs k 737 c t := by
  have hc := c_push hE (mw t) c (xs (k + 1)) (xs (k + 2))
  rcases PM.two (f := fun z => f_push N z (xs (k + 1)) (xs (k + 2))) (t := t) (pm_push h hN (xs (k + 1)) (xs (k + 2))) (fun g => pm_push (h.wo g) hN (xs (k + 1)) (xs (k + 2))) with ⟨v, c', e, P⟩ | ⟨X, kk, c', r, u, e, hin, f, e9, R⟩
  · rw [e] at hc
    obtain ⟨u, f, e2, e9, R⟩ := P (vp_updL (ro t) 0 v.toInt64)
    exact ⟨c', u, R, (k_push hE hL hk (hA_push hE hc) (c_m_push hE _ N _ (xs (k + 1)) (xs (k + 2)) (v, u) f) e9 (fun _ => by rw [e2]; rfl)).widenS (Nat.zero_le 1)⟩
  · rw [e] at hc
    rcases List.mem_cons.mp hin with hin | hin
    · obtain ⟨rfl, rfl⟩ := Prod.mk.inj hin
      exact ⟨c', u, R, k_push hE hL hk (hT_push_1 hE hc) (c_m_push hE _ N _ (xs (k + 1)) (xs (k + 2)) (r, u) f) e9 (fun z => absurd z (by decide))⟩
    rcases List.mem_cons.mp hin with hin | hin
    · obtain ⟨rfl, rfl⟩ := Prod.mk.inj hin
      exact ⟨c', u, R, k_push hE hL hk (hT_push_2 hE hc) (c_m_push hE _ N _ (xs (k + 1)) (xs (k + 2)) (r, u) f) e9 (fun z => absurd z (by decide))⟩
    rcases List.mem_cons.mp hin with hin | hin
    · obtain ⟨rfl, rfl⟩ := Prod.mk.inj hin
      exact ⟨c', u, R, k_push hE hL hk (hT_push_3 hE hc) (c_m_push hE _ N _ (xs (k + 1)) (xs (k + 2)) (r, u) f) e9 (fun z => absurd z (by decide))⟩
    rcases List.mem_cons.mp hin with hin | hin
    · obtain ⟨rfl, rfl⟩ := Prod.mk.inj hin
      exact ⟨c', u, R, k_push hE hL hk (hT_push_4 hE hc) (c_m_push hE _ N _ (xs (k + 1)) (xs (k + 2)) (r, u) f) e9 (fun z => absurd z (by decide))⟩
    replace hin := List.mem_singleton.mp hin
    obtain ⟨rfl, rfl⟩ := Prod.mk.inj hin
    exact ⟨c', u, R, k_push hE hL hk (hT_push_5 hE hc) (c_m_push hE _ N _ (xs (k + 1)) (xs (k + 2)) (r, u) f) e9 (fun z => absurd z (by decide))⟩
theorem s_case_longPush {E : mEnv} (hE : E.1.stackTraces = false) {b L k N : Nat} {xs : Nat → Int32} (hN : 10000 ≤ N) (hL : L ≤ 1536) (hk : k + 2 < L) {c : cT} {t : xT} (h : ReL c t) : LSt E b L xs k 805 c t := by
  have hc := c_longPush hE (mw t) c (xs (k + 1)) (xs (k + 2))
  rcases PM.two (f := fun z => f_longPush N z (xs (k + 1)) (xs (k + 2))) (t := t) (pm_longPush h hN (xs (k + 1)) (xs (k + 2))) (fun g => pm_longPush (h.wo g) hN (xs (k + 1)) (xs (k + 2))) with ⟨v, c', e, P⟩ | ⟨X, kk, c', r, u, e, hin, f, e9, R⟩
  · rw [e] at hc
    obtain ⟨u, f, e2, e9, R⟩ := P (vp_updL (ro t) 0 v.toInt64)
    exact ⟨c', u, R, (k_longPush hE hL hk (hA_longPush hE hc) (c_m_longPush hE _ N _ (xs (k + 1)) (xs (k + 2)) (v, u) f) e9 (fun _ => by rw [e2]; rfl)).widenS (Nat.zero_le 1)⟩
  · rw [e] at hc
    rcases List.mem_cons.mp hin with hin | hin
    · obtain ⟨rfl, rfl⟩ := Prod.mk.inj hin
      exact ⟨c', u, R, k_longPush hE hL hk (hT_longPush_1 hE hc) (c_m_longPush hE _ N _ (xs (k + 1)) (xs (k + 2)) (r, u) f) e9 (fun z => absurd z (by decide))⟩
    rcases List.mem_cons.mp hin with hin | hin
    · obtain ⟨rfl, rfl⟩ := Prod.mk.inj hin
      exact ⟨c', u, R, k_longPush hE hL hk (hT_longPush_2 hE hc) (c_m_longPush hE _ N _ (xs (k + 1)) (xs (k + 2)) (r, u) f) e9 (fun z => absurd z (by decide))⟩
    rcases List.mem_cons.mp hin with hin | hin
    · obtain ⟨rfl, rfl⟩ := Prod.mk.inj hin
      exact ⟨c', u, R, k_longPush hE hL hk (hT_longPush_3 hE hc) (c_m_longPush hE _ N _ (xs (k + 1)) (xs (k + 2)) (r, u) f) e9 (fun z => absurd z (by decide))⟩
    rcases List.mem_cons.mp hin with hin | hin
    · obtain ⟨rfl, rfl⟩ := Prod.mk.inj hin
      exact ⟨c', u, R, k_longPush hE hL hk (hT_longPush_4 hE hc) (c_m_longPush hE _ N _ (xs (k + 1)) (xs (k + 2)) (r, u) f) e9 (fun z => absurd z (by decide))⟩
    replace hin := List.mem_singleton.mp hin
    obtain ⟨rfl, rfl⟩ := Prod.mk.inj hin
    exact ⟨c', u, R, k_longPush hE hL hk (hT_longPush_5 hE hc) (c_m_longPush hE _ N _ (xs (k + 1)) (xs (k + 2)) (r, u) f) e9 (fun z => absurd z (by decide))⟩
theorem s_case_play {E : mEnv} (hE : E.1.stackTraces = false) {b L k N : Nat} {xs : Nat → Int32} (hN : 10000 ≤ N) (hL : L ≤ 1536) (hk : k + 2 < L) {c : cT} {t : xT} (h : ReL c t) : LSt E b L xs k 873 c t := by
  have hc := c_play hE (mw t) c (h.ln) (h.1.1)
  rcases PM.two (f := fun z => f_play N z) (t := t) (pm_play h hN) (fun g => pm_play (h.wo g) hN) with ⟨v, c', e, P⟩ | ⟨X, kk, c', r, u, e, hin, f, e9, R⟩
  · rw [e] at hc
    obtain ⟨u, f, e2, e9, R⟩ := P (vp_updL (ro t) 0 v.toInt64)
    exact ⟨c', u, R, (k_play hE hL hk (hA_play hE hc) (c_m_play hE _ N _ (v, u) f) e9 (fun _ => by rw [e2]; rfl)).widenS (Nat.zero_le 1)⟩
  · rw [e] at hc
    rcases List.mem_cons.mp hin with hin | hin
    · obtain ⟨rfl, rfl⟩ := Prod.mk.inj hin
      exact ⟨c', u, R, k_play hE hL hk (hT_play_1 hE hc) (c_m_play hE _ N _ (r, u) f) e9 (fun z => absurd z (by decide))⟩
    rcases List.mem_cons.mp hin with hin | hin
    · obtain ⟨rfl, rfl⟩ := Prod.mk.inj hin
      exact ⟨c', u, R, k_play hE hL hk (hT_play_2 hE hc) (c_m_play hE _ N _ (r, u) f) e9 (fun z => absurd z (by decide))⟩
    replace hin := List.mem_singleton.mp hin
    obtain ⟨rfl, rfl⟩ := Prod.mk.inj hin
    exact ⟨c', u, R, k_play hE hL hk (hT_play_3 hE hc) (c_m_play hE _ N _ (r, u) f) e9 (fun z => absurd z (by decide))⟩
theorem s_case_refused {E : mEnv} (hE : E.1.stackTraces = false) {b L k N : Nat} {xs : Nat → Int32} (hN : 10000 ≤ N) (hL : L ≤ 1536) (hk : k + 2 < L) {c : cT} {t : xT} (h : ReL c t) : LSt E b L xs k 917 c t := by
  have hc := c_refused hE (mw t) c
  rcases PM.two (f := fun z => f_refused z) (t := t) (pm_refused h) (fun g => pm_refused (h.wo g)) with ⟨v, c', e, P⟩ | ⟨X, kk, c', r, u, e, hin, f, e9, R⟩
  · rw [e] at hc
    obtain ⟨u, f, e2, e9, R⟩ := P (vp_updL (ro t) 0 v.toInt64)
    exact ⟨c', u, R, (k_refused hE hL hk (hA_refused hE hc) (c_m_refused hE _ _ (v, u) f) e9 (fun _ => by rw [e2]; rfl)).widenS (Nat.zero_le 1)⟩
  · rw [e] at hc
    replace hin := List.mem_singleton.mp hin
    obtain ⟨rfl, rfl⟩ := Prod.mk.inj hin
    exact ⟨c', u, R, k_refused hE hL hk (hT_refused_1 hE hc) (c_m_refused hE _ _ (r, u) f) e9 (fun z => absurd z (by decide))⟩
theorem s_case_refusal {E : mEnv} (hE : E.1.stackTraces = false) {b L k N : Nat} {xs : Nat → Int32} (hN : 10000 ≤ N) (hL : L ≤ 1536) (hk : k + 2 < L) {c : cT} {t : xT} (h : ReL c t) : LSt E b L xs k 961 c t := by
  have hc := c_refusal hE (mw t) c (!decide (xs (k + 1) = 0))
  rcases PM.two (f := fun z => f_refusal z (bI (!decide (xs (k + 1) = 0)))) (t := t) (pm_refusal h (!decide (xs (k + 1) = 0))) (fun g => pm_refusal (h.wo g) (!decide (xs (k + 1) = 0))) with ⟨v, c', e, P⟩ | ⟨X, kk, c', r, u, e, hin, f, e9, R⟩
  · rw [e] at hc
    obtain ⟨u, f, e2, e9, R⟩ := P (vp_updL (ro t) 0 v.toInt64)
    exact ⟨c', u, R, (k_refusal hE hL hk (hA_refusal hE hc) (c_m_refusal hE _ _ (nzF (xs (k + 1))) (v, u) f) e9 (fun _ => by rw [e2]; rfl)).widenS (Nat.zero_le 1)⟩
  · rw [e] at hc
    replace hin := List.mem_singleton.mp hin
    obtain ⟨rfl, rfl⟩ := Prod.mk.inj hin
    exact ⟨c', u, R, k_refusal hE hL hk (hT_refusal_1 hE hc) (c_m_refusal hE _ _ (nzF (xs (k + 1))) (r, u) f) e9 (fun z => absurd z (by decide))⟩
theorem s_case_refuses {E : mEnv} (hE : E.1.stackTraces = false) {b L k N : Nat} {xs : Nat → Int32} (hN : 10000 ≤ N) (hL : L ≤ 1536) (hk : k + 2 < L) {c : cT} {t : xT} (h : ReL c t) : LSt E b L xs k 1033 c t := by
  have hc := c_refuses hE (mw t) c (xs (k + 1)) (xs (k + 2))
  rcases PM.two (f := fun z => f_refuses N z (xs (k + 1)) (xs (k + 2))) (t := t) (pm_refuses h hN (xs (k + 1)) (xs (k + 2))) (fun g => pm_refuses (h.wo g) hN (xs (k + 1)) (xs (k + 2))) with ⟨v, c', e, P⟩ | ⟨X, kk, c', r, u, e, hin, f, e9, R⟩
  · rw [e] at hc
    obtain ⟨u, f, e2, e9, R⟩ := P (vp_updL (ro t) 0 v.toInt64)
    exact ⟨c', u, R, (k_refuses hE hL hk (hA_refuses hE hc) (c_m_refuses hE _ N _ (xs (k + 1)) (xs (k + 2)) (v, u) f) e9 (fun _ => by rw [e2]; rfl)).widenS (Nat.zero_le 1)⟩
  · rw [e] at hc
    rcases List.mem_cons.mp hin with hin | hin
    · obtain ⟨rfl, rfl⟩ := Prod.mk.inj hin
      exact ⟨c', u, R, k_refuses hE hL hk (hT_refuses_1 hE hc) (c_m_refuses hE _ N _ (xs (k + 1)) (xs (k + 2)) (r, u) f) e9 (fun z => absurd z (by decide))⟩
    rcases List.mem_cons.mp hin with hin | hin
    · obtain ⟨rfl, rfl⟩ := Prod.mk.inj hin
      exact ⟨c', u, R, k_refuses hE hL hk (hT_refuses_2 hE hc) (c_m_refuses hE _ N _ (xs (k + 1)) (xs (k + 2)) (r, u) f) e9 (fun z => absurd z (by decide))⟩
    replace hin := List.mem_singleton.mp hin
    obtain ⟨rfl, rfl⟩ := Prod.mk.inj hin
    exact ⟨c', u, R, k_refuses hE hL hk (hT_refuses_3 hE hc) (c_m_refuses hE _ N _ (xs (k + 1)) (xs (k + 2)) (r, u) f) e9 (fun z => absurd z (by decide))⟩
theorem s_case_solve {E : mEnv} (hE : E.1.stackTraces = false) {b L k N : Nat} {xs : Nat → Int32} (hN : 10000 ≤ N) (hL : L ≤ 1536) (hk : k + 2 < L) {c : cT} {t : xT} (h : ReL c t) : LSt E b L xs k 1101 c t := by
  have hc := c_solve hE (mw t) c (xs (k + 1)) (!decide (xs (k + 2) = 0))
  rcases PM.two (f := fun z => f_solve N z (xs (k + 1)) (bI (!decide (xs (k + 2) = 0)))) (t := t) (pm_solve h hN (xs (k + 1)) (!decide (xs (k + 2) = 0))) (fun g => pm_solve (h.wo g) hN (xs (k + 1)) (!decide (xs (k + 2) = 0))) with ⟨v, c', e, P⟩ | ⟨X, kk, c', r, u, e, hin, f, e9, R⟩
  · rw [e] at hc
    obtain ⟨u, f, e2, e9, R⟩ := P (vp_updL (ro t) 0 v.toInt64)
    exact ⟨c', u, R, (k_solve hE hL hk (hA_solve hE hc) (c_m_solve hE _ N _ (xs (k + 1)) (nzF (xs (k + 2))) (v, u) f) e9 (fun _ => by rw [e2]; rfl)).widenS (Nat.zero_le 1)⟩
  · rw [e] at hc
    rcases List.mem_cons.mp hin with hin | hin
    · obtain ⟨rfl, rfl⟩ := Prod.mk.inj hin
      exact ⟨c', u, R, k_solve hE hL hk (hT_solve_1 hE hc) (c_m_solve hE _ N _ (xs (k + 1)) (nzF (xs (k + 2))) (r, u) f) e9 (fun z => absurd z (by decide))⟩
    rcases List.mem_cons.mp hin with hin | hin
    · obtain ⟨rfl, rfl⟩ := Prod.mk.inj hin
      exact ⟨c', u, R, k_solve hE hL hk (hT_solve_2 hE hc) (c_m_solve hE _ N _ (xs (k + 1)) (nzF (xs (k + 2))) (r, u) f) e9 (fun z => absurd z (by decide))⟩
    rcases List.mem_cons.mp hin with hin | hin
    · obtain ⟨rfl, rfl⟩ := Prod.mk.inj hin
      exact ⟨c', u, R, k_solve hE hL hk (hT_solve_3 hE hc) (c_m_solve hE _ N _ (xs (k + 1)) (nzF (xs (k + 2))) (r, u) f) e9 (fun z => absurd z (by decide))⟩
    replace hin := List.mem_singleton.mp hin
    obtain ⟨rfl, rfl⟩ := Prod.mk.inj hin
    exact ⟨c', u, R, k_solve hE hL hk (hT_solve_4 hE hc) (c_m_solve hE _ N _ (xs (k + 1)) (nzF (xs (k + 2))) (r, u) f) e9 (fun z => absurd z (by decide))⟩
theorem s_case_solution {E : mEnv} (hE : E.1.stackTraces = false) {b L k N : Nat} {xs : Nat → Int32} (hN : 10000 ≤ N) (hL : L ≤ 1536) (hk : k + 2 < L) {c : cT} {t : xT} (h : ReL c t) : LSt E b L xs k 1185 c t := by
  have hc := c_solution hE (mw t) c (xs (k + 1)) (!decide (xs (k + 2) = 0))
  rcases PM.two (f := fun z => f_solution z (xs (k + 1)) (bI (!decide (xs (k + 2) = 0)))) (t := t) (pm_solution h (xs (k + 1)) (!decide (xs (k + 2) = 0))) (fun g => pm_solution (h.wo g) (xs (k + 1)) (!decide (xs (k + 2) = 0))) with ⟨v, c', e, P⟩ | ⟨X, kk, c', r, u, e, hin, f, e9, R⟩
  · rw [e] at hc
    obtain ⟨u, f, e2, e9, R⟩ := P (vp_updL (ro t) 0 v.toInt64)
    exact ⟨c', u, R, (k_solution hE hL hk (hA_solution hE hc) (c_m_solution hE _ _ (xs (k + 1)) (nzF (xs (k + 2))) (v, u) f) e9 (fun _ => by rw [e2]; rfl)).widenS (Nat.zero_le 1)⟩
  · rw [e] at hc
    replace hin := List.mem_singleton.mp hin
    obtain ⟨rfl, rfl⟩ := Prod.mk.inj hin
    exact ⟨c', u, R, k_solution hE hL hk (hT_solution_1 hE hc) (c_m_solution hE _ _ (xs (k + 1)) (nzF (xs (k + 2))) (r, u) f) e9 (fun z => absurd z (by decide))⟩
theorem s_case_finish {E : mEnv} (hE : E.1.stackTraces = false) {b L k N : Nat} {xs : Nat → Int32} (hN : 10000 ≤ N) (hL : L ≤ 1536) (hk : k + 2 < L) {c : cT} {t : xT} (h : ReL c t) : LSt E b L xs k 1269 c t := by
  have hc := c_finish hE (mw t) c (xs (k + 1))
  rcases PM.two (f := fun z => f_finish N z (xs (k + 1))) (t := t) (pm_finish h hN (xs (k + 1))) (fun g => pm_finish (h.wo g) hN (xs (k + 1))) with ⟨v, c', e, P⟩ | ⟨X, kk, c', r, u, e, hin, f, e9, R⟩
  · rw [e] at hc
    obtain ⟨u, f, e2, e9, R⟩ := P (vp_updL (ro t) 0 v.toInt64)
    exact ⟨c', u, R, (k_finish hE hL hk (hA_finish hE hc) (c_m_finish hE _ N _ (xs (k + 1)) (v, u) f) e9 (fun _ => by rw [e2]; rfl)).widenS (Nat.zero_le 1)⟩
  · rw [e] at hc
    rcases List.mem_cons.mp hin with hin | hin
    · obtain ⟨rfl, rfl⟩ := Prod.mk.inj hin
      exact ⟨c', u, R, k_finish hE hL hk (hT_finish_1 hE hc) (c_m_finish hE _ N _ (xs (k + 1)) (r, u) f) e9 (fun z => absurd z (by decide))⟩
    rcases List.mem_cons.mp hin with hin | hin
    · obtain ⟨rfl, rfl⟩ := Prod.mk.inj hin
      exact ⟨c', u, R, k_finish hE hL hk (hT_finish_2 hE hc) (c_m_finish hE _ N _ (xs (k + 1)) (r, u) f) e9 (fun z => absurd z (by decide))⟩
    rcases List.mem_cons.mp hin with hin | hin
    · obtain ⟨rfl, rfl⟩ := Prod.mk.inj hin
      exact ⟨c', u, R, k_finish hE hL hk (hT_finish_3 hE hc) (c_m_finish hE _ N _ (xs (k + 1)) (r, u) f) e9 (fun z => absurd z (by decide))⟩
    replace hin := List.mem_singleton.mp hin
    obtain ⟨rfl, rfl⟩ := Prod.mk.inj hin
    exact ⟨c', u, R, k_finish hE hL hk (hT_finish_4 hE hc) (c_m_finish hE _ N _ (xs (k + 1)) (r, u) f) e9 (fun z => absurd z (by decide))⟩
theorem s_case_recorded {E : mEnv} (hE : E.1.stackTraces = false) {b L k N : Nat} {xs : Nat → Int32} (hN : 10000 ≤ N) (hL : L ≤ 1536) (hk : k + 2 < L) {c : cT} {t : xT} (h : ReL c t) : LSt E b L xs k 1325 c t := by
  have hc := c_recorded hE (mw t) c (xs (k + 1))
  rcases PM.two (f := fun z => f_recorded z (xs (k + 1))) (t := t) (pm_recorded h (xs (k + 1))) (fun g => pm_recorded (h.wo g) (xs (k + 1))) with ⟨v, c', e, P⟩ | ⟨X, kk, c', r, u, e, hin, f, e9, R⟩
  · rw [e] at hc
    obtain ⟨u, f, e2, e9, R⟩ := P (vp_updL (ro t) 0 v.toInt64)
    exact ⟨c', u, R, (k_recorded hE hL hk (hA_recorded hE hc) (c_m_recorded hE _ _ (xs (k + 1)) (v, u) f) e9 (fun _ => by rw [e2]; rfl)).widenS (Nat.zero_le 1)⟩
  · rw [e] at hc
    replace hin := List.mem_singleton.mp hin
    obtain ⟨rfl, rfl⟩ := Prod.mk.inj hin
    exact ⟨c', u, R, k_recorded hE hL hk (hT_recorded_1 hE hc) (c_m_recorded hE _ _ (xs (k + 1)) (r, u) f) e9 (fun z => absurd z (by decide))⟩
theorem s_case_isReplayed {E : mEnv} (hE : E.1.stackTraces = false) {b L k N : Nat} {xs : Nat → Int32} (hN : 10000 ≤ N) (hL : L ≤ 1536) (hk : k + 2 < L) {c : cT} {t : xT} (h : ReL c t) : LSt E b L xs k 1381 c t := by
  have hc := c_isReplayed hE (mw t) c (h.qG)
  rcases PM.two (f := fun z => f_isReplayed z) (t := t) (pm_isReplayed h) (fun g => pm_isReplayed (h.wo g)) with ⟨v, c', e, P⟩ | ⟨X, kk, c', r, u, e, hin, f, e9, R⟩
  · rw [e] at hc
    obtain ⟨u, f, e2, e9, R⟩ := P (vp_updL (ro t) 0 (if v = 0 then 0 else 1))
    exact ⟨c', u, R, (k_isReplayed hE hL hk (hA_isReplayed hE hc) (c_m_isReplayed hE _ _ (v, u) f) e9 (fun _ => by rw [e2]; rfl)).widenS (Nat.zero_le 1)⟩
  · rw [e] at hc
    replace hin := List.mem_singleton.mp hin
    obtain ⟨rfl, rfl⟩ := Prod.mk.inj hin
    exact ⟨c', u, R, k_isReplayed hE hL hk (hT_isReplayed_1 hE hc) (c_m_isReplayed hE _ _ (r, u) f) e9 (fun z => absurd z (by decide))⟩
theorem s_case_undo {E : mEnv} (hE : E.1.stackTraces = false) {b L k N : Nat} {xs : Nat → Int32} (hN : 10000 ≤ N) (hL : L ≤ 1536) (hk : k + 2 < L) {c : cT} {t : xT} (h : ReL c t) : LSt E b L xs k 1432 c t := by
  have hc := c_undo hE (mw t) c
  rcases PM.two (f := fun z => f_undo N z) (t := t) (pm_undo h hN) (fun g => pm_undo (h.wo g) hN) with ⟨v, c', e, P⟩ | ⟨X, kk, c', r, u, e, hin, f, e9, R⟩
  · rw [e] at hc
    obtain ⟨u, f, e2, e9, R⟩ := P (vp_updL (ro t) 0 v.toInt64)
    exact ⟨c', u, R, (k_undo hE hL hk (hA_undo hE hc) (c_m_undo hE _ N _ (v, u) f) e9 (fun _ => by rw [e2]; rfl)).widenS (Nat.zero_le 1)⟩
  · rw [e] at hc
    replace hin := List.mem_singleton.mp hin
    obtain ⟨rfl, rfl⟩ := Prod.mk.inj hin
    exact ⟨c', u, R, k_undo hE hL hk (hT_undo_1 hE hc) (c_m_undo hE _ N _ (r, u) f) e9 (fun z => absurd z (by decide))⟩
theorem s_case_saveSnapshot {E : mEnv} (hE : E.1.stackTraces = false) {b L k N : Nat} {xs : Nat → Int32} (hN : 10000 ≤ N) (hL : L ≤ 1536) (hk : k + 2 < L) {c : cT} {t : xT} (h : ReL c t) : LSt E b L xs k 1476 c t := by
  have hc := c_saveSnapshot hE (mw t) c (h.qG)
  rcases PM.two (f := fun z => f_saveSnapshot N z) (t := t) (pm_saveSnapshot h hN) (fun g => pm_saveSnapshot (h.wo g) hN) with ⟨v, c', e, P⟩ | ⟨X, kk, c', r, u, e, hin, f, e9, R⟩
  · rw [e] at hc
    obtain ⟨u, f, e2, e9, R⟩ := P (vp_updL (ro t) 0 v.toInt64)
    exact ⟨c', u, R, (k_saveSnapshot hE hL hk (hA_saveSnapshot hE hc) (c_m_saveSnapshot hE _ N _ (v, u) f) e9 (fun _ => by rw [e2]; rfl)).widenS (Nat.zero_le 1)⟩
  · rw [e] at hc
    replace hin := List.mem_singleton.mp hin
    obtain ⟨rfl, rfl⟩ := Prod.mk.inj hin
    exact ⟨c', u, R, k_saveSnapshot hE hL hk (hT_saveSnapshot_1 hE hc) (c_m_saveSnapshot hE _ N _ (r, u) f) e9 (fun z => absurd z (by decide))⟩
theorem s_case_restoreSnapshot {E : mEnv} (hE : E.1.stackTraces = false) {b L k N : Nat} {xs : Nat → Int32} (hN : 10000 ≤ N) (hL : L ≤ 1536) (hk : k + 2 < L) {c : cT} {t : xT} (h : ReL c t) : LSt E b L xs k 1520 c t := by
  have hc := c_restoreSnapshot hE (mw t) c (h.qS)
  rcases PM.two (f := fun z => f_restoreSnapshot N z) (t := t) (pm_restoreSnapshot h hN) (fun g => pm_restoreSnapshot (h.wo g) hN) with ⟨v, c', e, P⟩ | ⟨X, kk, c', r, u, e, hin, f, e9, R⟩
  · rw [e] at hc
    obtain ⟨u, f, e2, e9, R⟩ := P (vp_updL (ro t) 0 v.toInt64)
    exact ⟨c', u, R, (k_restoreSnapshot hE hL hk (hA_restoreSnapshot hE hc) (c_m_restoreSnapshot hE _ N _ (v, u) f) e9 (fun _ => by rw [e2]; rfl)).widenS (Nat.zero_le 1)⟩
  · rw [e] at hc
    replace hin := List.mem_singleton.mp hin
    obtain ⟨rfl, rfl⟩ := Prod.mk.inj hin
    exact ⟨c', u, R, k_restoreSnapshot hE hL hk (hT_restoreSnapshot_1 hE hc) (c_m_restoreSnapshot hE _ N _ (r, u) f) e9 (fun z => absurd z (by decide))⟩
