/-! public methods that only answer -/
theorem mem0 {X : String} {k : Int32} {l : List (String × Int32)} : (X, k) ∈ (X, k) :: l := List.mem_cons_self
theorem mem1 {X : String} {k : Int32} {a : String × Int32} {l : List (String × Int32)} : (X, k) ∈ a :: (X, k) :: l := List.mem_cons_of_mem _ List.mem_cons_self
theorem mem2 {X : String} {k : Int32} {a b : String × Int32} {l : List (String × Int32)} : (X, k) ∈ a :: b :: (X, k) :: l := List.mem_cons_of_mem _ mem1
theorem mem3 {X : String} {k : Int32} {a b c : String × Int32} {l : List (String × Int32)} : (X, k) ∈ a :: b :: c :: (X, k) :: l := List.mem_cons_of_mem _ mem2
theorem mem4 {X : String} {k : Int32} {a b c d : String × Int32} {l : List (String × Int32)} : (X, k) ∈ a :: b :: c :: d :: (X, k) :: l := List.mem_cons_of_mem _ mem3
theorem n10 : ¬ (1 : Int32) = 0 := by decide
theorem le00 : (0 : Int32) ≤ 0 := by decide
theorem in_f {a lo hi : Int32} (h : a < lo ∨ hi < a) : f_in a lo hi = some 0 := by
  rw [m_in]
  rcases h with h | h
  · rw [decide_eq_false (by rw [Int32.not_le]; exact h)]; rfl
  · rw [decide_eq_false (p := a ≤ hi) (by rw [Int32.not_le]; exact h), Bool.and_false]; rfl
theorem in_t {a lo hi : Int32} (h : lo ≤ a) (h2 : a ≤ hi) : f_in a lo hi = some 1 := by
  rw [m_in, decide_eq_true h, decide_eq_true h2]; rfl
theorem i_lt {a b : Int32} (h : ¬ a < b) : b ≤ a := by rw [← Int32.not_lt]; exact h
theorem i_le {a b : Int32} (h : ¬ a ≤ b) : b < a := by rw [← Int32.not_le]; exact h
theorem vn_char {k : Nat} (h : k < 65536) : vp_nar .char (nI k) = nI k := by
  have := (pk_charN h).1
  unfold vp_nar; rw [this]
/-- a small number by its cases -/
theorem nI_range {x : Int32} {n : Nat} (h0 : ¬ x < 0) (h : x < nI n) (hn : n < 2 ^ 31) : ∃ k, k < n ∧ x = nI k := by
  obtain ⟨k, hk, e⟩ := nI_of h0
  rw [e] at h
  exact ⟨k, (nI_ltI hk hn).mp h, e⟩
theorem dec_t {b : Bool} (h : b = true) : (b = true) = True := eq_true h
theorem pm_cells {c : cT} {t : xT} (h : ReL c t) {N : Nat} (hN : 10000 ≤ N) (a : Int32) : PML [(xISE, 1), (xIAE, 2)] (o_cells c a) (f_cells N t a) t := by
  unfold o_cells
  rcases h.room with ⟨r1, _, r2, _⟩ | ⟨r1, r2, R, C, p, n, hG, hn, hQ, hH⟩
  · rw [r1]
    unfold f_cells
    rw [r2]
    exact ⟨0, ws t 9 1, rfl, rfl, Or.inr ⟨xISE, c, rfl, mem0, h.same (same9 _)⟩⟩
  · rw [r1, if_pos rfl]
    have pv := hG.2.2.2.2.1
    have bad : (a < 0 ∨ 8 < a) → ∃ r u, f_cells N t a = some (r, u) ∧ ro u = ro t ∧ rs u 9 = 2 ∧ ReL c u := fun z => by
      unfold f_cells
      rw [r2, Option.bind_some, if_neg (by decide), in_f z]
      exact ⟨0, ws t 9 2, rfl, rfl, rfl, h.same (same9 _)⟩
    have out : (∀ w, w ≤ 8 → ¬ a = nI w) → PML [(xISE, 1), (xIAE, 2)] (.inr (xIAE, c)) (f_cells N t a) t := fun z => by
      have : a < 0 ∨ 8 < a := by
        by_cases y : a < 0
        · exact Or.inl y
        · refine Or.inr (i_le fun w => ?_)
          obtain ⟨k, hk, e⟩ := nI_range (n := 9) y (Int32.lt_of_le_of_lt w (by decide)) (by decide)
          exact z k (by omega) e
      obtain ⟨r, u, e1, e2, e3, e4⟩ := bad this
      exact ⟨r, u, e1, e2, Or.inr ⟨xIAE, c, rfl, by rw [e3]; exact mem1, e4⟩⟩
    have good : ∀ w, w ≤ 8 → a = nI w → PML [(xISE, 1), (xIAE, 2)] (.inl (some (.long (cK (qG (tG c)) (qN (tG c)).1 (nI p) w)), c)) (f_cells N t a) t := fun w hw e => by
      obtain ⟨u, e1, f1, e2⟩ := s_cells hG.1 hQ.1 hQ.2.1 pv.1 hQ.2.2.1 pv.2.1 hN hw
      rw [e]
      exact ⟨_, u, e1, f1.2.2.2, Or.inl ⟨c, rfl, e2, h.same (f1.same (by decide) (by decide))⟩⟩
    by_cases a0 : a = 0
    · rw [if_pos a0]; exact good 0 (by decide) a0
    rw [if_neg a0]
    by_cases a1 : a = 1
    · rw [if_pos a1]; exact good 1 (by decide) a1
    rw [if_neg a1]
    by_cases a2 : a = 2
    · rw [if_pos a2]; exact good 2 (by decide) a2
    rw [if_neg a2]
    by_cases a3 : a = 3
    · rw [if_pos a3, hG.2.1]; exact good 3 (by decide) a3
    rw [if_neg a3]
    by_cases a4 : a = 4
    · rw [if_pos a4]; exact good 4 (by decide) a4
    rw [if_neg a4]
    by_cases a5 : a = 5
    · rw [if_pos a5]; exact good 5 (by decide) a5
    rw [if_neg a5]
    by_cases a6 : a = 6
    · rw [if_pos a6]; exact good 6 (by decide) a6
    rw [if_neg a6]
    by_cases a7 : a = 7
    · rw [if_pos a7]; exact good 7 (by decide) a7
    rw [if_neg a7]
    by_cases a8 : a = 8
    · rw [if_pos a8]; exact good 8 (by decide) a8
    rw [if_neg a8]
    refine out fun w hw e => ?_
    match w, hw with
    | 0, _ => exact a0 e
    | 1, _ => exact a1 e
    | 2, _ => exact a2 e
    | 3, _ => exact a3 e
    | 4, _ => exact a4 e
    | 5, _ => exact a5 e
    | 6, _ => exact a6 e
    | 7, _ => exact a7 e
    | 8, _ => exact a8 e
    | w + 9, hw => omega
