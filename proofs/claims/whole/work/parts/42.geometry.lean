/-! cells and their neighbors -/
/-- the neighbor of a cell in a direction, 64 beyond the edge -/
def nb (R C c d : Nat) : Nat := if d = 0 then (if c < C then 64 else c - C) else if d = 1 then (if c % C + 1 = C then 64 else c + 1) else if d = 2 then (if c + C < R * C then c + C else 64) else (if c % C = 0 then 64 else c - 1)
def opd (d : Nat) : Nat := (d + 2) % 4
theorem opd_lt (d : Nat) : opd d < 4 := by unfold opd; omega
theorem opd_opd {d : Nat} (h : d < 4) : opd (opd d) = d := by unfold opd; omega
def RC (R C : Nat) : Prop := (3 ≤ R ∧ R ≤ 8) ∧ 3 ≤ C ∧ C ≤ 8
theorem RC.le {R C : Nat} (h : RC R C) : R * C ≤ 64 := by
  obtain ⟨⟨_, a⟩, _, b⟩ := h
  exact Nat.mul_le_mul a b
theorem RC.ge {R C : Nat} (h : RC R C) : 9 ≤ R * C := by
  obtain ⟨⟨a, _⟩, b, _⟩ := h
  exact Nat.mul_le_mul a b
theorem nb_all : ∀ k, k < 36 → ∀ c, c < (k / 6 + 3) * (k % 6 + 3) → ∀ d, d < 4 → (nb (k / 6 + 3) (k % 6 + 3) c d = 64 ∨ (nb (k / 6 + 3) (k % 6 + 3) c d < (k / 6 + 3) * (k % 6 + 3) ∧ nb (k / 6 + 3) (k % 6 + 3) (nb (k / 6 + 3) (k % 6 + 3) c d) (opd d) = c ∧ ¬ nb (k / 6 + 3) (k % 6 + 3) c d = c)) := by decide +kernel
theorem nb_or {R C c d : Nat} (h : RC R C) (hc : c < R * C) (hd : d < 4) : nb R C c d = 64 ∨ (nb R C c d < R * C ∧ nb R C (nb R C c d) (opd d) = c ∧ ¬ nb R C c d = c) := by
  obtain ⟨⟨a1, a2⟩, a3, a4⟩ := h
  have e1 : (6 * (R - 3) + (C - 3)) / 6 + 3 = R := by omega
  have e2 : (6 * (R - 3) + (C - 3)) % 6 + 3 = C := by omega
  have := nb_all (6 * (R - 3) + (C - 3)) (by omega) c (by rw [e1, e2]; exact hc) d hd
  rw [e1, e2] at this
  exact this
theorem nb_lt {R C c d : Nat} (h : RC R C) (hc : c < R * C) (hd : d < 4) (hn : nb R C c d ≠ 64) : nb R C c d < R * C := by
  rcases nb_or h hc hd with q | q
  · exact absurd q hn
  · exact q.1
theorem nb_le {R C c d : Nat} (h : RC R C) (hc : c < R * C) (hd : d < 4) : nb R C c d ≤ 64 := by
  rcases nb_or h hc hd with q | q
  · omega
  · have := h.le; omega
theorem nb_back {R C c d e : Nat} (h : RC R C) (hc : c < R * C) (hd : d < 4) (hn : nb R C c d = e) (he : e ≠ 64) : nb R C e (opd d) = c ∧ e < R * C := by
  rcases nb_or h hc hd with q | q
  · exact absurd (hn ▸ q) he
  · rw [hn] at q; exact ⟨q.2.1, q.1⟩
theorem nb_ne {R C c d : Nat} (h : RC R C) (hc : c < R * C) (hd : d < 4) : ¬ nb R C c d = c := by
  rcases nb_or h hc hd with q | q
  · have := h.le; omega
  · exact q.2.2
/-- a grid that is laid: its size, its sets within it -/
def GOk (g : gT) (R C : Nat) : Prop := RC R C ∧ gR g = nI R ∧ gC g = nI C ∧ (∀ c, tb (gO g) c = true → c < R * C) ∧ (∀ c, tb (gG g) c = true → tb (gO g) c = true) ∧ (∀ c, c < 64 → tb (gF g) c = decide (c % C = 0 ∧ c < R * C)) ∧ (∀ c, c < 64 → tb (gL g) c = decide (c % C = C - 1 ∧ c < R * C)) ∧ gD g = gO g &&& (gPl g (gG g) ^^^ (-1))
theorem GOk.rc {g : gT} {R C : Nat} (h : GOk g R C) : RC R C := h.1
theorem GOk.open_lt {g : gT} {R C c : Nat} (h : GOk g R C) (hc : tb (gO g) c = true) : c < R * C := h.2.2.2.1 c hc
theorem GOk.goal_open {g : gT} {R C c : Nat} (h : GOk g R C) (hc : tb (gG g) c = true) : tb (gO g) c = true := h.2.2.2.2.1 c hc
/-- a set within the grid -/
def Sub (R C : Nat) (s : Int64) : Prop := ∀ c, tb s c = true → c < R * C
theorem Sub.bit {R C k : Nat} (h : RC R C) (hk : k < R * C) : Sub R C (jshl 1 (nI k)) := by
  intro c hc
  have h1 := tb_lt hc
  rw [tb_bit (Nat.lt_of_lt_of_le hk h.le) h1] at hc
  have := of_decide_eq_true hc
  omega
theorem Sub.and1 {R C : Nat} {a : Int64} (h : Sub R C a) (b : Int64) : Sub R C (a &&& b) := fun c hc => by
  rw [tb_and] at hc
  exact h c (by cases e : tb a c <;> simp [e] at hc ⊢)
theorem Sub.and2 {R C : Nat} {b : Int64} (h : Sub R C b) (a : Int64) : Sub R C (a &&& b) := fun c hc => by
  rw [tb_and] at hc
  exact h c (by cases e : tb b c <;> simp [e] at hc ⊢)
theorem Sub.or {R C : Nat} {a b : Int64} (h : Sub R C a) (h2 : Sub R C b) : Sub R C (a ||| b) := fun c hc => by
  rw [tb_or] at hc
  cases e : tb a c with
  | true => exact h c e
  | false => rw [e] at hc; exact h2 c (by simpa using hc)
theorem GOk.sub_open {g : gT} {R C : Nat} (h : GOk g R C) : Sub R C (gO g) := fun c hc => h.open_lt hc
theorem GOk.sub_goal {g : gT} {R C : Nat} (h : GOk g R C) : Sub R C (gG g) := fun c hc => h.open_lt (h.goal_open hc)
theorem c_cases {C : Nat} (h1 : 3 ≤ C) (h2 : C ≤ 8) : C = 3 ∨ C = 4 ∨ C = 5 ∨ C = 6 ∨ C = 7 ∨ C = 8 := by omega
theorem md_1 {C c : Nat} (h1 : 3 ≤ C) (h2 : C ≤ 8) (h3 : ¬ c % C = 0) : (c - 1) % C + 1 = c % C ∧ 1 ≤ c := by
  rcases c_cases h1 h2 with rfl | rfl | rfl | rfl | rfl | rfl <;> omega
theorem md_2 {C c : Nat} (h1 : 3 ≤ C) (h2 : C ≤ 8) (h3 : c % C = 0) (h4 : 1 ≤ c) : (c - 1) % C = C - 1 := by
  rcases c_cases h1 h2 with rfl | rfl | rfl | rfl | rfl | rfl <;> omega
theorem md_3 {C c : Nat} (h1 : 3 ≤ C) (h2 : C ≤ 8) : (1 + c) % C = 0 ↔ c % C + 1 = C := by
  rcases c_cases h1 h2 with rfl | rfl | rfl | rfl | rfl | rfl <;> omega
theorem nI_ne {a b : Nat} (ha : a < 2 ^ 31) (hb : b < 2 ^ 31) (h : a ≠ b) : ¬ nI a = nI b := fun q => h ((nI_eq ha hb).mp q)
theorem mv_tb {g : gT} {R C : Nat} (h : GOk g R C) {s : Int64} (hs : Sub R C s) {d : Nat} (hd : d < 4) (c : Nat) : tb (gMv g s (nI d)) c = (tb (gO g) c && tb s (nb R C c (opd d))) := by
  by_cases hc : 64 ≤ c
  · rw [tb_big hc, tb_big hc]; rfl
  have hc := Nat.lt_of_not_le hc
  by_cases hO : tb (gO g) c = false
  · have : tb (gMv g s (nI d)) c = false := by
      unfold gMv
      split
      · rw [tb_and, hO, Bool.and_false]
      split
      · rw [tb_and, hO, Bool.and_false]
      split
      · rw [tb_and, hO, Bool.and_false]
      split
      · rw [tb_and, hO, Bool.and_false]
      · exact tb_0 c
    rw [this, hO]; rfl
  have hO : tb (gO g) c = true := by cases e : tb (gO g) c <;> simp_all
  have hl := h.open_lt hO
  obtain ⟨⟨⟨r1, r2⟩, r3, r4⟩, hR, hC, -, -, hF, hL, -⟩ := h
  have hle : R * C ≤ 64 := Nat.mul_le_mul r2 r4
  rw [hO, Bool.true_and]
  have e0 : (nI 0 : Int32) = 0 := nI_0
  match d, hd with
  | 0, _ =>
    show tb (gMv g s 0) c = tb s (nb R C c 2)
    unfold gMv
    rw [if_pos rfl, tb_and, hO, Bool.and_true, hC, tb_shr s c (by omega)]
    show _ = tb s (if c + C < R * C then c + C else 64)
    split
    · rw [Nat.add_comm]
    · rename_i q
      rw [tb_big (Nat.le_refl 64)]
      cases e : tb s (C + c) with
      | false => rfl
      | true => exact absurd (hs _ e) (by omega)
  | 1, _ =>
    show tb (gMv g s 1) c = tb s (nb R C c 3)
    unfold gMv
    rw [if_neg (by decide), if_pos rfl, tb_and, hO, Bool.and_true, show (1 : Int32) = nI 1 from rfl, tb_shl _ (by decide) hc, tb_and]
    show _ = tb s (if c % C = 0 then 64 else c - 1)
    rcases Nat.eq_zero_or_pos c with rfl | hp
    · simp [tb_big]
    · rw [tb_not _ (by omega), hL (c - 1) (by omega)]
      have : decide (1 ≤ c) = true := decide_eq_true hp
      rw [this, Bool.true_and]
      split
      · rename_i q
        have := md_2 r3 r4 q hp
        rw [tb_big (Nat.le_refl 64)]
        simp [this]; omega
      · rename_i q
        have := md_1 r3 r4 q
        have : ¬ (c - 1) % C = C - 1 := by have := Nat.mod_lt c (show 0 < C by omega); omega
        simp [this]
  | 2, _ =>
    show tb (gMv g s 2) c = tb s (nb R C c 0)
    unfold gMv
    rw [if_neg (by decide), if_neg (by decide), if_pos rfl, tb_and, hO, Bool.and_true, hC, tb_shl s (by omega) hc]
    show _ = tb s (if c < C then 64 else c - C)
    split
    · rename_i q; rw [tb_big (Nat.le_refl 64)]; simp; omega
    · rename_i q; simp; omega
  | 3, _ =>
    show tb (gMv g s 3) c = tb s (nb R C c 1)
    unfold gMv
    rw [if_neg (by decide), if_neg (by decide), if_neg (by decide), if_pos rfl, tb_and, hO, Bool.and_true, show (1 : Int32) = nI 1 from rfl, tb_shr _ c (by decide), tb_and]
    show _ = tb s (if c % C + 1 = C then 64 else c + 1)
    rcases Nat.lt_or_ge (1 + c) 64 with hb | hb
    · rw [tb_not _ hb, hF _ hb]
      split
      · rename_i q
        have := (md_3 r3 r4 (c := c)).mpr q
        rw [tb_big (Nat.le_refl 64)]
        cases e : tb s (1 + c) with
        | false => rfl
        | true => have := hs _ e; simp_all
      · rename_i q
        have : ¬ (c + 1) % C = 0 := fun z => q ((md_3 r3 r4).mp (by rw [Nat.add_comm]; exact z))
        simp [this, Nat.add_comm 1 c]
    · rw [tb_big hb, Bool.false_and]
      split
      · rw [tb_big (Nat.le_refl 64)]
      · rw [tb_big (by omega)]
  | d + 4, hd => omega
theorem mv_sub {g : gT} {R C : Nat} (h : GOk g R C) (s : Int64) (d : Int32) : Sub R C (gMv g s d) := by
  intro c hc
  refine h.open_lt (c := c) ?_
  cases e : tb (gO g) c with
  | true => rfl
  | false =>
    exfalso
    have : tb (gMv g s d) c = false := by
      unfold gMv
      split
      · rw [tb_and, e, Bool.and_false]
      split
      · rw [tb_and, e, Bool.and_false]
      split
      · rw [tb_and, e, Bool.and_false]
      split
      · rw [tb_and, e, Bool.and_false]
      · exact tb_0 c
    rw [this] at hc; cases hc
