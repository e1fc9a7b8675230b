/-! the model's elementary methods, over a room -/
def bz (k : Nat) : Int32 := if k = 64 then -1 else nI k
def sz (k : Nat) : Int32 := if k < 64 then nI k else -1
def kd (g : gT) (c : Nat) : Int32 := if tb (gO g) c then (if tb (gG g) c then 3 else 1) else 0
def GR (G : Nat → Int32) (g : gT) (R C : Nat) : Prop := G 0 = 1 ∧ G 1 = nI R ∧ G 2 = nI C ∧ ∀ c, c < 64 → G (10 + c) = kd g c
def GB (G : Nat → Int32) (b : Int64) : Prop := ∀ c, c < 64 → G (74 + c) = bI (tb b c)
theorem bz_nI {k : Nat} (h : k < 64) : bz k = nI k := if_neg (by omega)
theorem bz_64 : bz 64 = -1 := rfl
theorem sz_nI {k : Nat} (h : k < 64) : sz k = nI k := if_pos h
theorem sz_99 : sz 99 = -1 := rfl
theorem cl_0 : Int32.toNatClampNeg 0 = 0 := rfl
theorem cl_1 : Int32.toNatClampNeg 1 = 1 := rfl
theorem cl_2 : Int32.toNatClampNeg 2 = 2 := rfl
theorem cl_3 : Int32.toNatClampNeg 3 = 3 := rfl
theorem cl_4 : Int32.toNatClampNeg 4 = 4 := rfl
theorem inB_nI {k n : Nat} (h : k < n) (hn : n < 2 ^ 31) : inB (nI k) n = true := by
  unfold inB
  rw [and_t, decide_eq_true_iff, nI_clamp (by omega)]
  exact ⟨nI_pos' (by omega), Nat.ble_eq_true_of_le h⟩
theorem bI_1 {b : Bool} : bI b = 1 ↔ b = true := by cases b <;> decide
theorem bI_chk (b : Bool) {x : Option Int32} : (if bI b &&& 1 = bI b then x else none) = x := if_pos (bI_and b)
theorem m_in (a lo hi : Int32) : f_in a lo hi = some (bI (decide (lo ≤ a) && decide (a ≤ hi))) := by
  unfold f_in
  by_cases h1 : a < lo
  · have : ¬ lo ≤ a := by rw [Int32.not_le]; exact h1
    rw [if_pos h1, decide_eq_false this]; rfl
  · have h1' : lo ≤ a := by rw [← Int32.not_lt]; exact h1
    rw [if_neg h1, decide_eq_true h1']
    by_cases h2 : hi < a
    · have : ¬ a ≤ hi := by rw [Int32.not_le]; exact h2
      rw [if_pos h2, decide_eq_false this]; rfl
    · have h2' : a ≤ hi := by rw [← Int32.not_lt]; exact h2
      rw [if_neg h2, decide_eq_true h2']; rfl
theorem m_opp : ∀ d, d < 4 → f_opposite (nI d) = some (nI (opd d)) := by decide +kernel
theorem m_size {t : xT} {g : gT} {R C : Nat} (h : GR (ra t 1) g R C) : f_size t = nI (R * C) := by
  unfold f_size
  rw [cl_1, cl_2, h.2.1, h.2.2.1, pk_mul]
theorem m_room {t : xT} {g : gT} {R C : Nat} (h : GR (ra t 1) g R C) : f_hasRoom t = some 1 := by
  unfold f_hasRoom
  rw [cl_0, h.1]; rfl
theorem m_noroom {t : xT} (h : ra t 1 0 = 0) : f_hasRoom t = some 0 := by
  unfold f_hasRoom
  rw [cl_0, h]; rfl
theorem ten (k : Nat) : (10 : Int32) + nI k = nI (10 + k) := nI_add 10 k
theorem sfour (k : Nat) : (74 : Int32) + nI k = nI (74 + k) := nI_add 74 k
theorem m_open {t : xT} {g : gT} {R C : Nat} (h : GR (ra t 1) g R C) {k : Nat} (hk : k ≤ 64) : f_isOpen t (bz k) = some (bI (tb (gO g) k)) := by
  unfold f_isOpen
  rcases Nat.eq_or_lt_of_le hk with e | e
  · subst e; rw [tb_big (Nat.le_refl _)]; rfl
  · rw [bz_nI e, if_neg (nI_pos (by omega)), ten, if_pos (inB_nI (by omega) (by decide)), nI_clamp (by omega), h.2.2.2 k e]
    unfold kd
    cases tb (gO g) k <;> cases tb (gG g) k <;> rfl
theorem m_openI {t : xT} {g : gT} {R C : Nat} (h : GR (ra t 1) g R C) {k : Nat} (hk : k < 64) : f_isOpen t (nI k) = some (bI (tb (gO g) k)) := by
  rw [← bz_nI hk]; exact m_open h (by omega)
theorem m_goal {t : xT} {g : gT} {R C : Nat} (ok : GOk g R C) (h : GR (ra t 1) g R C) {k : Nat} (hk : k < 64) : f_isGoal t (nI k) = some (bI (tb (gG g) k)) := by
  unfold f_isGoal
  rw [ten, if_pos (inB_nI (by omega) (by decide)), nI_clamp (by omega), h.2.2.2 k hk]
  unfold kd
  have := ok.goal_open (c := k)
  cases e1 : tb (gO g) k <;> cases e2 : tb (gG g) k <;> first | rfl | (rw [e1, e2] at this; exact absurd (this rfl) (by decide))
theorem m_box {t : xT} {b : Int64} (h : GB (ra t 1) b) {k : Nat} (hk : k ≤ 64) : f_isBox t (bz k) = some (bI (tb b k)) := by
  unfold f_isBox
  rcases Nat.eq_or_lt_of_le hk with e | e
  · subst e; rw [tb_big (Nat.le_refl _)]; rfl
  · rw [bz_nI e, if_neg (nI_pos (by omega)), sfour, if_pos (inB_nI (by omega) (by decide)), nI_clamp (by omega), h k e]
    cases tb b k <;> rfl
theorem m_boxI {t : xT} {b : Int64} (h : GB (ra t 1) b) {k : Nat} (hk : k < 64) : f_isBox t (nI k) = some (bI (tb b k)) := by
  rw [← bz_nI hk]; exact m_box h (by omega)
def besF (R C a0 a1 : Int32) : Option Int32 := if ¬ C = 0 then (Option.bind (if a1 = 0 then (some ((-1) : Int32))
    else (if a1 = 2 then (some (1 : Int32))
      else (some (0 : Int32)))) fun (r_9 : Int32) =>
  if ¬ C = 0 then (Option.bind (if a1 = 1 then (some (1 : Int32))
    else (if a1 = 3 then (some ((-1) : Int32))
      else (some (0 : Int32)))) fun (r_38 : Int32) =>
  Option.bind (f_in ((a0 / C) + r_9) 0 (R - 1)) fun r_68 =>
  Option.bind (if r_68 = 0 then (some ((-1) : Int32))
    else (Option.bind (f_in ((a0 - a0 / C * C) + r_38) 0 (C - 1)) fun r_85 =>
      if r_85 = 0 then (some ((-1) : Int32))
      else (some ((((a0 / C) + r_9) * C) + ((a0 - a0 / C * C) + r_38))))) fun (r_71 : Int32) =>
  some r_71) else none) else none
theorem bes_eq (t : xT) (a0 a1 : Int32) : f_beside t a0 a1 = besF (ra t 1 1) (ra t 1 2) a0 a1 := rfl
theorem bes_all : ∀ k, k < 36 → ∀ c, c < (k / 6 + 3) * (k % 6 + 3) → ∀ d, d < 4 → besF (nI (k / 6 + 3)) (nI (k % 6 + 3)) (nI c) (nI d) = some (bz (nb (k / 6 + 3) (k % 6 + 3) c d)) := by decide +kernel
theorem m_bes {t : xT} {g : gT} {R C : Nat} (ok : RC R C) (h : GR (ra t 1) g R C) {c d : Nat} (hc : c < R * C) (hd : d < 4) : f_beside t (nI c) (nI d) = some (bz (nb R C c d)) := by
  obtain ⟨⟨a1, a2⟩, a3, a4⟩ := ok
  have e1 : (6 * (R - 3) + (C - 3)) / 6 + 3 = R := by omega
  have e2 : (6 * (R - 3) + (C - 3)) % 6 + 3 = C := by omega
  have := bes_all (6 * (R - 3) + (C - 3)) (by omega) c (by rw [e1, e2]; exact hc) d hd
  rw [e1, e2] at this
  rw [bes_eq, h.2.1, h.2.2.1]
  exact this
/-! states: what is read behind a write -/
theorem ra_wa (t : xT) (i j : Nat) (f : Nat → Int32) : ra (wa t i f) j = if j = i then f else ra t j := rfl
theorem ra_ws (t : xT) (k j : Nat) (v : Int32) : ra (ws t k v) j = ra t j := rfl
theorem ra_wb (t : xT) (j : Nat) (f : Nat → Int64) : ra (wb t f) j = ra t j := rfl
theorem rs_wa (t : xT) (i k : Nat) (f : Nat → Int32) : rs (wa t i f) k = rs t k := rfl
theorem rs_ws (t : xT) (i k : Nat) (v : Int32) : rs (ws t i v) k = if k = i then v else rs t k := rfl
theorem rs_wb (t : xT) (k : Nat) (f : Nat → Int64) : rs (wb t f) k = rs t k := rfl
theorem rb_wa (t : xT) (i : Nat) (f : Nat → Int32) : rb (wa t i f) = rb t := rfl
theorem rb_ws (t : xT) (k : Nat) (v : Int32) : rb (ws t k v) = rb t := rfl
theorem rb_wb (t : xT) (f : Nat → Int64) : rb (wb t f) = f := rfl
theorem ro_wa (t : xT) (i : Nat) (f : Nat → Int32) : ro (wa t i f) = ro t := rfl
theorem ro_ws (t : xT) (k : Nat) (v : Int32) : ro (ws t k v) = ro t := rfl
theorem ro_wb (t : xT) (f : Nat → Int64) : ro (wb t f) = ro t := rfl
theorem wa_wa (t : xT) (i : Nat) (f f' : Nat → Int32) : wa (wa t i f) i f' = wa t i f' := by
  unfold wa
  refine Prod.ext (funext fun j => ?_) rfl
  by_cases h : j = i <;> simp [h]
theorem wa_ra (t : xT) (i : Nat) : wa t i (ra t i) = t := by
  unfold wa ra
  refine Prod.ext (funext fun j => ?_) rfl
  by_cases h : j = i <;> simp [h]
theorem wa_co (t : xT) {i j : Nat} (h : i ≠ j) (f f' : Nat → Int32) : wa (wa t i f) j f' = wa (wa t j f') i f := by
  unfold wa
  refine Prod.ext (funext fun k => ?_) rfl
  by_cases h1 : k = i <;> by_cases h2 : k = j <;> simp [h1, h2]
  · omega
  · intro z; omega
  · intro z; omega
theorem ws_ws (t : xT) (i : Nat) (v v' : Int32) : ws (ws t i v) i v' = ws t i v' := by
  unfold ws
  refine Prod.ext rfl (Prod.ext rfl (Prod.ext (funext fun j => ?_) rfl))
  by_cases h : j = i <;> simp [h]
theorem ws_rs (t : xT) (i : Nat) : ws t i (rs t i) = t := by
  unfold ws rs
  refine Prod.ext rfl (Prod.ext rfl (Prod.ext (funext fun j => ?_) rfl))
  by_cases h : j = i <;> simp [h]
theorem ws_co (t : xT) {i j : Nat} (h : i ≠ j) (v v' : Int32) : ws (ws t i v) j v' = ws (ws t j v') i v := by
  unfold ws
  refine Prod.ext rfl (Prod.ext rfl (Prod.ext (funext fun k => ?_) rfl))
  by_cases h1 : k = i <;> by_cases h2 : k = j <;> simp [h1, h2]
  · omega
  · intro z; omega
  · intro z; omega
theorem wa_ws (t : xT) (i j : Nat) (f : Nat → Int32) (v : Int32) : ws (wa t i f) j v = wa (ws t j v) i f := rfl
