/-! the class's state and the model's -/
def ITx (c : cT) (t : xT) : Prop := chOk (tI c).1 ∧ ∃ len, len ≤ 80 ∧ (tI c).2 = nI len ∧ rs t 11 = nI len ∧ ∀ i, i < len → ra t 5 i = (tI c).1 i ∧ ∃ ch, 32 ≤ ch ∧ ch ≤ 126 ∧ (tI c).1 i = nI ch
def KTx (c : cT) (t : xT) : Prop := rs t 6 = (tK c).1 ∧ rs t 7 = (tK c).2.1 ∧ rs t 8 = (tK c).2.2 ∧ ((tK c).2.2 = -1 ∨ ¬ (tK c).2.2 < 0)
def OTx (c : cT) (t : xT) : Prop := ((tO c).2.1 = -1 ∧ rs t 33 = -1) ∨ ∃ k, k < 1000 ∧ (tO c).2.1 = nI k ∧ rs t 33 = nI k ∧ rs t 34 = (tO c).2.2 ∧ ∀ i, i < k → ra t 18 i = (tO c).1 i ∧ ∃ v, v < 256 ∧ (tO c).1 i = nI v
/-- no room yet -/
def GZ (q : GmT) : Prop := gR (qG q) = 0 ∧ gC (qG q) = 0 ∧ gO (qG q) = 0 ∧ gG (qG q) = 0 ∧ qN q = (0, 0) ∧ qC q = 0
def GTx (c : cT) (t : xT) : Prop := (GZ (tG c) ∧ (∀ k, k < 602 → ra t 1 k = 0) ∧ hZ (tH c) = 0 ∧ rs t 5 = 0) ∨ ∃ R C p n, GI (tG c) R C p n ∧ n ≤ 400 ∧ RQ (ra t 1) (qG (tG c)) R C (qN (tG c)).1 p n (qR (tG c)) ∧ HI (tG c) R C n (tH c) t
def STx (c : cT) (t : xT) : Prop := (gR (qG (tS c)) = 0 ∧ rs t 3 = 0 ∧ qC (tS c) = 0) ∨ ∃ R C p n, GI (tS c) R C p n ∧ n ≤ 400 ∧ RQ (ra t 2) (qG (tS c)) R C (qN (tS c)).1 p n (qR (tS c)) ∧ rs t 3 = 1
def ReL (c : cT) (t : xT) : Prop := ITx c t ∧ KTx c t ∧ OTx c t ∧ GTx c t ∧ STx c t
/-- persistent places of the model -/
def pA : List Nat := [3, 6, 7, 8, 9, 10, 11, 12, 13, 15, 16, 17]
def pK : List Nat := [9, 10, 12, 13, 14, 16, 21, 24, 26, 31, 35]
/-- nothing persistent is changed -/
def Same (t u : xT) : Prop := (∀ i, i ∉ pA → ra u i = ra t i) ∧ (∀ k, k ∉ pK → rs u k = rs t k) ∧ ro u = ro t
theorem Frm.same {A K : List Nat} {t u : xT} (h : Frm A K t u) (hA : inL A pA = true) (hK : inL K pK = true) : Same t u := by
  have := h.up hA hK
  exact ⟨this.1, this.2.1, this.2.2.2⟩
theorem Same.trans {t u v : xT} (h : Same t u) (h2 : Same u v) : Same t v := ⟨fun i hi => (h2.1 i hi).trans (h.1 i hi), fun k hk => (h2.2.1 k hk).trans (h.2.1 k hk), h2.2.2.trans h.2.2⟩
theorem Same.rf {t : xT} : Same t t := ⟨fun _ _ => rfl, fun _ _ => rfl, rfl⟩
theorem Same.a {t u : xT} (h : Same t u) (i : Nat) (hi : pA.contains i = false) : ra u i = ra t i := h.1 i (by
  intro z
  have := List.contains_iff_mem.mpr z
  rw [hi] at this; cases this)
theorem Same.s {t u : xT} (h : Same t u) (i : Nat) (hi : pK.contains i = false) : rs u i = rs t i := h.2.1 i (by
  intro z
  have := List.contains_iff_mem.mpr z
  rw [hi] at this; cases this)
theorem HI.same {q : GmT} {R C n : Nat} {h : HiT} {t u : xT} (H : HI q R C n h t) (h4 : ra u 4 = ra t 4) (h5 : rs u 5 = rs t 5) : HI q R C n h u := H.cong rfl rfl (fun _ _ => rfl) (Nat.le_refl _) h4 h5
theorem ReL.same {c : cT} {t u : xT} (h : ReL c t) (s : Same t u) : ReL c u := by
  obtain ⟨h1, h2, h3, h4, h5⟩ := h
  refine ⟨?_, ?_, ?_, ?_, ?_⟩
  · unfold ITx; rw [s.s 11 rfl, s.a 5 rfl]; exact h1
  · unfold KTx; rw [s.s 6 rfl, s.s 7 rfl, s.s 8 rfl]; exact h2
  · unfold OTx; rw [s.s 33 rfl, s.s 34 rfl, s.a 18 rfl]; exact h3
  · rcases h4 with ⟨a, b, d, e⟩ | ⟨R, C, p, n, a, b, d, e⟩
    · exact Or.inl ⟨a, by rw [s.a 1 rfl]; exact b, d, by rw [s.s 5 rfl]; exact e⟩
    · exact Or.inr ⟨R, C, p, n, a, b, by rw [s.a 1 rfl]; exact d, e.same (s.a 4 rfl) (s.s 5 rfl)⟩
  · unfold STx; rw [s.s 3 rfl, s.a 2 rfl]; exact h5
/-- scratch rows of the class don't matter -/
theorem ReL.scratch {c c' : cT} {t : xT} (h : ReL c t) (hI : tI c' = tI c) (hG : tG c' = tG c) (hS : tS c' = tS c) (hH : tH c' = tH c) (hO : tO c' = tO c) (hK : tK c' = tK c) : ReL c' t := by
  obtain ⟨h1, h2, h3, h4, h5⟩ := h
  refine ⟨?_, ?_, ?_, ?_, ?_⟩
  · unfold ITx; rw [hI]; exact h1
  · unfold KTx; rw [hK]; exact h2
  · unfold OTx; rw [hO]; exact h3
  · unfold GTx; rw [hG, hH]; exact h4
  · unfold STx; rw [hS]; exact h5
/-- a call of both: the answers and exceptions agree, and the states behind -/
def PM (cd : List (String × Int32)) (o : mO) (f : Option (Int32 × xT)) (t : xT) : Prop := ∃ r u, f = some (r, u) ∧ ro u = ro t ∧ ((∃ c', o = .inl (some (.int r), c') ∧ rs u 9 = 0 ∧ ReL c' u) ∨ ∃ X c', o = .inr (X, c') ∧ (X, rs u 9) ∈ cd ∧ ReL c' u)
def PML (cd : List (String × Int32)) (o : mO) (f : Option (Int64 × xT)) (t : xT) : Prop := ∃ r u, f = some (r, u) ∧ ro u = ro t ∧ ((∃ c', o = .inl (some (.long r), c') ∧ rs u 9 = 0 ∧ ReL c' u) ∨ ∃ X c', o = .inr (X, c') ∧ (X, rs u 9) ∈ cd ∧ ReL c' u)
theorem PM.ans {cd : List (String × Int32)} {o : mO} {f : Option (Int32 × xT)} {t u : xT} {r : Int32} {c' : cT} (h1 : f = some (r, u)) (h2 : ro u = ro t) (h3 : o = .inl (some (.int r), c')) (h4 : rs u 9 = 0) (h5 : ReL c' u) : PM cd o f t := ⟨r, u, h1, h2, Or.inl ⟨c', h3, h4, h5⟩⟩
theorem PM.thr {cd : List (String × Int32)} {o : mO} {f : Option (Int32 × xT)} {t u : xT} {r : Int32} {X : String} {c' : cT} (h1 : f = some (r, u)) (h2 : ro u = ro t) (h3 : o = .inr (X, c')) (h4 : (X, rs u 9) ∈ cd) (h5 : ReL c' u) : PM cd o f t := ⟨r, u, h1, h2, Or.inr ⟨X, c', h3, h4, h5⟩⟩
/-- whether there is a room -/
theorem ReL.room {c : cT} {t : xT} (h : ReL c t) : (decide (0 < gR (qG (tG c))) = false ∧ GZ (tG c) ∧ f_hasRoom t = some 0 ∧ f_size t = 0 ∧ ra t 1 4 = 0) ∨ (decide (0 < gR (qG (tG c))) = true ∧ f_hasRoom t = some 1 ∧ ∃ R C p n, GI (tG c) R C p n ∧ n ≤ 400 ∧ RQ (ra t 1) (qG (tG c)) R C (qN (tG c)).1 p n (qR (tG c)) ∧ HI (tG c) R C n (tH c) t) := by
  rcases h.2.2.2.1 with ⟨a, b, _, _⟩ | ⟨R, C, p, n, a, b, d, e⟩
  · refine Or.inl ⟨by rw [a.1]; rfl, a, m_noroom (b 0 (by decide)), ?_, b 4 (by decide)⟩
    unfold f_size
    rw [cl_1, cl_2, b 1 (by decide), b 2 (by decide)]; rfl
  · refine Or.inr ⟨?_, m_room d.1, R, C, p, n, a, b, d, e⟩
    have ok := a.1
    rw [ok.2.1]
    have h3 := ok.1.1
    exact decide_eq_true (nI_lt (a := 0) (by omega) (by omega))
/-! the short ones -/
theorem same9 {t : xT} (v : Int32) : Same t (ws t 9 v) := Frm.same (A := []) (K := [9]) (Frm.ws Frm.rf (List.mem_cons_self) v) (by decide) (by decide)
theorem pm_refused {c : cT} {t : xT} (h : ReL c t) : PM [(xNSEE, 1)] (o_refused c) (f_refused t) t := by
  obtain ⟨k1, k2, k3, k4⟩ := h.2.1
  unfold f_refused o_refused
  rw [k3]
  rcases k4 with k4 | k4
  · rw [k4, if_pos rfl]
    exact PM.thr (u := ws t 9 1) rfl rfl rfl List.mem_cons_self (h.same (same9 _))
  · have n1 : ¬ (tK c).2.2 = -1 := fun z => k4 (by rw [z]; decide)
    have n0 : 0 ≤ (tK c).2.2 := by rw [← Int32.not_lt]; exact k4
    rw [if_neg n1, if_pos n0]
    refine PM.ans (u := ws t 9 0) (r := (tK c).2.2) ?_ rfl rfl rfl (h.same (same9 _))
    show (Option.bind (some (rs (ws t 9 0) 8)) fun r_20 => some (r_20, ws t 9 0)) = _
    rw [rs_ws, if_neg (by decide), k3]; rfl
theorem pm_refusal {c : cT} {t : xT} (h : ReL c t) (b : Bool) : PM [(xNSEE, 1)] (o_refusal c b) (f_refusal t (bI b)) t := by
  obtain ⟨k1, k2, k3, k4⟩ := h.2.1
  unfold f_refusal o_refusal
  rw [k1]
  by_cases z : (tK c).1 = 0
  · rw [if_pos z, if_pos z]
    exact PM.thr (u := ws t 9 1) rfl rfl rfl List.mem_cons_self (h.same (same9 _))
  · rw [if_neg z, if_neg z]
    have s := h.same (same9 (t := t) 0)
    cases b with
    | false =>
      refine PM.ans (u := ws t 9 0) (r := (tK c).1) ?_ rfl rfl rfl s
      show some (rs (ws t 9 0) 6, ws t 9 0) = _
      rw [rs_ws, if_neg (by decide), k1]
    | true =>
      refine PM.ans (u := ws t 9 0) (r := (tK c).2.1) ?_ rfl rfl rfl s
      show some (rs (ws t 9 0) 7, ws t 9 0) = _
      rw [rs_ws, if_neg (by decide), k2]
