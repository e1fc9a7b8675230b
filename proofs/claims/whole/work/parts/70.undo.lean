/-! cell, recorded, isReplayed, solution, undo, snapshots -/
theorem in_n {k n : Nat} (h : k < n) (hn : n < 2 ^ 31) : f_in (nI k) 0 (nI n - 1) = some 1 := by
  rw [show nI n - 1 = nI (n - 1) from pk_sub (b := 1) (by omega)]
  exact in_t (nI_pos' (by omega)) (nI_le (by omega) (by omega))
theorem in_no {a : Int32} {n : Nat} (h : ∀ k, k < n → ¬ a = nI k) (hn : n < 2 ^ 31) : f_in a 0 (nI n - 1) = some 0 := by
  refine in_f ?_
  by_cases z : a < 0
  · exact Or.inl z
  · refine Or.inr ?_
    obtain ⟨k, hk, e⟩ := nI_of z
    rcases Nat.eq_zero_or_pos n with w | w
    · subst w
      rw [e]
      exact Int32.lt_of_lt_of_le (by decide) (nI_pos' hk)
    · rw [show nI n - 1 = nI (n - 1) from pk_sub (b := 1) (by omega), e]
      refine nI_lt ?_ hk
      have hkn : ¬ k < n := fun q => h k q e
      omega
theorem pm_cell {c : cT} {t : xT} (h : ReL c t) (i j : Int32) : PM [(xISE, 1), (xIOOBE, 2)] (o_cell c i j) (f_cell t i j) t := by
  unfold o_cell f_cell
  rcases h.room with ⟨r1, _, r2, _⟩ | ⟨r1, r2, R, C, p, n, hG, hn, hQ, hH⟩
  · rw [r1, r2]
    exact PM.thr (u := ws t 9 1) rfl rfl rfl mem0 (h.same (same9 _))
  · rw [r1, if_pos rfl, r2, Option.bind_some, if_neg n10, cl_1, cl_2, hQ.1.2.1, hQ.1.2.2.1]
    have ok := hG.1
    have rc := ok.1
    have hle := rc.le
    have hc8 := rc.2.2
    have hr8 := rc.1.2
    by_cases hi : ∃ x, x < R ∧ i = nI x
    · obtain ⟨x, hx, rfl⟩ := hi
      rw [in_n hx (by omega), Option.bind_some, if_neg n10]
      by_cases hj : ∃ y, y < C ∧ j = nI y
      · obtain ⟨y, hy, rfl⟩ := hj
        have hgp : gHp (qG (tG c)) (nI x) (nI y) = true := by
          unfold gHp
          rw [if_neg (nI_pos (by omega)), ok.2.1, if_neg (nI_ge hx (by omega)), if_neg (nI_pos (by omega)), ok.2.2.1, if_neg (nI_ge hy (by omega))]
        rw [hgp, if_pos rfl, in_n hy (by omega), Option.bind_some, if_neg n10, Option.bind_some, Option.bind_some, rs_ws, if_pos rfl, if_pos le00]
        have hk : x * C + y < R * C := by
          have : (x + 1) * C ≤ R * C := Nat.mul_le_mul_right C hx
          rw [Nat.add_mul, Nat.one_mul] at this
          omega
        have ek : nI x * nI C + nI y = nI (x * C + y) := by rw [pk_mul, nI_add]
        have hM0 : GR (ra (ws t 9 0) 1) (qG (tG c)) R C := hQ.1
        have hB0 : GB (ra (ws t 9 0) 1) (qN (tG c)).1 := hQ.2.1
        have e2 : ra (ws t 9 0) 1 2 = nI C := hQ.1.2.2.1
        have e3 : ra (ws t 9 0) 1 3 = nI p := hQ.2.2.1
        rw [ok.2.2.1, cl_3, e2, e3, ek]
        have k64 : x * C + y < 64 := by omega
        generalize x * C + y = k at hk k64
        rw [m_openI hM0 k64, m_boxI hB0 k64, m_goal ok hM0 k64]
        have s9 := h.same (same9 (t := t) 0)
        have pe : (nI k = nI p) ↔ k = p := nI_eq (by omega) (by have := (hG.2.2.2.2.1.rc ok); omega)
        have ans : ∀ v : Int32, sgnF (tG c) (nI k) = v → PM [(xISE, 1), (xIOOBE, 2)] (.inl (some (.int (sgnF (tG c) (nI k))), c)) (some (v, ws t 9 0)) t := fun v e => PM.ans rfl rfl (by rw [e]) rfl s9
        unfold sgnF at ans ⊢
        rw [has_tb _ k64, has_tb _ k64, has_tb _ k64, hG.2.1] at ans ⊢
        generalize tb (gO (qG (tG c))) k = bo at ans ⊢
        generalize tb (qN (tG c)).1 k = bb at ans ⊢
        generalize tb (gG (qG (tG c))) k = bg at ans ⊢
        simp only [Option.bind_some, bI_ne0]
        by_cases z : k = p
        · have z' : nI k = nI p := by rw [z]
          simp only [z', if_true] at ans ⊢
          cases bo
          · exact ans 35 rfl
          cases bb
          · cases bg
            · exact ans 64 rfl
            · exact ans 43 rfl
          · cases bg
            · exact ans 36 rfl
            · exact ans 42 rfl
        · have z' : ¬ nI k = nI p := fun w => z (pe.mp w)
          simp only [z', if_false] at ans ⊢
          cases bo
          · exact ans 35 rfl
          cases bb
          · cases bg
            · exact ans 45 rfl
            · exact ans 46 rfl
          · cases bg
            · exact ans 36 rfl
            · exact ans 42 rfl
      · have hgp : gHp (qG (tG c)) (nI x) j = false := by
          unfold gHp
          rw [if_neg (nI_pos (by omega)), ok.2.1, if_neg (nI_ge hx (by omega)), ok.2.2.1]
          by_cases z : j < 0
          · rw [if_pos z]
          · rw [if_neg z]
            obtain ⟨y, hy, e⟩ := nI_of z
            rw [e, if_pos (nI_le (by
              have hyn : ¬ y < C := fun q => hj ⟨y, q, e⟩
              omega) hy)]
        rw [hgp, in_no (fun k hk e => hj ⟨k, hk, e⟩) (by omega)]
        exact PM.thr (u := ws t 9 2) rfl rfl rfl mem1 (h.same (same9 _))
    · have hgp : gHp (qG (tG c)) i j = false := by
        unfold gHp
        rw [ok.2.1]
        by_cases z : i < 0
        · rw [if_pos z]
        · rw [if_neg z]
          obtain ⟨y, hy, e⟩ := nI_of z
          rw [e, if_pos (nI_le (by
            have hyn : ¬ y < R := fun q => hi ⟨y, q, e⟩
            omega) hy)]
      rw [hgp, in_no (fun k hk e => hi ⟨k, hk, e⟩) (by omega)]
      exact PM.thr (u := ws t 9 2) rfl rfl rfl mem1 (h.same (same9 _))
theorem ltr_t : ∀ k, k < 8 → (ltrF (nI k) = (if k % 4 = 0 then (if k < 4 then 117 else 85) else if k % 4 = 1 then (if k < 4 then 114 else 82) else if k % 4 = 2 then (if k < 4 then 100 else 68) else (if k < 4 then 108 else 76))) ∧ (Option.bind (if nI k < 4 then (some (0 : Int32)) else (some (1 : Int32))) fun (r_59 : Int32) =>
    Option.bind (if (nI k - nI k / 4 * 4) = 0 then (some (117 : Int32))
      else (if (nI k - nI k / 4 * 4) = 1 then (some (114 : Int32))
        else (if (nI k - nI k / 4 * 4) = 2 then (some (100 : Int32))
          else (some (108 : Int32))))) fun (r_69 : Int32) =>
    Option.bind (if (nI k - nI k / 4 * 4) = 0 then (some (85 : Int32))
      else (if (nI k - nI k / 4 * 4) = 1 then (some (82 : Int32))
        else (if (nI k - nI k / 4 * 4) = 2 then (some (68 : Int32))
          else (some (76 : Int32))))) fun (r_102 : Int32) =>
    Option.bind (if r_59 = 0 then (some r_69)
      else (some r_102)) fun (r_135 : Int32) =>
    if inB r_135 65536 = true then (some r_135) else none) = some (ltrF (nI k)) := by decide +kernel
theorem bind_pair {α β : Type} (x : Option α) (f : α → Option β) (u : xT) {o : Option (β × xT)} {g : α → Option (β × xT)} (h : ∀ a, g a = Option.bind (f a) fun b => some (b, u)) : Option.bind x g = Option.bind (Option.bind x f) fun b => some (b, u) := by
  cases x with
  | none => rfl
  | some a => exact h a
theorem pm_recorded {c : cT} {t : xT} (h : ReL c t) (a : Int32) : PM [(xIOOBE, 1)] (o_recorded c a) (f_recorded t a) t := by
  unfold o_recorded f_recorded
  have hn : ∃ n, n ≤ 400 ∧ qC (tG c) = nI n ∧ ra t 1 4 = nI n ∧ ∀ i, i < n → ra t 1 (202 + i) = qR (tG c) i ∧ ∃ k, k < 8 ∧ qR (tG c) i = nI k := by
    rcases h.room with ⟨_, gz, _, _, r4⟩ | ⟨r1, r2, R, C, p, n, hG, hn, hQ, hH⟩
    · exact ⟨0, by omega, gz.2.2.2.2.2, r4, fun i hi => by omega⟩
    · exact ⟨n, hn, hG.2.2.1, hQ.2.2.2.1, fun i hi => ⟨hQ.2.2.2.2 i hi (by omega), hG.2.2.2.2.2.1 i hi (by omega)⟩⟩
  obtain ⟨n, n4, e1, e2, e3⟩ := hn
  rw [e1, cl_4, e2]
  by_cases ha : ∃ k, k < n ∧ a = nI k
  · obtain ⟨k, hk, rfl⟩ := ha
    have tt : (202 : Int32) + nI k = nI (202 + k) := nI_add 202 k
    obtain ⟨e4, x, x8, e5⟩ := e3 k hk
    rw [in_n hk (by omega), Option.bind_some, if_neg n10, Option.bind_some, Option.bind_some, rs_ws, if_pos rfl, if_pos le00, if_neg (nI_pos (by omega)), if_pos (nI_lt hk (by omega)), tt, if_pos (inB_nI (by omega) (by decide)), if_pos (inB_nI (by omega) (by decide)), nI_clamp (by omega), show ra (ws t 9 0) 1 (202 + k) = nI x from e4.trans e5, intAt_at (show k < 400 by omega) (by decide), e5]
    obtain ⟨_, l2⟩ := ltr_t x x8
    refine PM.ans (c' := c) (u := ws t 9 0) (r := ltrF (nI x)) ?_ rfl rfl rfl (h.same (same9 _))
    have : some (ltrF (nI x), ws t 9 0) = Option.bind (some (ltrF (nI x))) fun b => some (b, ws t 9 0) := rfl
    rw [this, ← l2]
    have cs : nI x < 4 ∨ ¬ nI x < 4 := Classical.em _
    generalize nI x - nI x / 4 * 4 = y
    split <;> (split <;> first | rfl | (split <;> first | rfl | (split <;> rfl)))
  · have out : a < 0 ∨ ¬ a < nI n := by
      by_cases z : a < 0
      · exact Or.inl z
      · refine Or.inr fun w => ?_
        obtain ⟨k, hk, e⟩ := nI_range z w (by omega)
        exact ha ⟨k, hk, e⟩
    rw [in_no (fun k hk e => ha ⟨k, hk, e⟩) (by omega)]
    have o : (if a < 0 then (.inr (xIOOBE, c)) else if a < nI n then (.inl (some (.int (ltrF (intAtF 400 (qR (tG c)) a))), c)) else .inr (xIOOBE, c) : mO) = .inr (xIOOBE, c) := by
      rcases out with z | z
      · rw [if_pos z]
      · rw [if_neg z]; split <;> rfl
    rw [o]
    exact PM.thr (u := ws t 9 1) rfl rfl rfl mem0 (h.same (same9 _))
/-- the record made once more ends where the room is -/
theorem co_ok {q : GmT} {n : Nat} (hr : ∀ i, i < n → i < 400 → ∃ k, k < 8 ∧ qR q i = nI k) (n4 : n ≤ 400) (e : rp (qG q) (qR q) (qS q) n = some (qN q)) : ∀ (m k : Nat) (x : Int64 × Int32), k + m = n → rp (qG q) (qR q) (qS q) k = some x → (coL m k (qG q, qN q, qS q, x, qL q, qR q, qC q)).1 = true ∧ ∃ y, (coL m k (qG q, qN q, qS q, x, qL q, qR q, qC q)).2 = (qG q, qN q, qS q, y, qL q, qR q, qC q) := by
  intro m
  induction m with
  | zero =>
    intro k x hk hx
    have : k = n := by omega
    subst this
    rw [e] at hx
    have hx : qN q = x := Option.some.inj hx
    subst hx
    refine ⟨?_, qN q, rfl⟩
    show (decide ((qN q).1 = (qN q).1) && decide ((qN q).2 = (qN q).2)) = true
    rw [decide_eq_true rfl, decide_eq_true rfl]; rfl
  | succ m ih =>
    intro k x hk hx
    have mono : ∀ j, rp (qG q) (qR q) (qS q) (n - j) = none → rp (qG q) (qR q) (qS q) n = none := by
      intro j
      induction j with
      | zero => intro z; exact z
      | succ j ihj =>
        intro z
        rcases Nat.lt_or_ge j n with w | w
        · refine ihj ?_
          rw [show n - j = n - (j + 1) + 1 by omega]
          unfold rp
          rw [z]; rfl
        · rw [show n - (j + 1) = n - j by omega] at z; exact ihj z
    have step : ∃ y, rp (qG q) (qR q) (qS q) (k + 1) = some y := by
      cases z : rp (qG q) (qR q) (qS q) (k + 1) with
      | some y => exact ⟨y, rfl⟩
      | none =>
        have := mono (n - (k + 1)) (by rw [show n - (n - (k + 1)) = k + 1 by omega]; exact z)
        rw [e] at this; cases this
    obtain ⟨y, hy⟩ := step
    have hy' := hy
    unfold rp at hy'
    rw [hx, Option.bind_some] at hy'
    have g0 : intAtF 400 (qR q) (nI k) = qR q k := intAt_at (by omega) (by decide)
    show (coL (m + 1) k _).1 = true ∧ _
    unfold coL
    show (if pLr (qG q) x.1 x.2 (intAtF 400 (qR q) (nI k) &&& 3) (decide (4 ≤ intAtF 400 (qR q) (nI k))) = 0 then coL m (k + 1) (qG q, qN q, qS q, (pMb (qG q) x.1 x.2 (intAtF 400 (qR q) (nI k) &&& 3), lowF (pAh (qG q) x.2 (intAtF 400 (qR q) (nI k) &&& 3))), qL q, qR q, qC q) else (false, _)).1 = true ∧ ∃ z, (if pLr (qG q) x.1 x.2 (intAtF 400 (qR q) (nI k) &&& 3) (decide (4 ≤ intAtF 400 (qR q) (nI k))) = 0 then coL m (k + 1) (qG q, qN q, qS q, (pMb (qG q) x.1 x.2 (intAtF 400 (qR q) (nI k) &&& 3), lowF (pAh (qG q) x.2 (intAtF 400 (qR q) (nI k) &&& 3))), qL q, qR q, qC q) else (false, _)).2 = (qG q, qN q, qS q, z, qL q, qR q, qC q)
    rw [g0]
    by_cases w : pLr (qG q) x.1 x.2 (qR q k &&& 3) (decide (4 ≤ qR q k)) = 0
    · rw [if_pos w] at hy' ⊢
      have : (pMb (qG q) x.1 x.2 (qR q k &&& 3), lowF (pAh (qG q) x.2 (qR q k &&& 3))) = y := Option.some.inj hy'
      rw [this]
      exact ih (k + 1) y (by omega) hy
    · rw [if_neg w] at hy'; cases hy'
