/-! areas of players, and the pushes of a way -/
theorem ar_tr {g : gT} {R C : Nat} (ok : GOk g R C) {b : Int64} {x y z : Nat} (hx : x < R * C) (hy : y < R * C) (h1 : (bfR (adjW g R C b) x).2.2 y < 64) : ∀ k, (bfR (adjW g R C b) y).2.2 z = k → k < 64 → (bfR (adjW g R C b) x).2.2 z < 64 := by
  have cx := wk_cert (b := b) ok hx
  have cy := wk_cert (b := b) ok hy
  intro k
  induction k using Nat.strongRecOn generalizing z with
  | ind k ih =>
    intro e hk
    rcases cy.2.1 z (by omega) with w | ⟨p, p1, p2, p3⟩
    · rw [w]; exact h1
    · have := ih _ (by omega) (z := p) rfl p1
      have h2 := cx.2.2.1 p z this p2
      rcases cx.2.2.2 z with w | w
      · exact w
      · omega
theorem ar_same {g : gT} {R C : Nat} (ok : GOk g R C) {b : Int64} {p l : Nat} (hp : tb (pFr g b) p = true) (hl : tb (pAr g b (nI p)) l = true) : pAr g b (nI l) = pAr g b (nI p) := by
  have le := ok.rc.le
  have hl2 := ar_open ok hp hl
  have rc : ∀ x, tb (pFr g b) x = true → x < R * C := fun x h => ok.open_lt (by rw [pf_tb, and_t] at h; exact h.1)
  have pl : (bfR (adjW g R C b) p).2.2 l < 64 := by
    unfold pAr at hl; rw [area_tb ok hp, decide_eq_true_iff] at hl; exact hl
  have lp : (bfR (adjW g R C b) l).2.2 p < 64 := wk_back ok hp (rc l hl2) pl
  refine tb_ext fun x hx => ?_
  unfold pAr
  rw [area_tb ok hp, area_tb ok hl2]
  refine bool_iff ?_
  rw [decide_eq_true_iff, decide_eq_true_iff]
  exact ⟨fun w => ar_tr ok (rc p hp) (rc l hl2) pl _ rfl w, fun w => ar_tr ok (rc l hl2) (rc p hp) lp _ rfl w⟩
theorem ar_low {g : gT} {R C : Nat} (ok : GOk g R C) {b : Int64} {p : Nat} (hp : tb (pFr g b) p = true) (pv : p < R * C) : pAr g b (lowF (pAr g b (nI p))) = pAr g b (nI p) := by
  have le := ok.rc.le
  have nz : ¬ pAr g b (nI p) = 0 := tb_ne0.mpr ⟨p, by omega, by
    unfold pAr
    rw [area_tb ok hp, decide_eq_true_iff, (wk_cert (b := b) ok pv).1]; decide⟩
  obtain ⟨l, _, l2, _, l4, _⟩ := low_ex nz
  rw [l4]
  exact ar_same ok hp l2
theorem pPr_ar {g : gT} {b : Int64} {a a' c d : Int32} (h : pAr g b a = pAr g b a') : pPr g b a c d = pPr g b a' c d := by
  unfold pPr; rw [h]
/-- pushes from a position, each one legal -/
def PW (g : gT) (b : Int64) (p d : Nat) (pu : Nat → Int32) : Prop := ∃ (B : Nat → Int64) (A : Nat → Int32), B 0 = b ∧ pAr g b (A 0) = pAr g b (nI p) ∧ ∀ x, x < d → ∃ c e, pu x = nI (4 * c + e) ∧ e < 4 ∧ tb (B x) c = true ∧ pPr g (B x) (A x) (nI c) (nI e) = 0 ∧ B (x + 1) = lkA g (B x) (nI c) (nI e) ∧ pAr g (B (x + 1)) (A (x + 1)) = pAr g (B (x + 1)) (nI c)
theorem kp_out {f u : Nat → Int32} : ∀ d, d ≤ 1000 → ∀ i p x, d ≤ x → kpL f u d i p x = p x := by
  intro d
  induction d with
  | zero => intro _ i p x _; rfl
  | succ d ih =>
    intro hd i p x hx
    show kpL f u d _ _ x = p x
    rw [ih (by omega) _ _ x (by omega), setI_at (show d < 1000 by omega) (by decide), upd_at, if_neg (by omega)]
theorem dpL_sh (f : Nat → Int32) : ∀ m k i, dpL f m k i = k + dpL f m 0 i := by
  intro m
  induction m with
  | zero => intro k i; rfl
  | succ m ih =>
    intro k i
    show (if i = -1 then k else dpL f m (k + 1) (intAtF 1000 f i)) = k + (if i = -1 then 0 else dpL f m (0 + 1) (intAtF 1000 f i))
    split
    · rfl
    · rw [ih (k + 1), ih (0 + 1)]; omega
theorem dp_le {g : gT} {q : SeT} {n : Nat} (hn : n ≤ 1000) (nv : NV g q n) : ∀ i, i < n → ∀ m, dpL (sF q) m 0 (sF q i) ≤ i := by
  intro i
  induction i using Nat.strongRecOn with
  | ind i ih =>
    intro hi m
    cases m with
    | zero => exact Nat.zero_le _
    | succ m =>
      rcases par_at nv hi with ⟨_, z⟩ | ⟨j, j1, z⟩
      · rw [z]; exact Nat.zero_le _
      · have nj : ¬ nI j = (-1 : Int32) := nI_m1 (by omega)
        rw [z]
        show (if nI j = -1 then 0 else dpL (sF q) m (0 + 1) (intAtF 1000 (sF q) (nI j))) ≤ i
        rw [if_neg nj, intAt_at (show j < 1000 by omega) (by decide), dpL_sh]
        have := ih j j1 (by omega) m
        omega
theorem pa_ok {g : gT} {R C : Nat} (ok : GOk g R C) {q : SeT} {n : Nat} (hn : n ≤ 1000) (nv : NV g q n) : ∀ i, i < n → ∀ d m p, i ≤ m → dpL (sF q) m 0 (sF q i) = d → d ≤ i →
    ∃ P : Nat → Nat, P 0 = 0 ∧ P d = i ∧ ∀ x, x < d → ∃ c e, kpL (sF q) (sU q) d (nI i) p x = nI (4 * c + e) ∧ e < 4 ∧ tb (sB q (P x)) c = true ∧ pPr g (sB q (P x)) (sP q (P x)) (nI c) (nI e) = 0 ∧ sB q (P (x + 1)) = lkA g (sB q (P x)) (nI c) (nI e) ∧ pAr g (sB q (P (x + 1))) (sP q (P (x + 1))) = pAr g (sB q (P (x + 1))) (nI c) := by
  intro i
  induction i using Nat.strongRecOn with
  | ind i ih =>
    intro hi d m p hm hd hdi
    rcases (nv i hi).2.1 with ⟨z0, z⟩ | ⟨j, c, e, j1, z, zu, ed⟩
    · have d0 : d = 0 := by
        rw [← hd, z]
        cases m with
        | zero => rfl
        | succ m => rfl
      subst d0
      exact ⟨fun _ => i, z0, rfl, fun x hx => absurd hx (Nat.not_lt_zero x)⟩
    · obtain ⟨m', rfl⟩ : ∃ m', m = m' + 1 := ⟨m - 1, by omega⟩
      have nj : ¬ nI j = (-1 : Int32) := nI_m1 (by omega)
      have e1 : dpL (sF q) (m' + 1) 0 (nI j) = 1 + dpL (sF q) m' 0 (sF q j) := by
        show (if nI j = -1 then 0 else dpL (sF q) m' (0 + 1) (intAtF 1000 (sF q) (nI j))) = _
        rw [if_neg nj, intAt_at (show j < 1000 by omega) (by decide), dpL_sh]
      obtain ⟨d', hd'⟩ : ∃ d', d = d' + 1 := ⟨d - 1, by rw [z, e1] at hd; omega⟩
      have hdj : dpL (sF q) m' 0 (sF q j) = d' := by rw [z, e1] at hd; omega
      subst hd'
      have dj : d' ≤ j := by
        rw [← hdj]
        exact dp_le hn nv j (by omega) m'
      obtain ⟨P, P0, P1, P2⟩ := ih j j1 (by omega) d' m' (setIntF 1000 p (nI d') (sU q i)) (by omega) hdj dj
      have kp : ∀ x, kpL (sF q) (sU q) (d' + 1) (nI i) p x = kpL (sF q) (sU q) d' (nI j) (setIntF 1000 p (nI d') (sU q i)) x := fun x => by
        show kpL (sF q) (sU q) d' (intAtF 1000 (sF q) (nI i)) (setIntF 1000 p (nI d') (intAtF 1000 (sU q) (nI i))) x = _
        rw [intAt_at (f := sF q) (show i < 1000 by omega) (by decide), intAt_at (f := sU q) (show i < 1000 by omega) (by decide), z]
      refine ⟨fun x => if x ≤ d' then P x else i, ?_, ?_, fun x hx => ?_⟩
      · show (if 0 ≤ d' then P 0 else i) = 0
        rw [if_pos (Nat.zero_le _)]; exact P0
      · show (if d' + 1 ≤ d' then P (d' + 1) else i) = i
        rw [if_neg (by omega)]
      · rw [kp]
        by_cases w : x < d'
        · obtain ⟨c1, e2, y⟩ := P2 x w
          refine ⟨c1, e2, ?_⟩
          show _ ∧ _ ∧ tb (sB q (if x ≤ d' then P x else i)) c1 = true ∧ pPr g (sB q (if x ≤ d' then P x else i)) (sP q (if x ≤ d' then P x else i)) (nI c1) (nI e2) = 0 ∧ sB q (if x + 1 ≤ d' then P (x + 1) else i) = lkA g (sB q (if x ≤ d' then P x else i)) (nI c1) (nI e2) ∧ pAr g (sB q (if x + 1 ≤ d' then P (x + 1) else i)) (sP q (if x + 1 ≤ d' then P (x + 1) else i)) = pAr g (sB q (if x + 1 ≤ d' then P (x + 1) else i)) (nI c1)
          rw [if_pos (show x ≤ d' by omega), if_pos (show x + 1 ≤ d' by omega)]
          exact y
        · have xd : x = d' := by omega
          subst xd
          obtain ⟨ed1, ed2, ed3, ed4, ed5⟩ := ed
          refine ⟨c, e, ?_⟩
          show _ ∧ _ ∧ tb (sB q (if x ≤ x then P x else i)) c = true ∧ pPr g (sB q (if x ≤ x then P x else i)) (sP q (if x ≤ x then P x else i)) (nI c) (nI e) = 0 ∧ sB q (if x + 1 ≤ x then P (x + 1) else i) = lkA g (sB q (if x ≤ x then P x else i)) (nI c) (nI e) ∧ pAr g (sB q (if x + 1 ≤ x then P (x + 1) else i)) (sP q (if x + 1 ≤ x then P (x + 1) else i)) = pAr g (sB q (if x + 1 ≤ x then P (x + 1) else i)) (nI c)
          rw [if_pos (Nat.le_refl x), if_neg (show ¬ x + 1 ≤ x by omega), P1, kp_out x (by omega) _ _ x (Nat.le_refl x), setI_at (show x < 1000 by omega) (by decide), upd_at, if_pos rfl]
          refine ⟨zu, ed1, ed2, ed3, ed4, ?_⟩
          obtain ⟨⟨lj, lj1, lj2⟩, _⟩ := nv j (by omega)
          rw [lj1] at ed3
          have co := lj2.1 c ed2
          have cl := ok.open_lt co
          obtain ⟨o5, o6⟩ := pBr_0 ok cl ed1 (pPr_0 ok lj2.2.1 cl ed1 ed3).2.2.1
          have pvc := lkA_pv ok lj2 ed2 ed1 o5 o6
          rw [← ed4] at pvc
          rw [ed5]
          exact ar_low ok pvc.2.1 cl
