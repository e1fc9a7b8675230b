/-! the player walks behind a box -/
theorem Wk.rev2 {A B : Nat → Nat → Prop} {P : Nat → Prop} (h : ∀ p c, A p c → P c) (h2 : ∀ p c, P p → P c → A p c → B c p) : ∀ {k a c : Nat}, P a → Wk A k a c → Wk B k c a := by
  intro k
  induction k with
  | zero => intro a c _ q; exact Eq.symm q
  | succ k ih =>
    rintro a c ha ⟨r, q, b⟩
    have hr : P r := by
      cases k with
      | zero => cases (show a = r from q); exact ha
      | succ k => obtain ⟨s, _, w⟩ := q; exact h s r w
    exact Wk.front.mpr ⟨r, h2 r c hr (h r c b) b, ih ha q⟩
/-- over a set of cells there is a way back -/
theorem as_back {g : gT} {R C : Nat} (ok : GOk g R C) {over : Int64} {p x : Nat} (hp : tb over p = true) (hpo : tb (gO g) p = true) (hx : x < R * C) (h : (bfR (adjS g R C over) p).2.2 x < 64) : (bfR (adjS g R C over) x).2.2 p < 64 := by
  have c1 := sS_cert ok over (ok.open_lt hpo)
  have c2 := sS_cert ok over hx
  have l1 := (c1.lv (Nat.le_refl 64) (c := x)).mpr (by unfold dS; omega)
  obtain ⟨j, hj, w⟩ := Lv.wk.mp l1
  have w2 := Wk.rev2 (B := AS g R C over) (P := fun y => tb over y = true ∧ tb (gO g) y = true) (fun _ c q => ⟨q.1, q.2.1⟩) (fun a c ha hc q => by
    obtain ⟨_, _, d, hd, e⟩ := q
    exact ⟨ha.1, ha.2, opd d, opd_lt d, (nb_iff ok.rc (ok.open_lt hc.2) (ok.open_lt ha.2) hd).mp e⟩) ⟨hp, hpo⟩ w
  have := (c2.lv (Nat.le_refl 64)).mp (Lv.wk.mpr ⟨j, hj, w2⟩)
  have o := c2.2.2.2 p
  unfold dS at this o
  omega
theorem wk_one {g : gT} {R C : Nat} (ok : GOk g R C) (b : Int64) {a : Nat} (ha : a < R * C) (c : Nat) : (bfR (adjW g R C b) a).2.2 c = (bfR (adjS g R C (pFr g b)) a).2.2 c := Cert.one (wk_cert ok ha) (sS_cert ok (pFr g b) ha) c
theorem wk_back {g : gT} {R C : Nat} (ok : GOk g R C) {b : Int64} {p x : Nat} (hp : tb (pFr g b) p = true) (hx : x < R * C) (h : (bfR (adjW g R C b) p).2.2 x < 64) : (bfR (adjW g R C b) x).2.2 p < 64 := by
  have hpo : tb (gO g) p = true := by rw [pf_tb, and_t] at hp; exact hp.1
  rw [wk_one ok b (ok.open_lt hpo)] at h
  rw [wk_one ok b hx]
  exact as_back ok hp hpo hx h
theorem fiN_ok {f : Nat → Int64} {z : Nat} {s : Nat → Nat} {c : Nat} (hc : c < 64) (hz : z ≤ 64) (hL : ∀ i, i < 64 → tb (yAt f (nI z) (nI i)) c = decide (s c = i)) (hs : s c < z) : ∀ n k, k + n = z → k ≤ s c → fiN f (nI z) (nI c) n k = s c := by
  intro n
  induction n with
  | zero => intro k h1 h2; omega
  | succ n ih =>
    intro k h1 h2
    unfold fiN
    rw [has_tb _ hc, hL k (by omega)]
    by_cases w : s c = k
    · rw [decide_eq_true w, if_pos rfl]; exact w.symm
    · rw [decide_eq_false w, if_neg (by decide)]
      exact ih (k + 1) (by omega) (by omega)
theorem diF_ok {g : gT} {R C : Nat} (ok : GOk g R C) {p : Nat} (hp : p < R * C) {L : Int64} : ∀ n k, k + n = 4 → (∃ d, k ≤ d ∧ d < 4 ∧ diF g (nI p) L n k = nI d ∧ (tb (gO g) (nb R C p d) = true ∧ tb L (nb R C p d) = true) ∧ ∀ e, k ≤ e → e < d → ¬ (tb (gO g) (nb R C p e) = true ∧ tb L (nb R C p e) = true)) ∨ (∀ e, k ≤ e → e < 4 → ¬ (tb (gO g) (nb R C p e) = true ∧ tb L (nb R C p e) = true)) := by
  intro n
  induction n with
  | zero => intro k hk; exact Or.inr fun e h1 h2 => by omega
  | succ n ih =>
    intro k hk
    unfold diF
    rw [mv_bit ok hp (show k < 4 by omega)]
    by_cases w : tb (gO g) (nb R C p k) = true ∧ tb L (nb R C p k) = true
    · refine Or.inl ⟨k, Nat.le_refl _, by omega, ?_, w, fun e h1 h2 => by omega⟩
      rw [if_pos w.1, if_neg]
      intro z
      have := (bit_and (tb_lt w.1) L).mp z
      rw [w.2] at this; cases this
    · have e0 : (if tb (gO g) (nb R C p k) = true then jshl 1 (nI (nb R C p k)) else 0) &&& L = 0 := by
        by_cases v : tb (gO g) (nb R C p k) = true
        · rw [if_pos v]
          refine (bit_and (tb_lt v) L).mpr ?_
          cases e : tb L (nb R C p k) with
          | false => rfl
          | true => exact absurd ⟨v, e⟩ w
        · rw [if_neg v]; exact tb_eq0.mpr fun y _ => by rw [tb_and, tb_0]; rfl
      rw [if_pos e0]
      rcases ih (k + 1) (by omega) with ⟨d, h1, h2, h3, h4, h5⟩ | h
      · refine Or.inl ⟨d, by omega, h2, h3, h4, fun e a1 a2 => ?_⟩
        by_cases y : e = k
        · rw [y]; exact w
        · exact h5 e (by omega) a2
      · refine Or.inr fun e a1 a2 => ?_
        by_cases y : e = k
        · rw [y]; exact w
        · exact h e (by omega) a2
theorem m_nearer {t : xT} {g : gT} {R C : Nat} (ok : GOk g R C) (hM : GR (ra t 1) g R C) {p d k : Nat} (h3 : ra t 1 3 = nI p) (hp : p < R * C) (hd : d < 4) {s : Nat → Nat} (hs : ∀ c, s c < 64 ∨ s c = 99) (ho : ∀ c, s c < 64 → tb (gO g) c = true) (h7 : ∀ c, c < R * C → ra t 7 c = sz (s c)) (hk : s p = k + 1) (ks : k + 1 < 64) : f_isNearer t (nI d) = some (bI (decide (tb (gO g) (nb R C p d) = true ∧ s (nb R C p d) = k))) := by
  have hle := ok.rc.le
  unfold f_isNearer
  rw [cl_3, h3, m_bes ok.rc hM hp hd, Option.bind_some]
  have l := nb_le ok.rc hp hd
  have lt := fun z => nb_lt ok.rc hp hd z
  generalize nb R C p d = e at l lt
  rcases Nat.eq_or_lt_of_le l with z | z
  · subst z
    rw [if_pos (show bz 64 < 0 by decide), decide_eq_false (by rw [tb_big (Nat.le_refl 64)]; rintro ⟨z, _⟩; cases z)]; rfl
  · have er := lt (by omega)
    have cp : (nI p).toNatClampNeg = p := nI_clamp (by omega)
    have ce : (nI e).toNatClampNeg = e := nI_clamp (by omega)
    have l0 := sz_lt0 (hs e)
    rw [bz_nI z, if_neg (nI_pos (by omega)), if_pos (inB_nI z (by decide)), ce, h7 e er]
    rcases hs e with w | w
    · have oe := ho e w
      rw [if_neg (fun q => by have := l0.mp q; omega), if_pos (inB_nI z (by decide)), if_pos (inB_nI (show p < 64 by omega) (by decide)), cp, h7 p hp, hk, sz_nI ks, nI_pred, sz_nI w]
      by_cases v : s e = k
      · rw [if_pos (by rw [v]), decide_eq_true ⟨oe, v⟩]; rfl
      · rw [if_neg (nI_ne (by omega) (by omega) v), decide_eq_false (fun q => v q.2)]; rfl
    · rw [if_pos (l0.mpr (by omega)), decide_eq_false (fun q => by have := q.2; omega)]; rfl
/-- the walk, class and model -/
theorem wl_ok {N : Nat} (hN : 10000 ≤ N) {R C x : Nat} {s : Nat → Nat} {b0 : Int64} (dd : Int32) : ∀ (k : Nat) (q : GmT) (p n m : Nat) (t : xT), GI q R C p n → RQ (ra t 1) (qG q) R C (qN q).1 p n (qR q) → (qN q).1 = b0 → Cert (AS (qG q) R C (pFr (qG q) b0)) x s → tb (pFr (qG q) b0) x = true → (∀ i c, i < 64 → tb (yAt (qL q).1 (qL q).2 (nI i)) c = decide (s c = i)) → (∀ c, c < R * C → ra t 7 c = sz (s c)) → s p = k → k < 64 → n + k < 2 ^ 30 → ∃ u q' m', q' = wkQ k q ∧ m ≤ m' ∧ f_walksAndPushes_L N (m + 1 + 6 * k) 13 dd 0 t = f_walksAndPushes_L N (m' + 1) 13 dd 0 u ∧ Frm [1] [] t u ∧ GI q' R C x (n + k) ∧ RQ (ra u 1) (qG q') R C (qN q').1 x (n + k) (qR q') ∧ qG q' = qG q ∧ (qN q').1 = b0 ∧ qS q' = qS q ∧ (∀ i, i < n → qR q' i = qR q i) := by
  intro k
  induction k with
  | zero =>
    intro q p n m t hG hq hb hc hx hL h7 hs hk hn
    have px : p = x := (hc.lv (Nat.zero_le _) (k := 0)).mpr (by omega)
    subst px
    exact ⟨t, q, m, rfl, Nat.le_refl _, rfl, Frm.rf, hG, hq, rfl, hb, rfl, fun _ _ => rfl⟩
  | succ k ih =>
    intro q p n m t hG hq hb hc hx hL h7 hs hk hn
    have ok := hG.1
    have hle := ok.rc.le
    have hp := hG.2.2.2.2.1.rc ok
    have a2 := hG.2.1
    have so : ∀ c, s c < 64 → tb (pFr (qG q) b0) c = true := fun c h => by
      rcases hc.2.1 c h with z | ⟨_, _, z, _⟩
      · rw [z]; exact hx
      · exact z.1
    have soo : ∀ c, s c < 64 → tb (gO (qG q)) c = true := fun c h => by have := so c h; rw [pf_tb, and_t] at this; exact this.1
    have sob : ∀ c, s c < 64 → tb b0 c = false := fun c h => by have := so c h; rw [pf_tb, and_t] at this; simpa using this.2
    -- the direction
    have parent : ∃ d, d < 4 ∧ tb (gO (qG q)) (nb R C p d) = true ∧ s (nb R C p d) = k := by
      rcases hc.2.1 p (by omega) with z | ⟨r, h1, ⟨_, _, d, hd, z⟩, h2⟩
      · rw [z, hc.1] at hs; omega
      · exact ⟨d, hd, by rw [z]; exact soo r h1, by rw [z]; omega⟩
    have hLk := fun c => hL k c (by omega)
    have di := diF_ok ok hp (L := yAt (qL q).1 (qL q).2 (nI k)) 4 0 (by omega)
    rcases di with ⟨d, _, hd, e1, ⟨e2, e3⟩, e4⟩ | di
    · rw [hLk, decide_eq_true_iff] at e3
      have nb0 := sob (nb R C p d) (by omega)
      have hr : pSr (qG q) (qN q).1 (nI p) (nI d) = 0 := by
        rw [pSr_eq ok (qN q).1 hp hd, hb, e2, nb0]; rfl
      obtain ⟨g1, g2, _⟩ := hG.step hd hr (by omega)
      obtain ⟨u1, f1, f2, f3⟩ := m_goes hG hq hd hr (by omega)
      have mkb : (qN (mkQ q (nI d))).1 = b0 := by
        refine tb_ext fun y _ => ?_
        show tb (pMb (qG q) (qN q).1 (qN q).2 (nI d)) y = _
        rw [a2, pMb_eq ok hp hd hr, hb, nb0]; rfl
      have wk : wkQ (k + 1) q = wkQ k (mkQ q (nI d)) := by
        show wkQ k (mkQ q (diF (qG q) (qN q).2 (yAt (qL q).1 (qL q).2 (nI k)) 4 0)) = _
        rw [a2, e1]
      obtain ⟨u2, q2, m2, h1, hm, h2, h3, h4, h5, h6, h8, h9, h10⟩ := ih (mkQ q (nI d)) (nb R C p d) (n + 1) (m + 4 - d) u1 g1 f3 mkb hc hx hL (fun c hcl => by rw [f2.a 7 rfl]; exact h7 c hcl) e3 (by omega) (by omega)
      refine ⟨u2, q2, m2, by rw [wk]; exact h1, by omega, ?_, f2.trans h3, by rw [show n + (k + 1) = n + 1 + k by omega]; exact h4, by rw [show n + (k + 1) = n + 1 + k by omega]; exact h5, h6, h8, h9, fun i hi => by rw [h10 i (by omega), g2 i hi]⟩
      -- the model's steps
      have ps : s p < 64 := by omega
      have bp := inB_nI (show p < 64 by omega) (show 64 < 2 ^ 31 by decide)
      have cp : (nI p).toNatClampNeg = p := nI_clamp (by omega)
      have near := fun e (he : e < 4) => m_nearer ok hq.1 (d := e) hq.2.2.1 hp he hc.2.2.2 soo h7 hs hk
      have inner : ∀ (j e r : Nat), e + j = d → f_walksAndPushes_L N (r + 1 + j) 29 dd (nI e) t = f_walksAndPushes_L N r 13 dd 0 u1 := by
        intro j
        induction j with
        | zero =>
          intro e r he
          have : e = d := by omega
          subst this
          rw [Nat.add_zero, u_walksAndPushes_29, near e hd, Option.bind_some, decide_eq_true ⟨e2, e3⟩, if_neg (by decide), f1, Option.bind_some]
        | succ j ihj =>
          intro e r he
          have no : ¬ (tb (gO (qG q)) (nb R C p e) = true ∧ s (nb R C p e) = k) := fun z => e4 e (Nat.zero_le _) (by omega) ⟨z.1, by rw [hLk, decide_eq_true z.2]⟩
          rw [show r + 1 + (j + 1) = r + 1 + j + 1 by omega, u_walksAndPushes_29, near e (by omega), Option.bind_some, decide_eq_false no, if_pos (show bI false = 0 from rfl), nI_1]
          exact ihj (e + 1) r (by omega)
      have := inner d 0 (m + 1 + 6 * k + 4 - d) (by omega)
      rw [nI_0] at this
      rw [show m + 1 + 6 * (k + 1) = (m + 1 + 6 * k + 4 - d + 1 + d) + 1 by omega, u_walksAndPushes_13, cl_3, hq.2.2.1, bp, if_pos rfl, cp, h7 p hp, hs, sz_nI hk, if_neg (nI_nle (by omega) (by omega)), this]
      rw [show m + 1 + 6 * k + 4 - d = (m + 4 - d) + 1 + 6 * k by omega, h2]
    · obtain ⟨d, hd, h1, h2⟩ := parent
      exact absurd ⟨h1, by rw [hLk, decide_eq_true h2]⟩ (di d (Nat.zero_le _) hd)
