/-! playing a text of steps -/
theorem m_rfl {t : xT} {g : gT} {R C : Nat} {b : Int64} (ok : GOk g R C) (hM : GR (ra t 1) g R C) (hB : GB (ra t 1) b) {p d : Nat} (h3 : ra t 1 3 = nI p) (hp : p < R * C) (hd : d < 4) {a : Int32} (ha : f_directionOf a = nI d) : ∃ u, f_reasonForLetter t a = some (pLr g b (nI p) (nI d) (decide (a < 97)), u) ∧ Frm [] [26] t u ∧ (¬ pLr g b (nI p) (nI d) (decide (a < 97)) = 0 → rs u 26 = pSd g (nI p) (pLr g b (nI p) (nI d) (decide (a < 97))) (nI d)) := by
  unfold f_reasonForLetter
  obtain ⟨v, e1, e2⟩ := m_rfs ok hM hB h3 hp hd
  rw [ha, e1, Option.bind_some]
  unfold pLr
  by_cases hr : pSr g b (nI p) (nI d) = 0
  · have o1 := (pSr_0 ok hp hd hr).1
    have hM1 : GR (ra (ws (ws t 26 v) 26 (nI p)) 1) g R C := hM
    have hB1 : GB (ra (ws (ws t 26 v) 26 (nI p)) 1) b := hB
    have e3 : ra (ws t 26 v) 1 3 = nI p := h3
    have e4 : ra (ws (ws t 26 v) 26 (nI p)) 1 3 = nI p := h3
    have ba := bit_and (tb_lt o1) b
    have fr : Frm [] [26] t (ws (ws t 26 v) 26 (nI p)) := Frm.ws (Frm.ws Frm.rf (by decide) v) (by decide) _
    have sd : ∀ r : Int32, ¬ r = 2 → ¬ r = 3 → rs (ws (ws t 26 v) 26 (nI p)) 26 = pSd g (nI p) r (nI d) := fun r h2 h3 => by unfold pSd; rw [if_neg h2, if_neg h3]; rfl
    rw [if_pos hr, hr, if_pos le00, Option.bind_some, cl_3, e3, e4, m_bes ok.rc hM1 hp hd, Option.bind_some, m_box hB1 (nb_le ok.rc hp hd), Option.bind_some, pAh_eq ok hp hd o1]
    cases hb : tb b (nb R C p d) with
    | false =>
      rw [if_pos (ba.mpr hb), if_pos (show bI false = 0 from rfl), if_pos (show bI false = 0 from rfl)]
      by_cases z : a < 97
      · rw [if_pos z, decide_eq_true z]
        exact ⟨_, rfl, fr, fun _ => sd 6 (by decide) (by decide)⟩
      · rw [if_neg z, decide_eq_false z]
        exact ⟨_, rfl, fr, fun y => absurd rfl y⟩
    | true =>
      have nn : ¬ (jshl 1 (nI (nb R C p d)) &&& b = 0) := fun y => by rw [ba.mp y] at hb; cases hb
      rw [if_neg nn]
      by_cases z : a < 97
      · rw [if_pos z, decide_eq_true z]
        exact ⟨_, rfl, fr, fun y => absurd rfl y⟩
      · rw [if_neg z, decide_eq_false z]
        exact ⟨_, rfl, fr, fun _ => sd 5 (by decide) (by decide)⟩
  · rw [if_neg hr, if_neg ((pSr_or g b (nI p) (nI d)).resolve_left hr)]
    exact ⟨_, rfl, Frm.ws Frm.rf (by decide) v, fun _ => e2 hr⟩
theorem pLr_or (g : gT) (b : Int64) (a d : Int32) (u : Bool) : pLr g b a d u = 0 ∨ ¬ pLr g b a d u ≤ 0 := by
  unfold pLr
  repeat' split
  all_goals first | exact Or.inl rfl | exact Or.inr (by decide) | exact pSr_or _ _ _ _
theorem pLr_0 {g : gT} {b : Int64} {a d : Int32} {u : Bool} (h : pLr g b a d u = 0) : pSr g b a d = 0 := by
  unfold pLr at h
  by_cases z : pSr g b a d = 0
  · exact z
  · rw [if_neg z] at h; exact h
theorem CW.frm {c : cT} {t t1 u : xT} {q : GmT} {R C p0 n0 p1 n1 : Nat} (w : CW c t t1 q R C p0 n0 p1 n1) (f : Frm [] [26] t1 u) : CW c t u q R C p0 n0 p1 n1 := by
  obtain ⟨w1, w2, w3, w4, w5, w6, w7, w8, w9, w10, w11, w12⟩ := w
  exact ⟨w1, w2, w3, w4, w5, by rw [f.a 1 rfl]; exact w6, w7, w8, w9, w10, w11.trans (f.up (by decide) (by decide)), fun k hk => by rw [f.a 3 rfl]; exact w12 k hk⟩
theorem CW.step {c : cT} {t t1 u : xT} {q : GmT} {R C p0 n0 p1 n1 d : Nat} (w : CW c t t1 q R C p0 n0 p1 n1) (hd : d < 4) (hr : pSr (qG q) (qN q).1 (nI p1) (nI d) = 0) (hn : n1 + 1 < 2 ^ 30) (f : Frm [1] [] t1 u) (hq : RQ (ra u 1) (qG (mkQ q (nI d))) R C (qN (mkQ q (nI d))).1 (nb R C p1 d) (n1 + 1) (qR (mkQ q (nI d)))) : CW c t u (mkQ q (nI d)) R C p0 n0 (nb R C p1 d) (n1 + 1) := by
  obtain ⟨w1, w2, w3, w4, w5, w6, w7, w8, w9, w10, w11, w12⟩ := w
  obtain ⟨g1, g2, _⟩ := w5.step hd hr hn
  exact ⟨w1, w2, w3, w4, g1, hq, by omega, w8, w9, fun i hi => (g2 i (by omega)).trans (w10 i hi), w11.trans (f.up (by decide) (by decide)), fun k hk => by rw [f.a 3 rfl]; exact w12 k hk⟩
def plFail (N : Nat) (v3 r : Int32) (t : xT) : Option (Int32 × xT) := Option.bind (f_goesBack N t) fun r_167 =>
        Option.bind (some (ws r_167 8 v3)) fun t_172 =>
        Option.bind (f_keeps t_172 r 2) fun r_179 =>
        some (r_179.1, r_179.2)
def plTail (N : Nat) (v3 : Int32) (t : xT) : Option (Int32 × xT) := if ((ra t 1) 4) ≤ 400 then (Option.bind (f_commands N t) fun r_239 =>
        some (v3, r_239))
      else (Option.bind (f_goesBack N t) fun r_229 =>
        Option.bind (f_fails r_229 3) fun r_234 =>
        some (r_234.1, r_234.2))
theorem TX.frm {f : Nat → Int32} {len : Nat} {t u : xT} (h : TX f len t) (e : ra u 5 = ra t 5) : TX f len u := ⟨h.1, fun i hi => by rw [e]; exact h.2 i hi⟩
theorem pe_ok {N : Nat} {c : cT} {t : xT} {R C p0 n0 : Nat} (X : cT) {f : Nat → Int32} {len k ch d : Nat} (hk : k < len) (hf : f k = nI ch) (hd : d < 4) (hdir : f_directionOf (nI ch) = nI d) : ∀ m v6 q p1 n1 r t1, TX f len t1 → CW c t t1 q R C p0 n0 p1 n1 → n1 + m < 2 ^ 29 → v6 + m < 2 ^ 20 →
   (∃ q' p' u, f_play_L N (r + 1 + m) 141 (nI len) (nI (n1 - n0)) (nI (v6 + m)) (nI k) (nI v6) t1 = f_play_L N r 81 (nI len) (nI (n1 + m - n0)) 0 (nI (k + 1)) 0 u ∧ peL (nI d) (decide (nI ch < 97)) m (wG X q) = (true, wG X q') ∧ CW c t u q' R C p0 n0 p' (n1 + m) ∧ Frm [1] [26] t1 u) ∨
   (∃ q' p' n' u e d', f_play_L N (r + 1 + m) 141 (nI len) (nI (n1 - n0)) (nI (v6 + m)) (nI k) (nI v6) t1 = plFail N (nI (n' - n0)) e u ∧ n' ≤ n1 + m ∧ peL (nI d) (decide (nI ch < 97)) m (wG X q) = (false, keT (wG X q') e d') ∧ CW c t u q' R C p0 n0 p' n' ∧ Frm [1] [26] t1 u ∧ rs u 26 = d') := by
  intro m
  induction m with
  | zero =>
    intro v6 q p1 n1 r t1 hT w hn hv
    refine Or.inl ⟨q, p1, t1, ?_, rfl, w, Frm.rf⟩
    rw [Nat.add_zero, u_play_141, Nat.add_zero, Nat.add_zero, if_pos (Int32.le_refl _), nI_1]
  | succ m ih =>
    intro v6 q p1 n1 r t1 hT w hn hv
    have hl := hT.1
    obtain ⟨e5, _⟩ := hT.2 k hk
    have w' := w
    obtain ⟨w1, w2, w3, w4, w5, w6, w7, w8, w9, w10, w11, w12⟩ := w'
    have ok := w5.1
    have hp := w5.2.2.2.2.1.rc ok
    obtain ⟨u, e1, f1, e2⟩ := m_rfl ok w6.1 w6.2.1 w6.2.2.1 hp hd hdir
    have e5' : ra u 5 k = nI ch := by rw [f1.a 5 rfl, e5, hf]
    rw [← Nat.add_assoc, u_play_141, if_neg (nI_ge (show v6 < v6 + (m + 1) by omega) (by omega)), if_pos (inB_nI (show k < 80 by omega) (by decide)), nI_clamp (by omega), e5, hf, e1, Option.bind_some]
    by_cases hr : pLr (qG q) (qN q).1 (nI p1) (nI d) (decide (nI ch < 97)) = 0
    · have hs := pLr_0 hr
      have wu := w.frm f1
      obtain ⟨u1, k1, k2, k3⟩ := m_goes wu.2.2.2.2.1 wu.2.2.2.2.2.1 hd hs (by omega)
      have ws1 := wu.step hd hs (by omega) k2 k3
      have ff : Frm [1] [26] t1 u1 := (f1.up (by decide) (by decide)).trans (k2.up (by decide) (by decide))
      have pe : peL (nI d) (decide (nI ch < 97)) (m + 1) (wG X q) = peL (nI d) (decide (nI ch < 97)) m (wG X (mkQ q (nI d))) := by
        show (if pLr (qG q) (qN q).1 (qN q).2 (nI d) _ = 0 then _ else _) = _
        rw [w5.2.1, if_pos hr]; rfl
      rw [if_pos (by rw [hr]; exact le00), if_pos (inB_nI (show k < 80 by omega) (by decide)), e5', hdir, k1, Option.bind_some, nI_1, nI_1, pe]
      have en : nI (n1 - n0 + 1) = nI (n1 + 1 - n0) := by rw [show n1 - n0 + 1 = n1 + 1 - n0 by omega]
      rw [en, show v6 + (m + 1) = v6 + 1 + m by omega, show n1 + (m + 1) = n1 + 1 + m by omega]
      rcases ih (v6 + 1) (mkQ q (nI d)) _ (n1 + 1) r u1 (hT.frm (ff.a 5 rfl)) ws1 (by omega) (by omega) with ⟨q', p', u', a1, a2, a3, a4⟩ | ⟨q', p', n', u', e', d', a1, a0, a2, a3, a4, a5⟩
      · exact Or.inl ⟨q', p', u', a1, a2, a3, ff.trans a4⟩
      · exact Or.inr ⟨q', p', n', u', e', d', a1, a0, a2, a3, ff.trans a4, a5⟩
    · refine Or.inr ⟨q, p1, n1, u, pLr (qG q) (qN q).1 (nI p1) (nI d) (decide (nI ch < 97)), rs u 26, ?_, by omega, ?_, w.frm f1, f1.up (by decide) (by decide), rfl⟩
      · rw [if_neg ((pLr_or _ _ _ _ _).resolve_left hr)]; rfl
      · show (if pLr (qG q) (qN q).1 (qN q).2 (nI d) _ = 0 then _ else _) = _
        rw [w5.2.1, if_neg hr]
        show (false, keT (wG X q) (pLr (qG q) (qN q).1 (qN q).2 (nI d) _) (pSd (qG q) (qN q).2 (pLr (qG q) (qN q).1 (qN q).2 (nI d) _) (nI d))) = _
        rw [w5.2.1, e2 hr]
