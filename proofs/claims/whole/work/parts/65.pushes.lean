/-! pushes, long pushes -/
theorem pPr_0 {g : gT} {R C : Nat} (ok : GOk g R C) {b : Int64} {p c d : Nat} (hp : tb (pFr g b) p = true) (hc : c < R * C) (hd : d < 4) (h : pPr g b (nI p) (nI c) (nI d) = 0) : tb (gO g) (nb R C c (opd d)) = true ∧ (bfR (adjW g R C b) p).2.2 (nb R C c (opd d)) < 64 ∧ pBr g b (jshl 1 (nI c)) (nI d) = 0 ∧ pBe g (nI c) (nI d) = jshl 1 (nI (nb R C c (opd d))) := by
  unfold pPr at h
  have be : pBe g (nI c) (nI d) = if tb (gO g) (nb R C c (opd d)) = true then jshl 1 (nI (nb R C c (opd d))) else 0 := by
    unfold pBe; rw [od_t d hd, mv_bit ok hc (opd_lt d)]
  rw [be] at h ⊢
  cases ho : tb (gO g) (nb R C c (opd d)) with
  | false =>
    rw [ho] at h
    simp only [Bool.false_eq_true, if_false] at h
    have : (0 : Int64) &&& pAr g b (nI p) = 0 := tb_eq0.mpr fun y _ => by rw [tb_and, tb_0]; rfl
    rw [if_pos this] at h
    exact absurd h (by decide)
  | true =>
    rw [ho] at h
    simp only [if_true] at h ⊢
    have ba := bit_and (tb_lt ho) (pAr g b (nI p))
    have ax : tb (pAr g b (nI p)) (nb R C c (opd d)) = decide ((bfR (adjW g R C b) p).2.2 (nb R C c (opd d)) < 64) := area_tb ok hp _
    by_cases z : (bfR (adjW g R C b) p).2.2 (nb R C c (opd d)) < 64
    · rw [decide_eq_true z] at ax
      rw [if_neg (fun q => by rw [ba.mp q] at ax; cases ax)] at h
      exact ⟨trivial, z, h, trivial⟩
    · rw [decide_eq_false z] at ax
      rw [if_pos (ba.mpr ax)] at h
      exact absurd h (by decide)
theorem pBr_0 {g : gT} {R C : Nat} (ok : GOk g R C) {b : Int64} {c d : Nat} (hc : c < R * C) (hd : d < 4) (h : pBr g b (jshl 1 (nI c)) (nI d) = 0) : tb (gO g) (nb R C c d) = true ∧ tb b (nb R C c d) = false := by
  rw [pBr_eq ok b hc hd] at h
  cases h1 : tb (gO g) (nb R C c d) with
  | false => rw [h1] at h; exact absurd (show (2 : Int32) = 0 from h) (by decide)
  | true =>
    cases h2 : tb b (nb R C c d) with
    | false => exact ⟨rfl, rfl⟩
    | true => rw [h1, h2] at h; exact absurd (show (3 : Int32) = 0 from h) (by decide)
theorem s_wp2 {t : xT} {q : GmT} {R C p n c d : Nat} (hG : GI q R C p n) (hq : RQ (ra t 1) (qG q) R C (qN q).1 p n (qR q)) (hc : tb (qN q).1 c = true) (hd : d < 4) (h0 : pPr (qG q) (qN q).1 (nI p) (nI c) (nI d) = 0) (hn : n + 65 < 2 ^ 30) {N : Nat} (hN : 10000 ≤ N) : ∃ u k, f_walksAndPushes N t (nI c) (nI d) = some u ∧ k < 64 ∧ Frm [1, 7, 6] [16] t u ∧ GI (puQ q (nI c) (nI d)) R C c (n + k + 1) ∧ RQ (ra u 1) (qG (puQ q (nI c) (nI d))) R C (qN (puQ q (nI c) (nI d))).1 c (n + k + 1) (qR (puQ q (nI c) (nI d))) ∧ qG (puQ q (nI c) (nI d)) = qG q ∧ qS (puQ q (nI c) (nI d)) = qS q ∧ (∀ i, i < n → qR (puQ q (nI c) (nI d)) i = qR q i) ∧ tb (gO (qG q)) (nb R C c d) = true ∧ ∀ y, tb (qN (puQ q (nI c) (nI d))).1 y = if y = nb R C c d then true else if y = c then false else tb (qN q).1 y := by
  have ok := hG.1
  have hle := ok.rc.le
  have pv := hG.2.2.2.2.1
  have hp := pv.rc ok
  have a2 := hG.2.1
  have co := pv.1 c hc
  have cl := ok.open_lt co
  obtain ⟨o1, o2, o3, o4⟩ := pPr_0 ok pv.2.1 cl hd h0
  obtain ⟨o5, o6⟩ := pBr_0 ok cl hd o3
  have xl := ok.open_lt o1
  have xc : nb R C (nb R C c (opd d)) d = c := by
    have := (nb_back ok.rc cl (opd_lt d) rfl (show nb R C c (opd d) ≠ 64 by omega)).1
    rw [opd_opd hd] at this; exact this
  unfold f_walksAndPushes
  rw [m_opp d hd, Option.bind_some, m_bes ok.rc hq.1 cl (opd_lt d), Option.bind_some]
  generalize nb R C c (opd d) = x at *
  rw [bz_nI (show x < 64 by omega)]
  have cert := wk_cert (b := (qN q).1) ok xl
  have back := wk_back ok pv.2.1 xl o2
  have xfree : tb (pFr (qG q) (qN q).1) x = true := by
    rcases (wk_cert (b := (qN q).1) ok hp).2.1 x o2 with z | ⟨_, _, z, _⟩
    · rw [z]; exact pv.2.1
    · exact z.1
  obtain ⟨u1, e1, f1, w7, _, _⟩ := s_wk ok hq.1 hq.2.1 xl hN
  rw [e1, Option.bind_some]
  obtain ⟨y1, y2, y3⟩ := yLay_at ok (pFr (qG q) (qN q).1) xl cert (qL q).1
  generalize hsx : (bfR (adjW (qG q) R C (qN q).1) x).2.2 = s at *
  have kp : s p < 64 := back
  have fi := fiN_ok (f := (yLay (qG q) (jshl 1 (nI x)) (pFr (qG q) (qN q).1) (qL q).1).1) (c := p) (by omega) y1 (fun i hi => y2 i p hi) (y3 p kp) _ 0 (Nat.zero_add _) (Nat.zero_le _)
  obtain ⟨r, hr⟩ : ∃ r, N = r + 1 + 6 * s p := ⟨N - (6 * s p + 1), by omega⟩
  have hG' : GI (layQ q (jshl 1 (nI x)) (pFr (qG q) (qN q).1)) R C p n := hG
  obtain ⟨u2, q2, m2, h1, _, h2, h3, h4, h5, h6, h7, h8, h9⟩ := wl_ok hN (nI d) (s p) (layQ q (jshl 1 (nI x)) (pFr (qG q) (qN q).1)) p n r u1 hG' (by rw [f1.a 1 rfl]; exact hq) rfl cert xfree y2 w7 rfl kp (by omega)
  rw [← hr] at h2
  have h6 : qG q2 = qG q := h6
  have h7 : (qN q2).1 = (qN q).1 := h7
  have h8 : qS q2 = qS q := h8
  have h9 : ∀ i, i < n → qR q2 i = qR q i := h9
  have a1 : ra u2 1 3 = nI x := h5.2.2.1
  have sx : s x = 0 := cert.1
  have bx := inB_nI (show x < 64 by omega) (show 64 < 2 ^ 31 by decide)
  have cx : (nI x).toNatClampNeg = x := nI_clamp (by omega)
  have h7x : ra u2 7 x = sz 0 := by rw [h3.a 7 rfl, w7 x xl, sx]
  have ok2 : GOk (qG q2) R C := h4.1
  have hsr : pSr (qG q2) (qN q2).1 (nI x) (nI d) = 0 := by
    rw [h6, h7]
    rw [pSr_eq ok (qN q).1 xl hd, xc, co, hc]
    exact o3
  obtain ⟨g1, g2, _⟩ := h4.step hd hsr (by omega)
  obtain ⟨u3, k1, k2, k3⟩ := m_goes h4 h5 hd hsr (by omega)
  rw [xc] at g1 k3
  have ep : puQ q (nI c) (nI d) = mkQ q2 (nI d) := by
    unfold puQ wkT
    rw [o4, a2, fi, h1]
  rw [ep]
  have nf : ∀ y, tb (qN (mkQ q2 (nI d))).1 y = if y = nb R C c d then true else if y = c then false else tb (qN q).1 y := fun y => by
    show tb (pMb (qG q2) (qN q2).1 (qN q2).2 (nI d)) _ = _
    rw [h4.2.1, pMb_eq ok2 (h4.2.2.2.2.1.rc ok2) hd hsr, xc, h7]
    rw [hc, if_pos rfl]
  refine ⟨u3, s p, ?_, kp, ((f1.up (by decide) (by decide)).trans (h3.up (by decide) (by decide))).trans (k2.up (by decide) (by decide)), g1, k3, h6, h8, fun i hi => by rw [g2 i (by omega)]; exact h9 i hi, o5, nf⟩
  rw [h2, u_walksAndPushes_13, cl_3, a1, bx, if_pos rfl, cx, h7x, if_pos (by decide), k1]; rfl
theorem s_wp {t : xT} {q : GmT} {R C p n c d : Nat} (hG : GI q R C p n) (hq : RQ (ra t 1) (qG q) R C (qN q).1 p n (qR q)) (hc : tb (qN q).1 c = true) (hd : d < 4) (h0 : pPr (qG q) (qN q).1 (nI p) (nI c) (nI d) = 0) (hn : n + 65 < 2 ^ 30) {N : Nat} (hN : 10000 ≤ N) : ∃ u k, f_walksAndPushes N t (nI c) (nI d) = some u ∧ k < 64 ∧ Frm [1, 7, 6] [16] t u ∧ GI (puQ q (nI c) (nI d)) R C c (n + k + 1) ∧ RQ (ra u 1) (qG (puQ q (nI c) (nI d))) R C (qN (puQ q (nI c) (nI d))).1 c (n + k + 1) (qR (puQ q (nI c) (nI d))) ∧ qG (puQ q (nI c) (nI d)) = qG q ∧ qS (puQ q (nI c) (nI d)) = qS q ∧ (∀ i, i < n → qR (puQ q (nI c) (nI d)) i = qR q i) ∧ tb (gO (qG q)) (nb R C c d) = true ∧ tb (qN (puQ q (nI c) (nI d))).1 (nb R C c d) = true := by
  obtain ⟨u, k, a1, a2, a3, a4, a5, a6, a7, a8, a9, a10⟩ := s_wp2 hG hq hc hd h0 hn hN
  exact ⟨u, k, a1, a2, a3, a4, a5, a6, a7, a8, a9, by rw [a10, if_pos rfl]⟩
/-! on through a tunnel -/
def mu (d p : Nat) : Nat := if d = 0 ∨ d = 3 then p else 63 - p
theorem mu_lt {R C p d : Nat} (h : RC R C) (hp : p < R * C) (hd : d < 4) (hn : nb R C p d ≠ 64) : mu d (nb R C p d) < mu d p := by
  have hle := h.le
  have nl := nb_lt h hp hd hn
  obtain ⟨⟨r1, r2⟩, c1, c2⟩ := h
  unfold mu
  unfold nb at hn nl ⊢
  match d, hd with
  | 0, _ =>
    simp only [true_or, if_true] at hn nl ⊢
    split at hn
    · omega
    · rename_i z; rw [if_neg z] at nl ⊢; omega
  | 1, _ =>
    simp only [Nat.one_ne_zero, if_false, if_true, show ¬ (1 : Nat) = 3 by decide, or_self] at hn nl ⊢
    split at hn
    · omega
    · rename_i z; rw [if_neg z] at nl ⊢; omega
  | 2, _ =>
    simp only [show ¬ (2 : Nat) = 0 by decide, show ¬ (2 : Nat) = 1 by decide, show ¬ (2 : Nat) = 3 by decide, if_false, if_true, or_self] at hn nl ⊢
    split at hn
    · rename_i z; rw [if_pos z] at nl ⊢; omega
    · omega
  | 3, _ =>
    simp only [show ¬ (3 : Nat) = 0 by decide, show ¬ (3 : Nat) = 1 by decide, show ¬ (3 : Nat) = 2 by decide, if_false, or_true, if_true] at hn nl ⊢
    split at hn
    · omega
    · rename_i z
      rw [if_neg z] at nl ⊢
      have : p ≠ 0 := fun w => by rw [w] at z; simp at z
      omega
  | d + 4, hd => omega
def pTail (N : Nat) (v3 v5 v6 : Int32) (t : xT) : Option (Int32 × xT) := if ((ra t 1) 4) ≤ 400 then (Option.bind (f_commands N t) fun r_139 =>
        Option.bind (if v3 = 0 then (some (((ra r_139 1) 4) - v5))
          else (some v6)) fun (r_143 : Int32) =>
        some (r_143, r_139))
      else (Option.bind (f_goesBack N t) fun r_129 =>
        Option.bind (f_fails r_129 5) fun r_134 =>
        some (r_134.1, r_134.2))
theorem d2_t : ∀ d, d < 4 → nI d - nI d / 2 * 2 = nI (d % 2) := by decide +kernel
theorem ta_tb {g : gT} {R C : Nat} (ok : GOk g R C) {d : Nat} (hd : d < 4) (c : Nat) : tb (gTa g (nI d)) c = (tb (gO g) c && (!tb (gG g) c && (!tb (gO g) (nb R C c (1 - d % 2)) && !tb (gO g) (nb R C c (3 - d % 2))))) := by
  match d, hd with
  | 0, _ => exact tc_tb ok c
  | 1, _ => exact tr_tb ok c
  | 2, _ => exact tc_tb ok c
  | 3, _ => exact tr_tb ok c
  | d + 4, hd => omega
theorem on_ok {N R C d : Nat} (hd : d < 4) (v5 : Int32) : ∀ (m : Nat) (q : GmT) (p n k r : Nat) (t : xT), GI q R C p n → RQ (ra t 1) (qG q) R C (qN q).1 p n (qR q) → tb (gO (qG q)) (nb R C p d) = true → tb (qN q).1 (nb R C p d) = true → mu d p ≤ m → n + m + 1 < 2 ^ 30 → ∃ u n' k', f_pushing_L N (r + 1 + m) (nI d) 1 v5 (nI k) (nI (nb R C p d)) t = pTail N 1 v5 (nI k') u ∧ k ≤ k' ∧ k' ≤ k + m ∧ Frm [1] [26] t u ∧ (onQ (gTa (qG q) (nI d)) (nI d) m k q).2 = k' ∧ qG (onQ (gTa (qG q) (nI d)) (nI d) m k q).1 = qG q ∧ qS (onQ (gTa (qG q) (nI d)) (nI d) m k q).1 = qS q ∧ (∃ p', GI (onQ (gTa (qG q) (nI d)) (nI d) m k q).1 R C p' n' ∧ RQ (ra u 1) (qG (onQ (gTa (qG q) (nI d)) (nI d) m k q).1) R C (qN (onQ (gTa (qG q) (nI d)) (nI d) m k q).1).1 p' n' (qR (onQ (gTa (qG q) (nI d)) (nI d) m k q).1)) ∧ n ≤ n' ∧ n' ≤ n + m ∧ ∀ i, i < n → qR (onQ (gTa (qG q) (nI d)) (nI d) m k q).1 i = qR q i := by
  intro m
  induction m with
  | zero =>
    intro q p n k r t hG hq ho hb hm hn
    have ok := hG.1
    have := mu_lt ok.rc (hG.2.2.2.2.1.rc ok) hd (show nb R C p d ≠ 64 by have := tb_lt ho; omega)
    omega
  | succ m ih =>
    intro q p n k r t hG hq ho hb hm hn
    have ok := hG.1
    have hle := ok.rc.le
    have hp := hG.2.2.2.2.1.rc ok
    have a2 := hG.2.1
    have el := tb_lt ho
    have er := ok.open_lt ho
    have mul := mu_lt ok.rc hp hd (show nb R C p d ≠ 64 by omega)
    have tun := m_tunnel ok hq.1 er (show d % 2 < 2 by omega)
    rw [← ta_tb ok hd] at tun
    obtain ⟨v, b1, _, _⟩ := m_rfb ok hq.1 hq.2.1 er hd
    have sr : pSr (qG q) (qN q).1 (nI p) (nI d) = pBr (qG q) (qN q).1 (jshl 1 (nI (nb R C p d))) (nI d) := by
      rw [pSr_eq ok (qN q).1 hp hd, ho, hb]; rfl
    have ah : gMv (qG q) (jshl 1 (qN q).2) (nI d) = jshl 1 (nI (nb R C p d)) := by
      rw [a2]; exact pAh_eq ok hp hd ho
    have ba := bit_and el (gTa (qG q) (nI d))
    rw [← Nat.add_assoc, u_pushing_69, if_neg (by decide), d2_t d hd, tun, Option.bind_some]
    unfold onQ
    rw [ah, a2, sr]
    cases hT : tb (gTa (qG q) (nI d)) (nb R C p d) with
    | false =>
      rw [if_pos (ba.mpr hT), if_pos (show bI false = 0 from rfl)]
      exact ⟨t, n, k, rfl, Nat.le_refl _, by omega, Frm.rf, rfl, rfl, rfl, ⟨p, hG, hq⟩, Nat.le_refl _, by omega, fun _ _ => rfl⟩
    | true =>
      rw [if_neg (show ¬ bI true = 0 by decide), b1, Option.bind_some, if_neg (show ¬ (jshl 1 (nI (nb R C p d)) &&& gTa (qG q) (nI d) = 0) from fun z => by rw [ba.mp z] at hT; cases hT)]
      by_cases hb0 : pBr (qG q) (qN q).1 (jshl 1 (nI (nb R C p d))) (nI d) = 0
      · rw [if_pos hb0, if_pos hb0]
        have hsr := sr.trans hb0
        obtain ⟨g1, g2, _⟩ := hG.step hd hsr (by omega)
        have hq' : RQ (ra (ws t 26 v) 1) (qG q) R C (qN q).1 p n (qR q) := hq
        obtain ⟨u1, k1, k2, k3⟩ := m_goes hG hq' hd hsr (by omega)
        obtain ⟨o5, o6⟩ := pBr_0 ok er hd hb0
        have nf : tb (qN (mkQ q (nI d))).1 (nb R C (nb R C p d) d) = true := by
          show tb (pMb (qG q) (qN q).1 (qN q).2 (nI d)) _ = _
          rw [a2, pMb_eq ok hp hd hsr, hb, if_pos rfl, if_pos rfl]
        rw [k1, Option.bind_some, m_bes ok.rc k3.1 er hd, Option.bind_some, bz_nI (tb_lt o5), nI_1]
        obtain ⟨u2, n', k', e1, e2, e3, e4, e5, e6, e7, e8, e9, e10, e11⟩ := ih (mkQ q (nI d)) (nb R C p d) (n + 1) (k + 1) r u1 g1 k3 o5 nf (by omega) (by omega)
        refine ⟨u2, n', k', e1, by omega, by omega, ((Frm.ws Frm.rf (by decide) v).trans (k2.up (by decide) (by decide))).trans e4, e5, e6, e7, e8, by omega, by omega, fun i hi => ?_⟩
        exact (e11 i (by omega)).trans (g2 i hi)
      · rw [if_neg hb0, if_neg hb0]
        exact ⟨ws t 26 v, n, k, rfl, Nat.le_refl _, by omega, Frm.ws Frm.rf (by decide) _, rfl, rfl, rfl, ⟨p, hG, hq⟩, Nat.le_refl _, by omega, fun _ _ => rfl⟩
