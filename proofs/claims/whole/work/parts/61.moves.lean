/-! steps: the class's sets of one cell -/
theorem mv_bit {g : gT} {R C : Nat} (ok : GOk g R C) {c d : Nat} (hc : c < R * C) (hd : d < 4) : gMv g (jshl 1 (nI c)) (nI d) = if tb (gO g) (nb R C c d) = true then jshl 1 (nI (nb R C c d)) else 0 := by
  refine tb_ext fun x hx => ?_
  apply bool_iff
  rw [mv_tb ok (Sub.bit ok.rc hc) hd, and_t, bit_eq ok.rc hc]
  split
  · rename_i h
    rw [bit_eq ok.rc (ok.open_lt h)]
    constructor
    · rintro ⟨a, b⟩; exact ((nb_iff ok.rc hc (ok.open_lt a) hd).mpr b).symm
    · intro a; subst a; exact ⟨h, (nb_iff ok.rc hc (ok.open_lt h) hd).mp rfl⟩
  · rename_i h
    rw [tb_0]
    constructor
    · rintro ⟨a, b⟩
      have := (nb_iff ok.rc hc (ok.open_lt a) hd).mpr b
      rw [this] at h; exact absurd a h
    · intro a; cases a
theorem bit_nz {k : Nat} (hk : k < 64) : ¬ jshl 1 (nI k) = 0 := tb_ne0.mpr ⟨k, hk, by rw [tb_bit hk hk]; simp⟩
theorem bit_and {k : Nat} (hk : k < 64) (b : Int64) : (jshl 1 (nI k) &&& b = 0) ↔ tb b k = false := by
  rw [tb_az]
  constructor
  · intro h; exact h k (by rw [tb_bit hk hk]; simp)
  · intro h x hx
    rw [tb_bit hk (tb_lt hx)] at hx
    rw [of_decide_eq_true hx]; exact h
theorem pBr_eq {g : gT} {R C : Nat} (ok : GOk g R C) (b : Int64) {c d : Nat} (hc : c < R * C) (hd : d < 4) : pBr g b (jshl 1 (nI c)) (nI d) = if tb (gO g) (nb R C c d) = true then (if tb b (nb R C c d) = true then 3 else 0) else 2 := by
  unfold pBr
  rw [mv_bit ok hc hd]
  cases h : tb (gO g) (nb R C c d) with
  | false => simp only [Bool.false_eq_true, if_false, if_true]
  | true =>
    have hl := tb_lt h
    simp only [if_true]
    rw [if_neg (bit_nz hl)]
    have := bit_and hl b
    cases h2 : tb b (nb R C c d) with
    | false => rw [if_pos (this.mpr h2)]; rfl
    | true => rw [if_neg (fun z => by rw [this.mp z] at h2; cases h2)]; rfl
theorem pSr_eq {g : gT} {R C : Nat} (ok : GOk g R C) (b : Int64) {p d : Nat} (hp : p < R * C) (hd : d < 4) : pSr g b (nI p) (nI d) = if tb (gO g) (nb R C p d) = true then (if tb b (nb R C p d) = true then pBr g b (jshl 1 (nI (nb R C p d))) (nI d) else 0) else 1 := by
  unfold pSr pAh
  rw [mv_bit ok hp hd]
  cases h : tb (gO g) (nb R C p d) with
  | false => simp only [Bool.false_eq_true, if_false, if_true]
  | true =>
    have hl := tb_lt h
    simp only [if_true]
    rw [if_neg (bit_nz hl)]
    have := bit_and hl b
    cases h2 : tb b (nb R C p d) with
    | false => rw [if_pos (this.mpr h2)]; rfl
    | true => rw [if_neg (fun z => by rw [this.mp z] at h2; cases h2)]; rfl
theorem pAh_eq {g : gT} {R C : Nat} (ok : GOk g R C) {p d : Nat} (hp : p < R * C) (hd : d < 4) (ho : tb (gO g) (nb R C p d) = true) : pAh g (nI p) (nI d) = jshl 1 (nI (nb R C p d)) := by
  unfold pAh
  rw [mv_bit ok hp hd, if_pos ho]
theorem pMp_eq {g : gT} {R C : Nat} (ok : GOk g R C) (b : Int64) {p d : Nat} (hp : p < R * C) (hd : d < 4) (ho : tb (gO g) (nb R C p d) = true) : pMp g b (nI p) (nI d) = tb b (nb R C p d) := by
  unfold pMp
  rw [pAh_eq ok hp hd ho]
  have := bit_and (tb_lt ho) b
  cases h2 : tb b (nb R C p d) with
  | false => rw [decide_eq_true (this.mpr h2)]; rfl
  | true => rw [decide_eq_false (fun z => by rw [this.mp z] at h2; cases h2)]; rfl
/-! the model's reasons -/
theorem m_rfb {t : xT} {g : gT} {R C : Nat} {b : Int64} (ok : GOk g R C) (hM : GR (ra t 1) g R C) (hB : GB (ra t 1) b) {c d : Nat} (hc : c < R * C) (hd : d < 4) : ∃ v, f_reasonForBox t (nI c) (nI d) = some (pBr g b (jshl 1 (nI c)) (nI d), ws t 26 v) ∧ (pBr g b (jshl 1 (nI c)) (nI d) = 2 → v = nI c) ∧ (pBr g b (jshl 1 (nI c)) (nI d) = 3 → v = lowF (gMv g (jshl 1 (nI c)) (nI d))) := by
  unfold f_reasonForBox
  rw [pBr_eq ok b hc hd, mv_bit ok hc hd, m_bes ok.rc hM hc hd, Option.bind_some, Option.bind_some]
  have l := nb_le ok.rc hc hd
  generalize nb R C c d = e at l
  have hM1 : GR (ra (ws t 26 (nI c)) 1) g R C := hM
  rw [m_open hM1 l, Option.bind_some]
  cases h : tb (gO g) e with
  | false => exact ⟨nI c, rfl, fun _ => rfl, fun z => absurd (show (2 : Int32) = 3 from z) (by decide)⟩
  | true =>
    have el := tb_lt h
    have hB2 : GB (ra (ws (ws t 26 (nI c)) 26 (bz e)) 1) b := hB
    rw [if_neg (by decide), Option.bind_some, m_box hB2 l, Option.bind_some, ws_ws]
    simp only [if_true]
    refine ⟨bz e, ?_, ?_, ?_⟩
    · cases tb b e <;> rfl
    · cases tb b e
      · intro z; exact absurd z (by decide)
      · intro z; exact absurd z (by decide)
    · intro _; rw [low_one el, bz_nI el]
theorem m_rfs {t : xT} {g : gT} {R C : Nat} {b : Int64} (ok : GOk g R C) (hM : GR (ra t 1) g R C) (hB : GB (ra t 1) b) {p d : Nat} (h3 : ra t 1 3 = nI p) (hp : p < R * C) (hd : d < 4) : ∃ v, f_reasonForStep t (nI d) = some (pSr g b (nI p) (nI d), ws t 26 v) ∧ (¬ pSr g b (nI p) (nI d) = 0 → v = pSd g (nI p) (pSr g b (nI p) (nI d)) (nI d)) := by
  unfold f_reasonForStep
  rw [cl_3, h3, m_bes ok.rc hM hp hd, Option.bind_some, Option.bind_some, pSr_eq ok b hp hd]
  have l := nb_le ok.rc hp hd
  have ah := pAh_eq ok hp hd
  generalize nb R C p d = e at l ah
  have hM1 : GR (ra (ws t 26 (nI p)) 1) g R C := hM
  have hB1 : GB (ra (ws t 26 (nI p)) 1) b := hB
  rw [m_open hM1 l, Option.bind_some]
  cases h : tb (gO g) e with
  | false => exact ⟨nI p, rfl, fun _ => rfl⟩
  | true =>
    have el := tb_lt h
    have er := ok.open_lt h
    rw [if_neg (by decide), m_box hB1 l, Option.bind_some]
    simp only [if_true]
    cases h2 : tb b e with
    | false => exact ⟨nI p, rfl, fun z => absurd rfl z⟩
    | true =>
      obtain ⟨v, e1, e2, e3⟩ := m_rfb ok hM1 hB1 er hd
      rw [bz_nI el, if_neg (by decide), e1, ws_ws]
      simp only [if_true]
      refine ⟨v, rfl, fun z => ?_⟩
      have or := pBr_eq ok b er hd
      unfold pSd
      rw [ah h]
      by_cases w : pBr g b (jshl 1 (nI e)) (nI d) = 2
      · rw [if_pos w, e2 w, low_one el]
      · rw [if_neg w]
        have w3 : pBr g b (jshl 1 (nI e)) (nI d) = 3 := by
          rw [or] at z w ⊢
          split at z
          · rename_i q
            rw [if_pos q]
            split at z
            · rename_i q2; rw [if_pos q2]
            · exact absurd rfl z
          · rename_i q; rw [if_neg q] at w; exact absurd rfl w
        rw [if_pos w3, e3 w3]
theorem m_rfp {t : xT} {g : gT} {R C : Nat} {b : Int64} (ok : GOk g R C) (hM : GR (ra t 1) g R C) (hB : GB (ra t 1) b) {p c d : Nat} (h3 : ra t 1 3 = nI p) (hp : tb (pFr g b) p = true) (hc : c < R * C) (hd : d < 4) {N : Nat} (hN : 10000 ≤ N) : ∃ u, f_reasonForPush N t (nI c) (nI d) = some (pPr g b (nI p) (nI c) (nI d), u) ∧ Frm [7, 6] [16, 26] t u ∧ (¬ pPr g b (nI p) (nI c) (nI d) = 0 → rs u 26 = pPd g (pPr g b (nI p) (nI c) (nI d)) (nI c) (nI d)) := by
  have hpo : p < R * C := by rw [pf_tb, and_t] at hp; exact ok.open_lt hp.1
  unfold f_reasonForPush
  obtain ⟨u, e, f, w7, _, _⟩ := s_wk ok hM hB hpo hN
  rw [m_opp d hd, Option.bind_some, m_bes ok.rc hM hc (opd_lt d), Option.bind_some, cl_3, h3, e, Option.bind_some, Option.bind_some]
  have l := nb_le ok.rc hc (opd_lt d)
  have f' : Frm [7, 6] [16, 26] t (ws u 26 (nI c)) := (f.up (by decide) (by decide)).trans (Frm.ws Frm.rf (by decide) _)
  have a1 : ra (ws u 26 (nI c)) 1 = ra t 1 := f.a 1 rfl
  have be : pBe g (nI c) (nI d) = if tb (gO g) (nb R C c (opd d)) = true then jshl 1 (nI (nb R C c (opd d))) else 0 := by
    unfold pBe; rw [od_t d hd, mv_bit ok hc (opd_lt d)]
  have area := area_tb ok hp
  unfold pPr
  rw [be]
  generalize nb R C c (opd d) = x at l
  rw [m_open (hM.of a1) l, Option.bind_some]
  cases h : tb (gO g) x with
  | false =>
    simp only [Bool.false_eq_true, if_false]
    have : (0 : Int64) &&& pAr g b (nI p) = 0 := tb_eq0.mpr fun y _ => by rw [tb_and, tb_0]; rfl
    rw [if_pos this]
    exact ⟨ws u 26 (nI c), rfl, f', fun _ => rfl⟩
  | true =>
    have xl := tb_lt h
    have xr := ok.open_lt h
    simp only [if_true, b0t, if_false, bz_nI xl, inB_nI xl (show 64 < 2 ^ 31 by decide)]
    have cx : (nI x).toNatClampNeg = x := nI_clamp (by omega)
    have or := bf_s (bfR_ok (adj := adjW g R C b) (a := p) (by have := ok.rc.le; omega)).1 x
    have ng := sz_neg or
    have ba := bit_and xl (pAr g b (nI p))
    have ax : tb (pAr g b (nI p)) x = decide ((bfR (adjW g R C b) p).2.2 x < 64) := area x
    rw [cx, ra_ws, w7 x xr]
    by_cases z : (bfR (adjW g R C b) p).2.2 x < 64
    · rw [decide_eq_true z] at ax
      rw [if_pos (ng.mpr z), if_neg (fun q => by rw [ba.mp q] at ax; cases ax)]
      obtain ⟨v, e1, e2, e3⟩ := m_rfb ok (hM.of a1) (hB.of a1) hc hd
      rw [e1, ws_ws]
      refine ⟨ws u 26 v, rfl, (f.up (by decide) (by decide)).trans (Frm.ws Frm.rf (by decide) _), fun nz => ?_⟩
      have or := pBr_eq ok b hc hd
      show v = _
      unfold pPd
      by_cases w : pBr g b (jshl 1 (nI c)) (nI d) = 3
      · rw [if_pos w, e3 w]
      · rw [if_neg w]
        refine e2 ?_
        rw [or] at nz w ⊢
        split at nz
        · rename_i q
          rw [if_pos q] at w
          split at nz
          · rename_i q2; rw [if_pos q2] at w; exact absurd rfl w
          · exact absurd rfl nz
        · rename_i q; rw [if_neg q]
    · rw [decide_eq_false z] at ax
      rw [if_neg (fun q => z (ng.mp q)), if_pos (ba.mpr ax)]
      exact ⟨ws u 26 (nI c), rfl, f', fun _ => rfl⟩
/-! one step more -/
/-- the record made once more -/
def rp (g : gT) (rec : Nat → Int32) (s : Int64 × Int32) : Nat → Option (Int64 × Int32)
  | 0 => some s
  | k + 1 => Option.bind (rp g rec s k) fun x => if pLr g x.1 x.2 (rec k &&& 3) (decide (4 ≤ rec k)) = 0 then some (pMb g x.1 x.2 (rec k &&& 3), lowF (pAh g x.2 (rec k &&& 3))) else none
theorem rp_cong {g : gT} {rec rec' : Nat → Int32} {s : Int64 × Int32} : ∀ n, (∀ i, i < n → rec' i = rec i) → rp g rec' s n = rp g rec s n := by
  intro n
  induction n with
  | zero => intro _; rfl
  | succ n ih =>
    intro h
    unfold rp
    rw [ih fun i hi => h i (by omega), h n (by omega)]
/-- a row of the model holds a game: boxes, player, steps and record -/
def RQ (G : Nat → Int32) (g : gT) (R C : Nat) (b : Int64) (p n : Nat) (rec : Nat → Int32) : Prop := GR G g R C ∧ GB G b ∧ G 3 = nI p ∧ G 4 = nI n ∧ ∀ i, i < n → i < 400 → G (202 + i) = rec i
/-- boxes and player stand where they may -/
def PV (g : gT) (b : Int64) (p : Nat) : Prop := (∀ c, tb b c = true → tb (gO g) c = true) ∧ tb (pFr g b) p = true ∧ fb_ct (tb b) 64 ≤ 5
/-- a game of the class as it is between steps -/
def GI (q : GmT) (R C p n : Nat) : Prop := GOk (qG q) R C ∧ (qN q).2 = nI p ∧ qC q = nI n ∧ n < 2 ^ 30 ∧ PV (qG q) (qN q).1 p ∧ (∀ i, i < n → i < 400 → ∃ k, k < 8 ∧ qR q i = nI k) ∧ (n ≤ 400 → rp (qG q) (qR q) (qS q) n = some (qN q))
theorem PV.rc {g : gT} {R C p : Nat} {b : Int64} (ok : GOk g R C) (h : PV g b p) : p < R * C := by
  have := h.2.1
  rw [pf_tb, and_t] at this; exact ok.open_lt this.1
theorem cd_t : ∀ d, d < 4 → (nI d &&& 3 = nI d ∧ (nI d + 4) &&& 3 = nI d ∧ decide ((4 : Int32) ≤ nI d) = false ∧ decide ((4 : Int32) ≤ nI d + 4) = true ∧ nI d + 4 = nI (d + 4)) := by decide +kernel
theorem ct_move {b : Int64} {e f : Nat} {b' : Int64} (he : tb b e = true) (hf : tb b f = false) (hfl : f < 64) (h : ∀ x, tb b' x = if x = f then true else if x = e then false else tb b x) : fb_ct (tb b') 64 = fb_ct (tb b) 64 := by
  have u1 := fb_ct_upd (tb b) false (i := e) (n := 64) (tb_lt he)
  rw [he] at u1
  have u2 := fb_ct_upd (fun k => if k = e then false else tb b k) true (i := f) (n := 64) hfl
  have z : (if f = e then false else tb b f) = false := by split; rfl; exact hf
  simp only [z] at u2
  have e3 : (fun k => if k = f then true else (if k = e then false else tb b k)) = tb b' := by funext k; exact (h k).symm
  rw [e3] at u2
  simp only [if_true, Bool.false_eq_true, if_false] at u1 u2
  omega
