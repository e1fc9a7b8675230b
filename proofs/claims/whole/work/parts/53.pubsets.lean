/-! cells, distance -/
theorem ce_loop {t : xT} {g : gT} {R C : Nat} (ok : GOk g R C) (hM : GR (ra t 1) g R C) (N n : Nat) (v : Int32) (K : Int64) (hK : Sub R C K) (hIn : ∀ c, c < R * C → f_isIn t (nI c) v = some (bI (tb K c))) : ∀ (m c : Nat) (acc : Int64), c + m = R * C → (∀ x, tb acc x = (tb K x && decide (x < c))) → f_cells_L N (n + 1 + m) v acc (nI c) t = some (K, t) := by
  intro m
  have hle := ok.rc.le
  induction m with
  | zero =>
    intro c acc hc h
    rw [Nat.add_zero, u_cells_62, m_size hM, if_pos (nI_le (by omega) (by omega))]
    congr 2
    refine tb_ext fun x _ => ?_
    rw [h x]
    cases e : tb K x with
    | false => rfl
    | true => have := hK x e; rw [decide_eq_true (by omega)]; rfl
  | succ m ih =>
    intro c acc hc h
    have hcl : c < R * C := by omega
    rw [show n + 1 + (m + 1) = n + 1 + m + 1 by omega, u_cells_62, m_size hM, if_neg (nI_ge hcl (by omega)), hIn c hcl, Option.bind_some, nI_1]
    cases e : tb K c with
    | false =>
      simp only [b0f, if_true, Option.bind_some]
      refine ih (c + 1) _ (by omega) fun x => ?_
      rw [tb_or, tb_0, Bool.or_false, h x]
      by_cases z : x = c
      · rw [z, e]; rfl
      · congr 1; exact decide_eq_decide.mpr (by omega)
    | true =>
      simp only [b0t, if_false, Option.bind_some]
      refine ih (c + 1) _ (by omega) fun x => ?_
      rw [tb_or, h x]
      by_cases z : x = c
      · subst z
        rw [e, tb_bit (by omega) (by omega)]; simp
      · have : tb (jshl 1 (nI c)) x = false := by
          cases w : tb (jshl 1 (nI c)) x with
          | false => rfl
          | true => exact absurd ((bit_eq ok.rc hcl x).mp w) z
        rw [this, Bool.or_false]
        congr 1; exact decide_eq_decide.mpr (by omega)
def cK (g : gT) (b : Int64) (p : Int32) (w : Nat) : Int64 := if w = 0 then gO g else if w = 1 then gG g else if w = 2 then b else if w = 3 then pAr g b p else if w = 4 then gD g else if w = 5 then gFz g b else if w = 6 then gTr g else if w = 7 then gTc g else b &&& gG g
theorem bI_chk3 (b : Bool) : (if bI b &&& 1 = bI b then some (bI b) else none) = some (bI b) := if_pos (bI_and b)
theorem m_isIn {t : xT} {g : gT} {R C : Nat} {b : Int64} {p : Nat} (ok : GOk g R C) (hM : GR (ra t 1) g R C) (hB : GB (ra t 1) b) (hp : tb (pFr g b) p = true) (h7 : ∀ c, c < R * C → ra t 7 c = sz ((bfR (adjW g R C b) p).2.2 c)) (h9 : ∀ c, c < R * C → ra t 9 c = bI (tb (gD g) c)) (h10 : ∀ c, c < R * C → ra t 10 c = bI (tb (gFz g b) c)) {w : Nat} (hw : w ≤ 8) {c : Nat} (hc : c < R * C) : f_isIn t (nI c) (nI w) = some (bI (tb (cK g b (nI p) w) c)) := by
  have hle := ok.rc.le
  have cc : (nI c).toNatClampNeg = c := nI_clamp (by omega)
  have bc := inB_nI (show c < 64 by omega) (show 64 < 2 ^ 31 by decide)
  have k1 := m_tunnel ok hM hc (l := 1) (by decide)
  have k0 := m_tunnel ok hM hc (l := 0) (by decide)
  rw [show nI 1 = (1 : Int32) from rfl] at k1
  rw [nI_0] at k0
  unfold f_isIn cK
  have or := bf_s (bfR_ok (adj := adjW g R C b) (a := p) (tb_lt hp)).1 c
  match w, hw with
  | 0, _ => rw [if_pos (by decide), m_openI hM (by omega), Option.bind_some, bI_chk3]; rfl
  | 1, _ => rw [if_neg (by decide), if_pos (by decide), m_goal ok hM (by omega), Option.bind_some, bI_chk3]; rfl
  | 2, _ => rw [if_neg (by decide), if_neg (by decide), if_pos (by decide), m_boxI hB (by omega), Option.bind_some, bI_chk3]; rfl
  | 3, _ =>
    rw [if_neg (by decide), if_neg (by decide), if_neg (by decide), if_pos (by decide), if_pos bc, cc, h7 c hc]
    show _ = some (bI (tb (pAr g b (nI p)) c))
    unfold pAr
    rw [area_tb ok hp]
    have lt := sz_lt0 or
    rcases or with z | z
    · rw [if_neg (fun q => by have := lt.mp q; omega), decide_eq_true z]; rfl
    · rw [if_pos (lt.mpr (by omega)), decide_eq_false (by omega)]; rfl
  | 4, _ => rw [if_neg (by decide), if_neg (by decide), if_neg (by decide), if_neg (by decide), if_pos (by decide), if_pos bc, cc, h9 c hc, bI_chk3]; rfl
  | 5, _ => rw [if_neg (by decide), if_neg (by decide), if_neg (by decide), if_neg (by decide), if_neg (by decide), if_pos (by decide), if_pos bc, cc, h10 c hc, bI_chk3]; rfl
  | 6, _ =>
    rw [if_neg (by decide), if_neg (by decide), if_neg (by decide), if_neg (by decide), if_neg (by decide), if_neg (by decide), if_pos (by decide), k1, Option.bind_some, bI_chk3]
    show _ = some (bI (tb (gTr g) c))
    rw [tr_tb ok]
  | 7, _ =>
    rw [if_neg (by decide), if_neg (by decide), if_neg (by decide), if_neg (by decide), if_neg (by decide), if_neg (by decide), if_neg (by decide), if_pos (by decide), k0, Option.bind_some, bI_chk3]
    show _ = some (bI (tb (gTc g) c))
    rw [tc_tb ok]
  | 8, _ =>
    rw [if_neg (by decide), if_neg (by decide), if_neg (by decide), if_neg (by decide), if_neg (by decide), if_neg (by decide), if_neg (by decide), if_neg (by decide), m_boxI hB (by omega), m_goal ok hM (by omega)]
    show _ = some (bI (tb (b &&& gG g) c))
    rw [tb_and]
    simp only [Option.bind_some, bI_ne0]
    cases tb b c <;> cases tb (gG g) c <;> rfl
  | w + 9, hw => omega
theorem ar_open {g : gT} {R C : Nat} {b : Int64} {p : Nat} (ok : GOk g R C) (hp : tb (pFr g b) p = true) {c : Nat} (hc : tb (pAr g b (nI p)) c = true) : tb (pFr g b) c = true := by
  unfold pAr at hc
  have ha : p < R * C := by rw [pf_tb, and_t] at hp; exact ok.open_lt hp.1
  have := (sp_lv ok (Sub.bit ok.rc ha) (pFr g b) c).mp hc
  clear hc
  generalize 64 = k at this
  induction k with
  | zero => exact this.2
  | succ k ih =>
    rcases this with z | ⟨_, _, z⟩
    · exact ih z
    · exact z.1
theorem cK_sub {g : gT} {R C : Nat} {b : Int64} {p : Nat} (ok : GOk g R C) (hb : ∀ c, tb b c = true → tb (gO g) c = true) (hp : tb (pFr g b) p = true) (w : Nat) : Sub R C (cK g b (nI p) w) := by
  have sb : Sub R C b := fun c hc => ok.open_lt (hb c hc)
  have sub : ∀ s : Int64, (∀ c, tb s c = true → tb (gO g) c = true) → Sub R C s := fun s h c hc => ok.open_lt (h c hc)
  unfold cK
  split
  · exact ok.sub_open
  split
  · exact ok.sub_goal
  split
  · exact sb
  split
  · refine sub _ fun c hc => ?_
    have := ar_open ok hp hc
    rw [pf_tb, and_t] at this; exact this.1
  split
  · exact dd_sub ok
  split
  · exact sub _ fun c hc => hb c ((fz_ok ok hb).1 c hc)
  split
  · refine sub _ fun c hc => ?_
    rw [tr_tb ok, and_t] at hc; exact hc.1
  split
  · refine sub _ fun c hc => ?_
    rw [tc_tb ok, and_t] at hc; exact hc.1
  · exact sb.and1 _
/-- the answer of cells, in a room -/
theorem s_cells {t : xT} {g : gT} {R C : Nat} {b : Int64} {p : Nat} (ok : GOk g R C) (hM : GR (ra t 1) g R C) (hB : GB (ra t 1) b) (hb : ∀ c, tb b c = true → tb (gO g) c = true) (h3 : ra t 1 3 = nI p) (hp : tb (pFr g b) p = true) {N : Nat} (hN : 10000 ≤ N) {w : Nat} (hw : w ≤ 8) : ∃ u, f_cells N t (nI w) = some (cK g b (nI p) w, u) ∧ Frm [6, 7, 8, 9, 10] [9, 16] t u ∧ rs u 9 = 0 := by
  have hle := ok.rc.le
  have hpo : p < R * C := by rw [pf_tb, and_t] at hp; exact ok.open_lt hp.1
  unfold f_cells
  have e8 : nI w ≤ 8 := nI_le (b := 8) hw (by decide)
  rw [m_room hM, Option.bind_some, if_neg (by decide), m_in, decide_eq_true (nI_pos' (show w < 2 ^ 31 by omega)), decide_eq_true e8]
  simp only [Option.bind_some, Bool.and_true, b0t, if_false, rs_ws, if_true, show ((0 : Int32) ≤ 0) = True from eq_true (by decide)]
  have f0 : Frm [6, 7, 8, 9, 10] [9, 16] t (ws t 9 0) := Frm.ws Frm.rf (by decide) _
  obtain ⟨u1, e1, f1, d1⟩ := s_dies ok (t := ws t 9 0) hM hN
  have f1' : Frm [6, 7, 8, 9, 10] [9, 16] t u1 := f0.trans (f1.up (by decide) (by decide))
  have a1 : ra u1 1 = ra t 1 := f1'.a 1 rfl
  obtain ⟨u2, e2, f2, w7, _, _⟩ := s_wk ok (hM.of a1) (hB.of a1) hpo hN
  have f2' := f1'.trans (f2.up (A' := [6, 7, 8, 9, 10]) (K' := [9, 16]) (by decide) (by decide))
  have a2 : ra u2 1 = ra t 1 := f2'.a 1 rfl
  have d2 : ∀ x, x < R * C → ra u2 9 x = bI (tb (gD g) x) := fun x hx => by rw [f2.a 9 rfl]; exact d1 x hx
  obtain ⟨u3, e3, f3, z3⟩ := s_freezes ok (hM.of a2) (hB.of a2) hb d2 hN
  have f3' := f2'.trans (f3.up (A' := [6, 7, 8, 9, 10]) (K' := [9, 16]) (by decide) (by decide))
  have a3 : ra u3 1 = ra t 1 := f3'.a 1 rfl
  rw [e1, Option.bind_some, cl_3, a1, h3, e2, Option.bind_some, e3, Option.bind_some]
  obtain ⟨n, hn⟩ : ∃ n, N = n + 1 + R * C := ⟨N - (R * C + 1), by omega⟩
  have := ce_loop ok (hM.of a3) N n (nI w) (cK g b (nI p) w) (cK_sub ok hb hp w) (fun c hc => m_isIn ok (hM.of a3) (hB.of a3) hp (fun c hc => by rw [f3.a 7 rfl]; exact w7 c hc) (fun c hc => by rw [f3.a 9 rfl]; exact d2 c hc) z3 hw hc) (R * C) 0 0 (by omega) fun x => by rw [tb_0]; simp
  rw [nI_0, ← hn] at this
  refine ⟨u3, this, f3', ?_⟩
  rw [f3.s 9 rfl, f2.s 9 rfl, f1.s 9 rfl]; rfl
/-! the least distance -/
def mnT (T : Nat → Bool) (f : Nat → Nat) : Nat → Nat
  | 0 => 99
  | e + 1 => if T e then min (mnT T f e) (f e) else mnT T f e
theorem mnT_ok {T : Nat → Bool} {f : Nat → Nat} (hf : ∀ e, T e = true → f e < 64 ∨ f e = 99) : ∀ n, (∀ e, e < n → T e = true → mnT T f n ≤ f e) ∧ (mnT T f n = 99 ∨ ∃ e, e < n ∧ T e = true ∧ f e = mnT T f n ∧ f e < 64) := by
  intro n
  induction n with
  | zero => exact ⟨fun e he => by omega, Or.inl rfl⟩
  | succ n ih =>
    obtain ⟨i1, i2⟩ := ih
    unfold mnT
    cases h : T n with
    | false =>
      simp only [Bool.false_eq_true, if_false]
      refine ⟨fun e he hT => ?_, ?_⟩
      · by_cases z : e = n
        · rw [z, h] at hT; cases hT
        · exact i1 e (by omega) hT
      · rcases i2 with z | ⟨e, a, z⟩
        · exact Or.inl z
        · exact Or.inr ⟨e, by omega, z⟩
    | true =>
      simp only [if_true]
      refine ⟨fun e he hT => ?_, ?_⟩
      · by_cases z : e = n
        · rw [z]; exact Nat.min_le_right _ _
        · exact Nat.le_trans (Nat.min_le_left _ _) (i1 e (by omega) hT)
      · rcases hf n h with q | q
        · rcases Nat.le_total (mnT T f n) (f n) with w | w
          · rw [Nat.min_eq_left w]
            rcases i2 with z | ⟨e, a, z⟩
            · omega
            · exact Or.inr ⟨e, by omega, z⟩
          · rw [Nat.min_eq_right w]
            exact Or.inr ⟨n, by omega, h, rfl, q⟩
        · rcases i2 with z | ⟨e, a, z⟩
          · rw [z, q]; exact Or.inl rfl
          · rw [Nat.min_eq_left (by omega)]; exact Or.inr ⟨e, by omega, z⟩
/-- the way there: pushes from a cell -/
def adjF (g : gT) (R C : Nat) (c d : Nat) : Nat := if (tb (gO g) (nb R C c d) && (tb (gO g) c && tb (gO g) (nb R C c (opd d)))) = true then nb R C c d else 64
def dF (g : gT) (R C a : Nat) : Nat → Nat := (bfR (adjF g R C) a).2.2
theorem fw_cert {g : gT} {R C : Nat} (ok : GOk g R C) {a : Nat} (ha : a < R * C) : Cert (APush g R C) a (dF g R C a) := by
  refine cert_of ha ok.rc.le (fun c d h => ?_) fun p c hp => ?_
  · unfold adjF at h ⊢
    split at h
    · rename_i q
      rw [if_pos q]
      rw [and_t] at q; exact ok.open_lt q.1
    · omega
  constructor
  · rintro ⟨hc, d, hd, q⟩
    unfold adjF at q
    split at q
    · rename_i z
      rw [q, and_t, and_t] at z
      exact ⟨d, hd, (nb_iff ok.rc hp (ok.open_lt z.1) hd).mp q, z.1, z.2.1, z.2.2⟩
    · omega
  · rintro ⟨d, hd, q, o, o2, z⟩
    refine ⟨tb_lt o, d, hd, ?_⟩
    have e := (nb_iff ok.rc hp (ok.open_lt o) hd).mpr q
    unfold adjF
    rw [e, o, o2, z]; rfl
theorem dF_dP {g : gT} {R C : Nat} (ok : GOk g R C) {c e : Nat} (hc : tb (gO g) c = true) (he : tb (gO g) e = true) : dF g R C c e = dP g R C e c := by
  have h1 := fw_cert ok (ok.open_lt hc)
  have h2 := pu_cert ok (ok.open_lt he)
  have k : ∀ j, j ≤ 64 → (dF g R C c e ≤ j ↔ dP g R C e c ≤ j) := fun j hj => by
    rw [← h1.lv hj]
    show _ ↔ (bfR (adjP g R C) e).2.2 c ≤ j
    rw [← h2.lv hj, Lv.wk, Lv.wk]
    constructor
    · rintro ⟨i, hi, w⟩; exact ⟨i, hi, (pull_back ok hc he).mp w⟩
    · rintro ⟨i, hi, w⟩; exact ⟨i, hi, (pull_back ok hc he).mpr w⟩
  have o2 : dP g R C e c < 64 ∨ dP g R C e c = 99 := h2.2.2.2 c
  rcases h1.2.2.2 e with a1 | a1 <;> rcases o2 with a2 | a2
  · have := (k _ (by omega)).mp (Nat.le_refl _)
    have := (k _ (by omega)).mpr (Nat.le_refl _)
    omega
  · have := (k _ (by omega)).mp (Nat.le_refl _); omega
  · have := (k _ (by omega)).mpr (Nat.le_refl _); omega
  · omega
theorem le_mn {g : gT} {R C : Nat} (ok : GOk g R C) {c : Nat} (hc : tb (gO g) c = true) {T : Int64} (hT : ∀ e, tb T e = true → tb (gO g) e = true) : gLe g (jshl 1 (nI c)) T = sz (mnT (tb T) (fun e => dP g R C e c) (R * C)) := by
  have hcl := ok.open_lt hc
  have cert := fw_cert ok hcl
  obtain ⟨m1, m2⟩ := mnT_ok (T := tb T) (f := fun e => dP g R C e c) (fun e he => dP_or g R C e c (tb_lt (hT e he))) (R * C)
  rcases m2 with z | ⟨e, h1, h2, h3, h4⟩
  · rw [z]
    refine le_none ok hcl cert fun e he => ?_
    rw [dF_dP ok hc (hT e he)]
    have := m1 e (ok.open_lt (hT e he)) he
    rw [z] at this; omega
  · rw [← h3, sz_nI h4]
    refine le_hit ok hcl cert h4 ⟨e, h2, dF_dP ok hc (hT e h2)⟩ fun x hx => ?_
    rw [dF_dP ok hc (hT x hx)]
    have := m1 x (ok.open_lt (hT x hx)) hx
    rw [← h3] at this; exact this
