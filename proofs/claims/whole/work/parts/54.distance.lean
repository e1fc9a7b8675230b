/-! the model's distance -/
theorem sz_le {a b : Nat} (ha : a < 64) (hb : b < 64) : sz a ≤ sz b ↔ a ≤ b := by
  rw [sz_nI ha, sz_nI hb]; exact nI_leI (by omega) (by omega)
theorem mn_step {a b : Nat} (ha : a < 64 ∨ a = 99) (hb : b < 64 ∨ b = 99) : (if sz b < 0 then sz a else if sz a < 0 then sz b else if sz a ≤ sz b then sz a else sz b) = sz (min a b) := by
  have la := sz_lt0 ha
  have lb := sz_lt0 hb
  rcases hb with h | h
  · rw [if_neg (fun z => by have := lb.mp z; omega)]
    rcases ha with q | q
    · rw [if_neg (fun z => by have := la.mp z; omega)]
      by_cases w : a ≤ b
      · rw [if_pos ((sz_le q h).mpr w), Nat.min_eq_left w]
      · rw [if_neg (fun z => w ((sz_le q h).mp z)), Nat.min_eq_right (by omega)]
    · rw [if_pos (la.mpr (by omega)), Nat.min_eq_right (by omega)]
  · rw [if_pos (lb.mpr (by omega)), Nat.min_eq_left (by omega)]
theorem mnT_or {T : Nat → Bool} {f : Nat → Nat} (hf : ∀ e, T e = true → f e < 64 ∨ f e = 99) (n : Nat) : mnT T f n < 64 ∨ mnT T f n = 99 := by
  rcases (mnT_ok hf n).2 with z | ⟨e, _, _, h1, h2⟩
  · exact Or.inr z
  · exact Or.inl (by omega)
theorem ds_loop {g : gT} {R C : Nat} (ok : GOk g R C) {N : Nat} (hN : 10000 ≤ N) {c : Nat} (hc : c < R * C) {v : Int32} {T : Int64} (hT : ∀ e, tb T e = true → tb (gO g) e = true) (hv : (v = -1 ∧ T = gG g) ∨ ∃ gl, gl < 64 ∧ v = nI gl ∧ T = jshl 1 (nI gl)) : ∀ (m e n : Nat) (t : xT), e + m = R * C → GR (ra t 1) g R C → ∃ u, f_distance_L N (n + 1 + m) (nI c) v (sz (mnT (tb T) (fun x => dP g R C x c) e)) (nI e) t = (if mnT (tb T) (fun x => dP g R C x c) (R * C) < 64 then some (sz (mnT (tb T) (fun x => dP g R C x c) (R * C)), u) else some (0, ws u 9 3)) ∧ Frm [8, 6] [16] t u := by
  intro m
  have hle := ok.rc.le
  have or := mnT_or (T := tb T) (f := fun x => dP g R C x c) fun e he => dP_or g R C e c (tb_lt (hT e he))
  induction m with
  | zero =>
    intro e n t he hM
    have : e = R * C := by omega
    subst this
    refine ⟨t, ?_, Frm.rf⟩
    rw [Nat.add_zero, u_distance_94, m_size hM, if_pos (nI_le (Nat.le_refl _) (by omega))]
    have s := sz_neg (or (R * C))
    by_cases z : mnT (tb T) (fun x => dP g R C x c) (R * C) < 64
    · rw [if_pos (s.mpr z), if_pos z]; rfl
    · rw [if_neg (fun w => z (s.mp w)), if_neg z]; rfl
  | succ m ih =>
    intro e n t he hM
    have hel : e < R * C := by omega
    have cc : (nI c).toNatClampNeg = c := nI_clamp (by omega)
    have bc := inB_nI (show c < 64 by omega) (show 64 < 2 ^ 31 by decide)
    obtain ⟨u, e1, f1, q1⟩ := s_pu ok hM hel hN
    have q1c := q1 c hc
    have go : (Option.bind (some (sz (min (mnT (tb T) (fun x => dP g R C x c) e) (dP g R C e c)), u)) fun (r_105 : Int32 × xT) => f_distance_L N (n + 1 + m) (nI c) v r_105.1 (nI (e + 1)) r_105.2) = f_distance_L N (n + 1 + m) (nI c) v (sz (min (mnT (tb T) (fun x => dP g R C x c) e) (dP g R C e c))) (nI (e + 1)) u := rfl
    have inner : (if inB (nI c) 64 = true then (Option.bind (if ((ra u 8) (Int32.toNatClampNeg (nI c))) < 0 then (some (sz (mnT (tb T) (fun x => dP g R C x c) e)))
              else (if (sz (mnT (tb T) (fun x => dP g R C x c) e)) < 0 then (if inB (nI c) 64 = true then (some ((ra u 8) (Int32.toNatClampNeg (nI c)))) else none)
                else (if inB (nI c) 64 = true then (if (sz (mnT (tb T) (fun x => dP g R C x c) e)) ≤ ((ra u 8) (Int32.toNatClampNeg (nI c))) then (some (sz (mnT (tb T) (fun x => dP g R C x c) e)))
                  else (if inB (nI c) 64 = true then (some ((ra u 8) (Int32.toNatClampNeg (nI c)))) else none)) else none))) fun (r_141 : Int32) =>
            some (r_141, u)) else none) = some (sz (min (mnT (tb T) (fun x => dP g R C x c) e) (dP g R C e c)), u) := by
      simp only [bc, if_true, cc, q1c]
      rw [← mn_step (or e) (dP_or g R C e c (by omega))]
      split
      · rfl
      · split
        · rfl
        · split <;> rfl
    have key : ∃ u, f_distance_L N (n + 1 + (m + 1)) (nI c) v (sz (mnT (tb T) (fun x => dP g R C x c) e)) (nI e) t = f_distance_L N (n + 1 + m) (nI c) v (sz (mnT (tb T) (fun x => dP g R C x c) (e + 1))) (nI (e + 1)) u ∧ Frm [8, 6] [16] t u := by
      rw [show n + 1 + (m + 1) = n + 1 + m + 1 by omega, u_distance_94, m_size hM, if_neg (nI_ge hel (by omega)), nI_1]
      have mn : mnT (tb T) (fun x => dP g R C x c) (e + 1) = if tb T e = true then min (mnT (tb T) (fun x => dP g R C x c) e) (dP g R C e c) else mnT (tb T) (fun x => dP g R C x c) e := rfl
      rw [mn]
      rcases hv with ⟨h1, h2⟩ | ⟨gl, h0, h1, h2⟩
      · rw [if_pos h1, m_goal ok hM (by omega), Option.bind_some, h2]
        cases hg : tb (gG g) e with
        | false => exact ⟨t, by simp only [b0f, if_true, Bool.false_eq_true, if_false]; rfl, Frm.rf⟩
        | true =>
          refine ⟨u, ?_, f1⟩
          rw [h2] at inner
          simp only [b0t, if_false, if_true]
          rw [e1, Option.bind_some, inner]; rfl
      · have nm : ¬ v = -1 := by
          rw [h1]; intro z
          have := nI_pos (n := gl) (by omega)
          rw [z] at this; exact this (by decide)
        rw [if_neg nm, h1]
        by_cases z : e = gl
        · subst z
          have tt : tb T e = true := by rw [h2]; exact (bit_eq ok.rc hel e).mpr rfl
          rw [if_pos rfl, e1, Option.bind_some, inner, tt]
          exact ⟨u, by simp only [if_true]; rfl, f1⟩
        · have tt : tb T e = false := by
            rw [h2, tb_bit h0 (by omega)]; exact decide_eq_false z
          rw [if_neg (nI_ne (by omega) (by omega) z), tt]
          exact ⟨t, by simp only [Bool.false_eq_true, if_false]; rfl, Frm.rf⟩
    obtain ⟨w, k1, k2⟩ := key
    obtain ⟨x, k3, k4⟩ := ih (e + 1) n w (by omega) (hM.of (k2.a 1 rfl))
    exact ⟨x, by rw [k1, k3], k2.trans k4⟩
/-! the bound: the class's rows -/
def OkV (B V : Nat) (s : Nat → Int32) : Prop := ∀ x, x ≤ V → s x = -1 ∨ ∃ k, k ≤ B ∧ s x = nI k
def rsN (v k : Nat) : Nat := if v.testBit k then v - 2 ^ k else v
theorem rs_t : ∀ v, v < 32 → ∀ k, k < 5 → (nI v &&& ((1 <<< (nI k &&& 31)) ^^^ (-1)) = nI (rsN v k)) ∧ rsN v k < 32 ∧ (((nI v >>> (nI k &&& 31)) &&& 1 = 0) ↔ rsN v k = v) := by decide +kernel
theorem rsN_le (v k : Nat) : rsN v k ≤ v := by
  unfold rsN
  split
  · exact Nat.sub_le _ _
  · exact Nat.le_refl _
theorem m1_nI {k : Nat} (h : k < 2 ^ 31) : ¬ nI k = -1 := by
  intro z
  have := nI_pos h
  rw [z] at this; exact this (by decide)
theorem oTo_eq {B V : Nat} (hV : V < 32) {s : Nat → Int32} (hB : B < 2 ^ 30) (hs : OkV B V s) {v k : Nat} (hv : v ≤ V) (hk : k < 5) {δ : Nat} (hδ : δ < 64 ∨ δ = 99) : (∀ x, oTo s (nI k) (nI v) (sz δ) x = if δ < 64 ∧ ¬ s (rsN v k) = -1 ∧ (s v = -1 ∨ ¬ s v ≤ s (rsN v k) + sz δ) ∧ x = v then s (rsN v k) + sz δ else s x) ∧ OkV (B + 64) V (oTo s (nI k) (nI v) (sz δ)) := by
  obtain ⟨r1, r2, r3⟩ := rs_t v (by omega) k hk
  have r4 := rsN_le v k
  have hv32 : v < 32 := by omega
  have e : ∀ x, oTo s (nI k) (nI v) (sz δ) x = if δ < 64 ∧ ¬ s (rsN v k) = -1 ∧ (s v = -1 ∨ ¬ s v ≤ s (rsN v k) + sz δ) ∧ x = v then s (rsN v k) + sz δ else s x := by
    intro x
    unfold oTo
    rw [r1, intAt_at r2 (by decide), intAt_at hv32 (by decide), setI_at hv32 (by decide)]
    by_cases h1 : s (rsN v k) = -1
    · rw [if_pos h1, if_neg (fun z => z.2.1 h1)]
    · rw [if_neg h1]
      rcases hδ with h2 | h2
      · have h3 : ¬ sz δ = -1 := by rw [sz_nI h2]; exact m1_nI (by omega)
        rw [if_neg h3]
        by_cases h4 : s v = -1
        · rw [if_pos h4]
          by_cases h5 : x = v
          · rw [if_pos ⟨h2, h1, Or.inl h4, h5⟩, h5, pk_us]
          · rw [if_neg (fun z => h5 z.2.2.2), pk_un h5]
        · rw [if_neg h4]
          by_cases h6 : s v ≤ s (rsN v k) + sz δ
          · rw [if_pos h6, if_neg]
            rintro ⟨_, _, z | z, _⟩
            · exact h4 z
            · exact z h6
          · rw [if_neg h6]
            by_cases h5 : x = v
            · rw [if_pos ⟨h2, h1, Or.inr h6, h5⟩, h5, pk_us]
            · rw [if_neg (fun z => h5 z.2.2.2), pk_un h5]
      · subst h2
        rw [if_pos sz_99, if_neg (fun z => by omega)]
  refine ⟨e, fun x hx => ?_⟩
  rw [e x]
  split
  · rename_i q
    obtain ⟨q1, q2, _, _⟩ := q
    rcases hs (rsN v k) (by omega) with z | ⟨a, h1, h2⟩
    · exact absurd z q2
    · refine Or.inr ⟨a + δ, by omega, ?_⟩
      rw [h2, sz_nI q1, nI_add]
  · rcases hs x hx with z | ⟨a, h1, h2⟩
    · exact Or.inl z
    · exact Or.inr ⟨a, by omega, h2⟩
theorem OkV.lt0 {B V : Nat} {s : Nat → Int32} (hB : B < 2 ^ 30) (hs : OkV B V s) {x : Nat} (hx : x ≤ V) : (s x < 0) ↔ s x = -1 := by
  rcases hs x hx with z | ⟨a, h1, h2⟩
  · rw [z]; decide
  · rw [h2]
    exact ⟨fun z => absurd z (nI_pos (by omega)), fun z => absurd z (m1_nI (by omega))⟩
/-- the class's sums, one place of a set -/
def ofS (d : Nat → Int32) (goal set : Int32) (k : Nat) (s : Nat → Int32) : Nat → Int32 := if (set >>> (nI k &&& 31)) &&& 1 = 0 then s else oTo s (nI k) set (intAtF 320 d (64 * nI k + goal))
theorem of1_s (d : Nat → Int32) (goal set : Int32) (n k : Nat) (s : Nat → Int32) : of1 d goal set (n + 1) k s = of1 d goal set n (k + 1) (ofS d goal set k s) := rfl
theorem om_step {t : xT} {B V : Nat} (hV : V < 32) {s : Nat → Int32} (hB : B < 2 ^ 30) (hs : OkV B V s) (h12 : ∀ x, x ≤ V → ra t 12 x = s x) {v k c e : Nat} (hv : v ≤ V) (hk : k < 5) (hc : c < 64) {δ : Nat} (hδ : δ < 64 ∨ δ = 99) (h8 : ra t 8 c = sz δ) {d : Nat → Int32} (hd : intAtF 320 d (64 * nI k + nI e) = sz δ) : ∃ u, (Option.bind (if (nI v &&& ((1 <<< (nI k &&& 31)) ^^^ (-1))) = nI v then (some (0 : Int32))
              else (if inB (nI c) 64 = true then (if ((ra t 8) (Int32.toNatClampNeg (nI c))) < 0 then (some (0 : Int32))
                else (if inB (nI v &&& ((1 <<< (nI k &&& 31)) ^^^ (-1))) 32 = true then (if ((ra t 12) (Int32.toNatClampNeg (nI v &&& ((1 <<< (nI k &&& 31)) ^^^ (-1))))) < 0 then (some (0 : Int32))
                  else (some (1 : Int32))) else none)) else none)) fun (r_44 : Int32) =>
            Option.bind (if r_44 = 0 then (some t)
              else (if inB (nI v) 32 = true then (if ((ra t 12) (Int32.toNatClampNeg (nI v))) < 0 then (if inB (nI v &&& ((1 <<< (nI k &&& 31)) ^^^ (-1))) 32 = true then (if inB (nI c) 64 = true then (if inB (nI v) 32 = true then (Option.bind (some (wa t 12 (upd (ra t 12) (Int32.toNatClampNeg (nI v)) (((ra t 12) (Int32.toNatClampNeg (nI v &&& ((1 <<< (nI k &&& 31)) ^^^ (-1))))) + ((ra t 8) (Int32.toNatClampNeg (nI c))))))) fun t_132 =>
                  some t_132) else none) else none) else none)
                else (if inB (nI v &&& ((1 <<< (nI k &&& 31)) ^^^ (-1))) 32 = true then (if inB (nI c) 64 = true then (if inB (nI v) 32 = true then (if ((ra t 12) (Int32.toNatClampNeg (nI v))) ≤ (((ra t 12) (Int32.toNatClampNeg (nI v &&& ((1 <<< (nI k &&& 31)) ^^^ (-1))))) + ((ra t 8) (Int32.toNatClampNeg (nI c)))) then (some t)
                  else (if inB (nI v &&& ((1 <<< (nI k &&& 31)) ^^^ (-1))) 32 = true then (if inB (nI c) 64 = true then (if inB (nI v) 32 = true then (Option.bind (some (wa t 12 (upd (ra t 12) (Int32.toNatClampNeg (nI v)) (((ra t 12) (Int32.toNatClampNeg (nI v &&& ((1 <<< (nI k &&& 31)) ^^^ (-1))))) + ((ra t 8) (Int32.toNatClampNeg (nI c))))))) fun t_132 =>
                    some t_132) else none) else none) else none)) else none) else none) else none)) else none)) fun (r_76 : xT) =>
            some ((nI k + 1), r_76)) = some (nI (k + 1), u) ∧ Frm [12] [] t u ∧ (∀ x, x ≤ V → ra u 12 x = ofS d (nI e) (nI v) k s x) ∧ OkV (B + 64) V (ofS d (nI e) (nI v) k s) := by
  obtain ⟨r1, r2, r3⟩ := rs_t v (by omega) k hk
  have r4 := rsN_le v k
  have hv32 : v < 32 := by omega
  have up : OkV (B + 64) V s := fun x hx => by
    rcases hs x hx with z | ⟨a, h1, h2⟩
    · exact Or.inl z
    · exact Or.inr ⟨a, by omega, h2⟩
  have cv : (nI v).toNatClampNeg = v := nI_clamp (by omega)
  have cr : (nI (rsN v k)).toNatClampNeg = rsN v k := nI_clamp (by omega)
  have cc : (nI c).toNatClampNeg = c := nI_clamp (by omega)
  unfold ofS
  rw [r1, nI_1, hd]
  by_cases z : rsN v k = v
  · rw [if_pos (by rw [z]), if_pos (r3.mpr z)]
    exact ⟨t, rfl, Frm.rf, h12, up⟩
  · rw [if_neg (fun q => z ((nI_eq (by omega) (by omega)).mp q)), if_neg (fun q => z (r3.mp q))]
    obtain ⟨o1, o2⟩ := oTo_eq hV hB hs hv hk hδ
    simp only [inB_nI hc (show 64 < 2 ^ 31 by decide), inB_nI r2 (show 32 < 2 ^ 31 by decide), inB_nI hv32 (show 32 < 2 ^ 31 by decide), if_true, cv, cr, cc, h8, h12 v hv, h12 (rsN v k) (by omega)]
    have l1 := hs.lt0 hB hv
    have l2 := hs.lt0 hB (x := rsN v k) (by omega)
    have l3 := sz_lt0 hδ
    have same : (∀ x, oTo s (nI k) (nI v) (sz δ) x = s x) → ∃ u, (Option.bind (some t) fun (r_76 : xT) => some (nI (k + 1), r_76)) = some (nI (k + 1), u) ∧ Frm [12] [] t u ∧ (∀ x, x ≤ V → ra u 12 x = oTo s (nI k) (nI v) (sz δ) x) ∧ OkV (B + 64) V (oTo s (nI k) (nI v) (sz δ)) := fun h => ⟨t, rfl, Frm.rf, fun x hx => by rw [h x]; exact h12 x hx, o2⟩
    have new : (∀ x, oTo s (nI k) (nI v) (sz δ) x = if x = v then s (rsN v k) + sz δ else s x) → ∃ u, (Option.bind (some (wa t 12 (upd (ra t 12) v (s (rsN v k) + sz δ)))) fun (r_76 : xT) => some (nI (k + 1), r_76)) = some (nI (k + 1), u) ∧ Frm [12] [] t u ∧ (∀ x, x ≤ V → ra u 12 x = oTo s (nI k) (nI v) (sz δ) x) ∧ OkV (B + 64) V (oTo s (nI k) (nI v) (sz δ)) := fun h => ⟨_, rfl, Frm.wa Frm.rf (by decide) _, fun x hx => by
      rw [h x, ra_wa, if_pos rfl]
      by_cases w : x = v
      · rw [if_pos w, w, pk_us]
      · rw [if_neg w, pk_un w]; exact h12 x hx, o2⟩
    by_cases h1 : sz δ < 0
    · simp only [h1, if_true, Option.bind_some]
      exact same fun x => by rw [o1 x, if_neg (fun q => by have := l3.mp h1; omega)]
    · have hδ' : δ < 64 := by
        rcases hδ with q | q
        · exact q
        · exact absurd (l3.mpr (by omega)) h1
      simp only [h1, if_false]
      by_cases h2 : s (rsN v k) < 0
      · simp only [h2, if_true, Option.bind_some]
        exact same fun x => by rw [o1 x, if_neg (fun q => q.2.1 (l2.mp h2))]
      · have h2' : ¬ s (rsN v k) = -1 := fun q => h2 (l2.mpr q)
        simp only [h2, if_false, Option.bind_some, o0]
        by_cases h3 : s v < 0
        · simp only [h3, if_true, Option.bind_some]
          refine new fun x => ?_
          rw [o1 x]
          by_cases w : x = v
          · rw [if_pos w, if_pos ⟨hδ', h2', Or.inl (l1.mp h3), w⟩]
          · rw [if_neg w, if_neg (fun q => w q.2.2.2)]
        · simp only [h3, if_false]
          by_cases h4 : s v ≤ s (rsN v k) + sz δ
          · simp only [h4, if_true, Option.bind_some]
            refine same fun x => ?_
            rw [o1 x, if_neg]
            rintro ⟨_, _, q | q, _⟩
            · exact h3 (l1.mpr q)
            · exact q h4
          · simp only [h4, if_false, Option.bind_some]
            refine new fun x => ?_
            rw [o1 x]
            by_cases w : x = v
            · rw [if_pos w, if_pos ⟨hδ', h2', Or.inr h4, w⟩]
            · rw [if_neg w, if_neg (fun q => w q.2.2.2)]
