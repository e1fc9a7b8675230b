/-! playing a text of steps: the whole text -/
def DA (d a : Nat) : Prop := (d = 0 ∧ a = 0) ∨ (d = 1 ∧ 1 ≤ a ∧ a ≤ 9) ∨ (d = 2 ∧ 10 ≤ a ∧ a ≤ 99)
theorem dig_t : ∀ a, a < 10 → ∀ e, e < 10 → nI a * 10 + (nI (48 + e) - 48) = nI (10 * a + e) ∧ (10 * nI a + nI (48 + e)) - 48 = nI (10 * a + e) := by decide +kernel
theorem mx_t : ∀ a, a < 100 → mxF (nI a) = nI (if a = 0 then 1 else a) ∧ (if nI a = 0 then (some (1 : Int32)) else some (nI a)) = some (nI (if a = 0 then 1 else a)) := by decide +kernel
theorem pl_ok {N : Nat} {c : cT} {t : xT} {R C p0 n0 : Nat} (X : cT) {f : Nat → Int32} {len : Nat} (hX : (tI X).1 = f) : ∀ n k a d q p1 n1 r t1, k + n = len → TX f len t1 → fsL f (nI len) n k (nI d) = -1 → DA d a → CW c t t1 q R C p0 n0 p1 n1 → n1 ≤ n0 + 99 * k →
   (∃ q' p' n' u, f_play_L N (r + 1 + 101 * n) 81 (nI len) (nI (n1 - n0)) (nI a) (nI k) 0 t1 = plTail N (nI (n' - n0)) u ∧ plL n k (nI a) (wG X q) = (true, wG X q') ∧ CW c t u q' R C p0 n0 p' n' ∧ Frm [1] [26] t1 u) ∨
   (∃ q' p' n' u e d', f_play_L N (r + 1 + 101 * n) 81 (nI len) (nI (n1 - n0)) (nI a) (nI k) 0 t1 = plFail N (nI (n' - n0)) e u ∧ n' ≤ n0 + 99 * len ∧ plL n k (nI a) (wG X q) = (false, keT (wG X q') e d') ∧ CW c t u q' R C p0 n0 p' n' ∧ Frm [1] [26] t1 u ∧ rs u 26 = d') := by
  intro n
  induction n with
  | zero =>
    intro k a d q p1 n1 r t1 hk hT hfs hda w hn
    refine Or.inl ⟨q, p1, n1, t1, ?_, rfl, w, Frm.rf⟩
    rw [Nat.mul_zero, Nat.add_zero, u_play_81, if_pos (nI_le (show len ≤ k by omega) (by have := hT.1; omega))]; rfl
  | succ n ih =>
    intro k a d q p1 n1 r t1 hk hT hfs hda w hn
    have hl := hT.1
    have w2 : n0 ≤ 400 := w.2.1
    have w7 : n0 ≤ n1 := w.2.2.2.2.2.2.1
    obtain ⟨e5, ch, c1, c2⟩ := hT.2 k (by omega)
    obtain ⟨ct, i48, i49, d0, d1, d2⟩ := ch_t ch c1
    have ia : iAt f (nI k) = nI ch := by rw [iAt_k f (by omega), c2]
    have pc : ∀ q', plC (wG X q') k = sIx LET (nI ch) := fun q' => by
      unfold plC
      show sIx LET (iAt (tI X).1 (nI k)) = _
      rw [hX, ia]
    rw [show r + 1 + 101 * (n + 1) = r + 100 + 1 + 101 * n + 1 by omega, u_play_81, if_neg (nI_ge (show k < len by omega) (by omega)), if_pos (inB_nI (show k < 80 by omega) (by decide)), nI_clamp (by omega), e5, c2, i48, Option.bind_some, if_pos (inB_nI (show k < 80 by omega) (by decide))]
    unfold fsL at hfs
    rw [ia] at hfs
    cases hdg : (decide (48 ≤ ch) && decide (ch ≤ 57)) with
    | true =>
      have hdg' := hdg
      rw [and_t, decide_eq_true_iff, decide_eq_true_iff] at hdg'
      have sx : sIx LET (nI ch) < 0 := by
        rcases ct with ⟨s, _⟩ | ⟨_, _, _, _, _, s⟩
        · exact s
        · omega
      rw [if_pos sx] at hfs
      have nk : ¬ nI k = (-1 : Int32) := fun z => nI_pos (show k < 2 ^ 31 by omega) (by rw [z]; decide)
      obtain ⟨a', d', ea, eb, ed, hda', hdg3⟩ : ∃ a' d', nI a * 10 + (nI ch - 48) = nI a' ∧ (10 * nI a + nI ch) - 48 = nI a' ∧ nI d + 1 = nI d' ∧ DA d' a' ∧ digF (nI ch) (nI d) = true := by
        obtain ⟨e, rfl⟩ : ∃ e, ch = 48 + e := ⟨ch - 48, by omega⟩
        rcases hda with ⟨rfl, rfl⟩ | ⟨rfl, x1, x2⟩ | ⟨rfl, x1, x2⟩
        · have hd0 : digF (nI (48 + e)) (nI 0) = true := by
            cases z : digF (nI (48 + e)) (nI 0) with
            | true => rfl
            | false => rw [z, if_neg (by decide)] at hfs; exact absurd hfs nk
          have hd1 : (decide (49 ≤ 48 + e) && decide (48 + e ≤ 57)) = true := d0.symm.trans hd0
          rw [and_t, decide_eq_true_iff, decide_eq_true_iff] at hd1
          have := dig_t 0 (by decide) e (by omega)
          exact ⟨10 * 0 + e, 1, this.1, this.2, rfl, Or.inr (Or.inl ⟨rfl, by omega, by omega⟩), hd0⟩
        · have := dig_t a (by omega) e (by omega)
          exact ⟨10 * a + e, 2, this.1, this.2, rfl, Or.inr (Or.inr ⟨rfl, by omega, by omega⟩), d1.trans hdg⟩
        · rw [show digF (nI (48 + e)) (nI 2) = false from d2, if_neg (by decide)] at hfs
          exact absurd hfs nk
      rw [hdg3, if_pos rfl, ed] at hfs
      have cl : plL (n + 1) k (nI a) (wG X q) = plL n (k + 1) (nI a') (wG X q) := by
        show (if 0 ≤ plC (wG X q) k then _ else plL n (k + 1) (nI a * 10 + (iAt (tI X).1 (nI k) - 48)) (wG X q)) = _
        rw [pc, if_neg (Int32.not_le.mpr sx), hX, ia, ea]
      rw [if_neg (show ¬ bI true = 0 by decide), eb, nI_1, cl]
      exact ih (k + 1) a' d' q p1 n1 (r + 100) t1 (by omega) hT hfs hda' w (by omega)
    | false =>
      have nk : ¬ nI k = (-1 : Int32) := fun z => nI_pos (show k < 2 ^ 31 by omega) (by rw [z]; decide)
      have ha : a < 100 := by
        rcases hda with ⟨rfl, rfl⟩ | ⟨rfl, x1, x2⟩ | ⟨rfl, x1, x2⟩ <;> omega
      rcases ct with ⟨s1, _⟩ | ⟨s1, s2, s3, s4, s5, _⟩
      · exfalso
        have : digF (nI ch) (nI d) = false := by
          rcases hda with ⟨rfl, rfl⟩ | ⟨rfl, x1, x2⟩ | ⟨rfl, x1, x2⟩
          · have : (decide (49 ≤ ch) && decide (ch ≤ 57)) = false := by
              cases z : (decide (49 ≤ ch) && decide (ch ≤ 57)) with
              | false => rfl
              | true =>
                rw [and_t, decide_eq_true_iff, decide_eq_true_iff] at z
                rw [decide_eq_true (show 48 ≤ ch by omega), decide_eq_true z.2] at hdg
                cases hdg
            exact d0.trans this
          · exact d1.trans hdg
          · exact d2
        rw [if_pos s1, this, if_neg (by decide)] at hfs
        exact nk hfs
      · rw [if_neg s1] at hfs
        obtain ⟨d', hd', ed⟩ := nI_range (n := 4) s2 s3 (by decide)
        obtain ⟨m1, m2⟩ := mx_t a ha
        have hM : (if a = 0 then 1 else a) ≤ 99 ∧ 1 ≤ (if a = 0 then 1 else a) := by split <;> omega
        generalize (if a = 0 then 1 else a) = M at m1 m2 hM
        have cl : plL (n + 1) k (nI a) (wG X q) = if (peL (nI d') (decide (nI ch < 97)) M (wG X q)).1 = true then plL n (k + 1) 0 (peL (nI d') (decide (nI ch < 97)) M (wG X q)).2 else (false, (peL (nI d') (decide (nI ch < 97)) M (wG X q)).2) := by
          show (if 0 ≤ plC (wG X q) k then (if (plP (wG X q) k (nI a)).1 = true then plL n (k + 1) 0 (plP (wG X q) k (nI a)).2 else (false, (plP (wG X q) k (nI a)).2)) else _) = _
          rw [pc, if_pos (Int32.not_lt.mp s1)]
          unfold plP
          rw [pc, s4, s5, ed, m1, nI_clamp (by omega)]
        rw [if_pos (show bI false = 0 from rfl), m2, Option.bind_some, cl]
        have := pe_ok (N := N) (c := c) (t := t) (R := R) (C := C) (p0 := p0) (n0 := n0) X (show k < len by omega) c2 hd' ed M 0 q p1 n1 (r + 99 - M + 1 + 101 * n) t1 hT w (by omega) (by omega)
        rw [show r + 99 - M + 1 + 101 * n + 1 + M = r + 100 + 1 + 101 * n by omega, Nat.zero_add, show nI 0 = (0 : Int32) from rfl] at this
        rcases this with ⟨q', p', u, b1, b2, b3, b4⟩ | ⟨q', p', n', u, e, d'', b1, b0, b2, b3, b4, b5⟩
        · rw [b1, b2, if_pos rfl]
          have := ih (k + 1) 0 0 q' p' (n1 + M) (r + 99 - M) u (by omega) (hT.frm (b4.a 5 rfl)) hfs (Or.inl ⟨rfl, rfl⟩) b3 (by omega)
          rcases this with ⟨q2, p2, n2, u2, z1, z2, z3, z4⟩ | ⟨q2, p2, n2, u2, e, d'', z1, z0, z2, z3, z4, z5⟩
          · exact Or.inl ⟨q2, p2, n2, u2, z1, z2, z3, b4.trans z4⟩
          · exact Or.inr ⟨q2, p2, n2, u2, e, d'', z1, z0, z2, z3, b4.trans z4, z5⟩
        · rw [b1, b2, if_neg (show ¬ ((false, keT (wG X q') e d'').1 = true) from fun z => Bool.noConfusion z)]
          exact Or.inr ⟨q', p', n', u, e, d'', rfl, by omega, rfl, b3, b4, b5⟩
