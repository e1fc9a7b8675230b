/-! how many goal rooms; the one with a number -/
def goC (g : gT) : Nat → Int64 → Nat
  | 0, _ => 0
  | n + 1, q => if q = 0 then 0 else (if bcF (enF g (gSp g (q &&& (-q)) (gG g))) = 1 then 1 else 0) + goC g n (q &&& (gSp g (q &&& (-q)) (gG g) ^^^ (-1)))
theorem goC_le (g : gT) : ∀ (n : Nat) (q : Int64), goC g n q ≤ n := by
  intro n
  induction n with
  | zero => intro q; exact Nat.le_refl _
  | succ n ih =>
    intro q
    unfold goC
    split
    · omega
    · have := ih (q &&& (gSp g (q &&& (-q)) (gG g) ^^^ (-1)))
      split <;> omega
theorem ga_area {g : gT} {R C : Nat} (ok : GOk g R C) {a : Nat} (hg : tb (gG g) a = true) (x : Nat) : tb (gSp g (jshl 1 (nI a)) (gG g)) x = decide ((bfR (adjG g R C) a).2.2 x < 64) := sp_cert ok (ok.sub_goal a hg) hg (ga_cert ok (ok.sub_goal a hg)) x
theorem ga_self {g : gT} {R C : Nat} (ok : GOk g R C) {a : Nat} (hg : tb (gG g) a = true) : tb (gSp g (jshl 1 (nI a)) (gG g)) a = true := by
  rw [ga_area ok hg, (bfR_ok (adj := adjG g R C) (a := a) (tb_lt hg)).1.2.2.1]; decide
theorem ga_goal {g : gT} {R C : Nat} (ok : GOk g R C) {a : Nat} (hg : tb (gG g) a = true) {x : Nat} (hx : tb (gSp g (jshl 1 (nI a)) (gG g)) x = true) : tb (gG g) x = true := by
  rw [ga_area ok hg, decide_eq_true_iff] at hx
  rcases (ga_cert ok (ok.sub_goal a hg)).2.1 x hx with z | ⟨p, _, z, _⟩
  · rw [z]; exact hg
  · exact z.1
theorem ga_closed {g : gT} {R C : Nat} (ok : GOk g R C) {a : Nat} (hg : tb (gG g) a = true) {x d : Nat} (hd : d < 4) (hx : tb (gSp g (jshl 1 (nI a)) (gG g)) x = true) (hn : tb (gG g) (nb R C x d) = true) : tb (gSp g (jshl 1 (nI a)) (gG g)) (nb R C x d) = true := by
  have gx := ok.sub_goal x (ga_goal ok hg hx)
  rw [ga_area ok hg, decide_eq_true_iff] at hx ⊢
  have c := ga_cert ok (ok.sub_goal a hg)
  have := c.2.2.1 x (nb R C x d) hx ⟨hn, ok.goal_open hn, opd d, opd_lt d, (nb_iff ok.rc gx (ok.sub_goal _ hn) hd).mp rfl⟩
  rcases c.2.2.2 (nb R C x d) with z | z
  · exact z
  · omega
theorem goL_ne {g : gT} {R C : Nat} (ok : GOk g R C) (r : Int32) : ∀ (n i : Nat) (q : Int64), (∀ x, tb q x = true → tb (gG g) x = true) → (goL g r n q (nI i) = 0 ↔ ∀ k, i ≤ k → k < i + goC g n q → ¬ r = nI k) := by
  intro n
  induction n with
  | zero =>
    intro i q hq
    constructor
    · intro _ k h1 h2; unfold goC at h2; omega
    · intro _; rfl
  | succ n ih =>
    intro i q hq
    unfold goL goC
    by_cases z : q = 0
    · rw [if_pos z, if_pos z]
      constructor
      · intro _ k h1 h2; omega
      · intro _; rfl
    · rw [if_neg z, if_neg z]
      obtain ⟨a, ha, h1, h2, h3, h4⟩ := low_ex z
      have hg := hq a h1
      have hq' : ∀ x, tb (q &&& (gSp g (q &&& (-q)) (gG g) ^^^ (-1))) x = true → tb (gG g) x = true := fun x hx => by
        rw [tb_and, and_t] at hx; exact hq x hx.1
      by_cases w : bcF (enF g (gSp g (q &&& (-q)) (gG g))) = 1
      · rw [if_pos w, if_pos w, nI_1]
        by_cases v : nI i = r
        · rw [if_pos v]
          constructor
          · intro y
            have := ga_self ok hg
            rw [← h4, y, tb_0] at this; cases this
          · intro y; exact absurd v.symm (y i (Nat.le_refl _) (by omega))
        · rw [if_neg v, ih (i + 1) _ hq']
          constructor
          · intro y k k1 k2
            by_cases u : k = i
            · rw [u]; intro e; exact v e.symm
            · exact y k (by omega) (by omega)
          · intro y k k1 k2; exact y k (by omega) (by omega)
      · rw [if_neg w, if_neg w, ih i _ hq', Nat.zero_add]
theorem hm_eq {g : gT} {R C : Nat} (ok : GOk g R C) : hmL g 64 0 = nI (goC g 64 (gG g)) := by
  have le := goC_le g 64 (gG g)
  have ne : ∀ k, k ≤ 64 → (goF g (nI k) = 0 ↔ ¬ k < goC g 64 (gG g)) := fun k hk => by
    have := goL_ne ok (nI k) 64 0 (gG g) (fun _ h => h)
    rw [nI_0] at this
    show goL g (nI k) 64 (gG g) 0 = 0 ↔ _
    rw [this]
    constructor
    · intro h w; exact h k (Nat.zero_le _) (by omega) rfl
    · intro h j h1 h2 e
      have := (nI_eq (by omega) (by omega)).mp e
      omega
  have : ∀ n k, k + n = 64 → k ≤ goC g 64 (gG g) → hmL g n k = nI (goC g 64 (gG g)) := by
    intro n
    induction n with
    | zero => intro k h1 h2; unfold hmL; congr 1; omega
    | succ n ih =>
      intro k h1 h2
      unfold hmL
      by_cases z : k < goC g 64 (gG g)
      · rw [if_neg (fun w => (ne k (by omega)).mp w z)]
        exact ih (k + 1) (by omega) (by omega)
      · rw [if_pos ((ne k (by omega)).mpr z)]
        congr 1; omega
  exact this 64 0 (by omega) (Nat.zero_le _)
theorem gl_loop {g : gT} {R C : Nat} (ok : GOk g R C) {N : Nat} (hN : 10000 ≤ N) (v : Int32) : ∀ (m c k j n : Nat) (t : xT) (M : Nat → Bool) (rest : Int64), c + m = R * C → j ≤ c → k ≤ j → GR (ra t 1) g R C → (∀ x, x < R * C → ra t 11 x = bI (M x)) → (∀ x, tb rest x = (tb (gG g) x && !M x)) → (∀ x, x < c → tb rest x = false) → (∀ x d, x < R * C → d < 4 → M x = true → tb (gG g) (nb R C x d) = true → M (nb R C x d) = true) → ∃ u, Frm [11, 6] [16, 24] t u ∧ ((goL g v (64 - j) rest (nI k) = 0 ∧ f_goalRooms_L N (n + 1 + m) 27 v (nI k) (nI c) t = some (nI (k + goC g (64 - j) rest), u)) ∨ (¬ goL g v (64 - j) rest (nI k) = 0 ∧ f_goalRooms_L N (n + 1 + m) 27 v (nI k) (nI c) t = some (v, u) ∧ (∃ a, tb (gG g) a = true ∧ goL g v (64 - j) rest (nI k) = gSp g (jshl 1 (nI a)) (gG g)) ∧ RF g u (goL g v (64 - j) rest (nI k)))) := by
  intro m
  have hle := ok.rc.le
  induction m with
  | zero =>
    intro c k j n t M rest hc hj hk hM hm hr hl hcl
    have z : rest = 0 := tb_eq0.mpr fun x _ => by
      by_cases z : x < c
      · exact hl x z
      · cases e : tb rest x with
        | false => rfl
        | true => rw [hr, and_t] at e; have := ok.sub_goal x e.1; omega
    have z1 : goL g v (64 - j) rest (nI k) = 0 := by
      rw [z]
      cases 64 - j with
      | zero => rfl
      | succ i => unfold goL; rw [if_pos rfl]
    have z2 : goC g (64 - j) rest = 0 := by
      rw [z]
      cases 64 - j with
      | zero => rfl
      | succ i => unfold goC; rw [if_pos rfl]
    refine ⟨t, Frm.rf, Or.inl ⟨z1, ?_⟩⟩
    rw [Nat.add_zero, u_goalRooms_27, m_size hM, if_pos (nI_le (by omega) (by omega)), z2]; rfl
  | succ m ih =>
    intro c k j n t M rest hc hj hk hM hm hr hl hcl
    have hcl2 : c < R * C := by omega
    have cc : (nI c).toNatClampNeg = c := nI_clamp (by omega)
    have bc := inB_nI (show c < 64 by omega) (show 64 < 2 ^ 31 by decide)
    have hrc := hr c
    rw [show n + 1 + (m + 1) = n + 1 + m + 1 by omega, u_goalRooms_27, m_size hM, if_neg (nI_ge hcl2 (by omega)), m_goal ok hM (by omega)]
    simp only [Option.bind_some, bI_ne0, bc, if_true, cc, hm c hcl2, nI_1]
    have skip : tb rest c = false → ∃ u, Frm [11, 6] [16, 24] t u ∧ ((goL g v (64 - j) rest (nI k) = 0 ∧ f_goalRooms_L N (n + 1 + m) 27 v (nI k) (nI (c + 1)) t = some (nI (k + goC g (64 - j) rest), u)) ∨ (¬ goL g v (64 - j) rest (nI k) = 0 ∧ f_goalRooms_L N (n + 1 + m) 27 v (nI k) (nI (c + 1)) t = some (v, u) ∧ (∃ a, tb (gG g) a = true ∧ goL g v (64 - j) rest (nI k) = gSp g (jshl 1 (nI a)) (gG g)) ∧ RF g u (goL g v (64 - j) rest (nI k)))) := fun z => ih (c + 1) k j n t M rest (by omega) (by omega) hk hM hm hr (fun x hx => by
      by_cases w : x = c
      · rw [w]; exact z
      · exact hl x (by omega)) hcl
    cases hg : tb (gG g) c with
    | false => rw [if_pos rfl]; exact skip (by rw [hrc, hg]; rfl)
    | true =>
      rw [if_neg (by decide)]
      cases hmc : M c with
      | true => rw [if_neg (by decide)]; exact skip (by rw [hrc, hmc]; simp)
      | false =>
        rw [if_pos rfl]
        obtain ⟨u, e, f, u11, urf⟩ := s_gathers ok hM hcl hg hmc hm hN
        rw [e, Option.bind_some]
        have hcr : tb rest c = true := by rw [hrc, hg, hmc]; rfl
        have lb := low_bit hcr hl
        have nz : ¬ rest = 0 := tb_ne0.mpr ⟨c, by omega, hcr⟩
        have e64 : 64 - j = (64 - (j + 1)) + 1 := by omega
        have uL : goL g v (64 - j) rest (nI k) = if bcF (enF g (gSp g (jshl 1 (nI c)) (gG g))) = 1 then (if nI k = v then gSp g (jshl 1 (nI c)) (gG g) else goL g v (64 - (j + 1)) (rest &&& (gSp g (jshl 1 (nI c)) (gG g) ^^^ (-1))) (nI k + 1)) else goL g v (64 - (j + 1)) (rest &&& (gSp g (jshl 1 (nI c)) (gG g) ^^^ (-1))) (nI k) := by
          rw [e64]
          conv => lhs; unfold goL
          rw [if_neg nz, lb]
        have uC : goC g (64 - j) rest = (if bcF (enF g (gSp g (jshl 1 (nI c)) (gG g))) = 1 then 1 else 0) + goC g (64 - (j + 1)) (rest &&& (gSp g (jshl 1 (nI c)) (gG g) ^^^ (-1))) := by
          rw [e64]
          conv => lhs; unfold goC
          rw [if_neg nz, lb]
        have next := fun (k' : Nat) (hk' : k' ≤ j + 1) => ih (c + 1) k' (j + 1) n u (fun x => M x || tb (gSp g (jshl 1 (nI c)) (gG g)) x) (rest &&& (gSp g (jshl 1 (nI c)) (gG g) ^^^ (-1))) (by omega) (by omega) hk' (hM.of (f.a 1 rfl)) u11 (fun x => by
            rw [tb_andn, hr x]
            cases tb (gG g) x <;> cases M x <;> cases tb (gSp g (jshl 1 (nI c)) (gG g)) x <;> rfl) (fun x hx => by
            rw [tb_andn]
            by_cases w : x = c
            · rw [w, ga_self ok hg]; simp
            · rw [hl x (by omega)]; rfl) (fun x d hx hd h1 h2 => by
            rw [or_t] at h1 ⊢
            rcases h1 with h1 | h1
            · exact Or.inl (hcl x d hx hd h1 h2)
            · exact Or.inr (ga_closed ok hg hd h1 h2))
        by_cases w : bcF (enF g (gSp g (jshl 1 (nI c)) (gG g))) = 1
        · rw [if_pos w] at uL uC
          rw [decide_eq_true w]
          simp only [b0t, if_false]
          by_cases y : nI k = v
          · rw [if_pos y] at uL
            rw [if_pos y, uL]
            refine ⟨u, f, Or.inr ⟨fun q => ?_, by rw [y], ⟨c, hg, rfl⟩, urf w⟩⟩
            have := ga_self ok hg
            rw [q, tb_0] at this; cases this
          · rw [if_neg y] at uL
            rw [if_neg y, uL, uC, nI_1]
            obtain ⟨x, f2, h⟩ := next (k + 1) (by omega)
            rw [show k + (1 + goC g (64 - (j + 1)) (rest &&& (gSp g (jshl 1 (nI c)) (gG g) ^^^ (-1)))) = k + 1 + goC g (64 - (j + 1)) (rest &&& (gSp g (jshl 1 (nI c)) (gG g) ^^^ (-1))) by omega]
            exact ⟨x, f.trans f2, h⟩
        · rw [if_neg w] at uL uC
          rw [decide_eq_false w]
          simp only [b0f, if_true]
          rw [uL, uC, Nat.zero_add]
          obtain ⟨x, f2, h⟩ := next k (by omega)
          exact ⟨x, f.trans f2, h⟩
theorem s_goalRooms {t : xT} {g : gT} {R C : Nat} (ok : GOk g R C) (hM : GR (ra t 1) g R C) {N : Nat} (hN : 10000 ≤ N) (v : Int32) : ∃ u, Frm [11, 6] [16, 24] t u ∧ ((goF g v = 0 ∧ f_goalRooms N t v = some (hmL g 64 0, u)) ∨ (¬ goF g v = 0 ∧ f_goalRooms N t v = some (v, u) ∧ (∃ a, tb (gG g) a = true ∧ goF g v = gSp g (jshl 1 (nI a)) (gG g)) ∧ RF g u (goF g v))) := by
  have hle := ok.rc.le
  have fill : ∀ (m c n : Nat) (t : xT), c + m = R * C → GR (ra t 1) g R C → (∀ x, x < c → ra t 11 x = 0) → ∃ u, f_goalRooms_L N (n + 1 + m) 4 v 0 (nI c) t = f_goalRooms_L N n 27 v 0 0 u ∧ Frm [11, 6] [16, 24] t u ∧ ∀ x, x < R * C → ra u 11 x = 0 := by
    intro m
    induction m with
    | zero =>
      intro c n t hc hM h
      refine ⟨t, ?_, Frm.rf, fun x hx => h x (by omega)⟩
      rw [Nat.add_zero, u_goalRooms_4, m_size hM, if_pos (nI_le (by omega) (by omega))]
    | succ m ih =>
      intro c n t hc hM h
      obtain ⟨u, e, f, q⟩ := ih (c + 1) n (wa t 11 (upd (ra t 11) c 0)) (by omega) hM fun x hx => by
        rw [ra_wa, if_pos rfl]
        by_cases z : x = c
        · rw [z, pk_us]
        · rw [pk_un z]; exact h x (by omega)
      refine ⟨u, ?_, (Frm.wa Frm.rf (by decide) _).trans f, q⟩
      rw [show n + 1 + (m + 1) = n + 1 + m + 1 by omega, u_goalRooms_4, m_size hM, if_neg (nI_ge (by omega) (by omega)), if_pos (inB_nI (by omega) (by decide)), Option.bind_some, nI_clamp (by omega), show vp_nar .boolean 0 = 0 from rfl, nI_1, e]
  unfold f_goalRooms
  obtain ⟨n, hn⟩ : ∃ n, N = (n + 1 + R * C) + 1 + R * C := ⟨N - (2 * (R * C) + 2), by omega⟩
  obtain ⟨u, e1, f1, q1⟩ := fill (R * C) 0 (n + 1 + R * C) t (by omega) hM fun x hx => by omega
  rw [nI_0, ← hn] at e1
  obtain ⟨w, f2, h⟩ := gl_loop ok hN v (R * C) 0 0 0 n u (fun _ => false) (gG g) (by omega) (by omega) (by omega) (hM.of (f1.a 1 rfl)) (fun x hx => q1 x hx) (fun x => by simp) (fun x hx => by omega) (fun x d _ _ h => by cases h)
  rw [nI_0, Nat.zero_add] at h
  rw [e1, hm_eq ok]
  exact ⟨w, f1.trans f2, h⟩
