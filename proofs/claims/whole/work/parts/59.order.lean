/-! the order of a goal room -/
def adjS (g : gT) (R C : Nat) (S : Int64) (c d : Nat) : Nat := if (tb S (nb R C c d) && tb (gO g) (nb R C c d)) = true then nb R C c d else 64
def dS (g : gT) (R C : Nat) (S : Int64) (a : Nat) : Nat → Nat := (bfR (adjS g R C S) a).2.2
theorem sS_cert {g : gT} {R C : Nat} (ok : GOk g R C) (S : Int64) {a : Nat} (ha : a < R * C) : Cert (AS g R C S) a (dS g R C S a) := by
  refine cert_of ha ok.rc.le (fun c d h => ?_) fun p c hp => ?_
  · unfold adjS at h ⊢
    split at h
    · rename_i q
      rw [if_pos q]
      rw [and_t] at q; exact ok.open_lt q.2
    · omega
  constructor
  · rintro ⟨hc, d, hd, q⟩
    unfold adjS at q
    split at q
    · rename_i z
      rw [q, and_t] at z
      exact ⟨z.1, z.2, opd d, opd_lt d, (nb_iff ok.rc hp (ok.open_lt z.2) hd).mp q⟩
    · omega
  · rintro ⟨z, o, d, hd, q⟩
    refine ⟨tb_lt o, opd d, opd_lt d, ?_⟩
    have e := (nb_iff ok.rc (ok.open_lt o) hp hd).mp q
    unfold adjS
    rw [e, z, o]; rfl
theorem Lv.sub {A B : Nat → Nat → Prop} {S : Nat → Prop} (h : ∀ p c, A p c → B p c) : ∀ {k c : Nat}, Lv A S k c → Lv B S k c := by
  intro k
  induction k with
  | zero => intro c q; exact q
  | succ k ih =>
    intro c q
    rcases q with q | ⟨p, q, a⟩
    · exact Or.inl (ih q)
    · exact Or.inr ⟨p, ih q, h p c a⟩
/-- from its one entrance the room is reached, and the way over open cells is no shorter -/
theorem ent_dist {g : gT} {R C : Nat} (ok : GOk g R C) {a : Nat} (hg : tb (gG g) a = true) {S : Int64} (hS : S = gSp g (jshl 1 (nI a)) (gG g)) {x : Nat} (hx : tb (enF g S) x = true) (hu : ∀ y, tb (enF g S) y = true → y = x) : ∀ c, tb S c = true → dS g R C S x c < 64 ∧ (bfR (adjO g R C) x).2.2 c = dS g R C S x c := by
  have gS : ∀ c, tb S c = true → tb (gG g) c = true := fun c hc => by rw [hS] at hc; exact ga_goal ok hg hc
  have cS : ∀ c d, d < 4 → tb S c = true → tb (gG g) (nb R C c d) = true → tb S (nb R C c d) = true := fun c d hd hc hn => by rw [hS] at hc ⊢; exact ga_closed ok hg hd hc hn
  have sub : Sub R C S := fun c hc => ok.sub_goal c (gS c hc)
  obtain ⟨xo, xg, dx, hdx, hxe⟩ := (en_tb ok sub x).mp hx
  have xl := ok.open_lt xo
  have c1 := sS_cert ok S xl
  have c2 := po_cert ok xl
  -- closed under neighbors, both ways
  have step : ∀ p c, tb S p = true → tb S c = true → (∃ d, d < 4 ∧ nb R C c d = p) → dS g R C S x p < 64 → dS g R C S x c < 64 := fun p c _ hc hd h => by
    have := c1.2.2.1 p c h ⟨hc, ok.goal_open (gS c hc), hd⟩
    rcases c1.2.2.2 c with z | z <;> omega
  have sym : ∀ p c, tb S p = true → tb S c = true → (∃ d, d < 4 ∧ nb R C c d = p) → ∃ d, d < 4 ∧ nb R C p d = c := fun p c hp hc ⟨d, hd, e⟩ => ⟨opd d, opd_lt d, (nb_iff ok.rc (sub c hc) (sub p hp) hd).mp e⟩
  have entry : dS g R C S x (nb R C x dx) < 64 := by
    have := c1.2.2.1 x (nb R C x dx) (by rw [c1.1]; decide) ⟨hxe, ok.goal_open (gS _ hxe), opd dx, opd_lt dx, (nb_iff ok.rc xl (sub _ hxe) hdx).mp rfl⟩
    rw [c1.1] at this; omega
  have all : ∀ k c, Lv (AS g R C (gG g)) (fun y => y = a) k c → tb S c = true ∧ (dS g R C S x c < 64 ↔ dS g R C S x a < 64) := by
    intro k
    induction k with
    | zero =>
      intro c h
      rw [show c = a from h]
      exact ⟨by rw [hS]; exact ga_self ok hg, Iff.rfl⟩
    | succ k ih =>
      intro c h
      rcases h with h | ⟨p, h, z1, z2, d, hd, z3⟩
      · exact ih c h
      · obtain ⟨hp, ip⟩ := ih p h
        have hc : tb S c = true := by
          have e := (nb_iff ok.rc (ok.open_lt z2) (sub p hp) hd).mp z3
          have := cS p (opd d) (opd_lt d) hp (by rw [e]; exact z1)
          rw [e] at this; exact this
        refine ⟨hc, ?_⟩
        rw [← ip]
        exact ⟨step c p hc hp (sym p c hp hc ⟨d, hd, z3⟩), step p c hp hc ⟨d, hd, z3⟩⟩
  have lv : ∀ c, tb S c = true → Lv (AS g R C (gG g)) (fun y => y = a) 64 c := fun c hc => by
    rw [hS, ga_area ok hg, decide_eq_true_iff] at hc
    exact ((ga_cert ok (ok.sub_goal a hg)).lv (Nat.le_refl 64)).mpr (by omega)
  have fin : ∀ c, tb S c = true → dS g R C S x c < 64 := fun c hc => by
    rw [(all 64 c (lv c hc)).2, ← (all 64 _ (lv _ hxe)).2]; exact entry
  refine fun c hc => ⟨fin c hc, ?_⟩
  -- no longer over open cells
  have le1 : ∀ k, k ≤ 64 → ∀ c, dS g R C S x c ≤ k → (bfR (adjO g R C) x).2.2 c ≤ k := fun k hk c h => by
    refine (c2.lv hk).mp ?_
    exact Lv.sub (fun p c z => ⟨z.2.1, z.2.1, z.2.2⟩) ((c1.lv hk).mpr h)
  have le2 : ∀ k, k ≤ 64 → ∀ c, tb S c = true → (bfR (adjO g R C) x).2.2 c ≤ k → dS g R C S x c ≤ k := by
    intro k
    induction k with
    | zero =>
      intro _ c hc h
      have : c = x := (c2.lv (by omega) (k := 0)).mpr h
      rw [this] at hc
      rw [gS x hc] at xg; cases xg
    | succ k ih =>
      intro hk c hc h
      rcases (c2.lv hk).mpr h with h | ⟨p, h, z1, z2, d, hd, z3⟩
      · have := ih (by omega) c hc ((c2.lv (by omega)).mp h); omega
      · have hp := (c2.lv (show k ≤ 64 by omega)).mp h
        have po : tb (gO g) p = true := by
          rcases Nat.lt_or_ge k 1 with w | w
          · have : k = 0 := by omega
            subst this
            rw [show p = x from h]; exact xo
          · by_cases v : p = x
            · rw [v]; exact xo
            · have p64 : (bfR (adjO g R C) x).2.2 p < 64 := by rcases c2.2.2.2 p with q | q <;> omega
              rcases c2.2.1 p p64 with q | ⟨_, _, q, _⟩
              · exact absurd q v
              · exact q.1
        have key : dS g R C S x p ≤ k := by
          cases hpg : tb (gG g) p with
          | true =>
            have hpS : tb S p = true := by
              have := cS c d hd hc (by rw [z3]; exact hpg)
              rw [z3] at this; exact this
            exact ih (by omega) p hpS hp
          | false =>
            have : p = x := hu p ((en_tb ok sub p).mpr ⟨po, hpg, opd d, opd_lt d, by
              rw [(nb_iff ok.rc (ok.open_lt z2) (ok.open_lt po) hd).mp z3]; exact hc⟩)
            rw [this, c1.1]; omega
        have := c1.2.2.1 p c (by omega) ⟨hc, ok.goal_open (gS c hc), d, hd, z3⟩
        omega
  have f1 := fin c hc
  have a1 := le1 _ (show dS g R C S x c ≤ 64 by omega) c (Nat.le_refl _)
  have a2 := le2 _ (show (bfR (adjO g R C) x).2.2 c ≤ 64 by omega) c hc (Nat.le_refl _)
  omega
/-! ranks -/
def bfo (s : Nat → Nat) (c c' : Nat) : Bool := decide (s c < s c') || (decide (s c' = s c) && decide (c' < c))
def rk (s : Nat → Nat) (S : Nat → Bool) (c : Nat) : Nat := fb_ct (fun c' => S c' && bfo s c c') 64
theorem bfo_t {s : Nat → Nat} {c c' : Nat} : bfo s c c' = true ↔ s c < s c' ∨ (s c' = s c ∧ c' < c) := by
  unfold bfo; rw [or_t, and_t, decide_eq_true_iff, decide_eq_true_iff, decide_eq_true_iff]
theorem rk_lt {s : Nat → Nat} {S : Nat → Bool} {c c' : Nat} (hS : S c = true) (hl : c < 64) (h : bfo s c' c = true) : rk s S c < rk s S c' := by
  have h' := bfo_t.mp h
  refine ct_lt (fun k _ hk => ?_) ⟨c, hl, ?_, ?_⟩
  · rw [and_t] at hk ⊢
    have := bfo_t.mp hk.2
    exact ⟨hk.1, bfo_t.mpr (by omega)⟩
  · rw [and_t]; exact ⟨hS, h⟩
  · cases e : (S c && bfo s c c) with
    | false => rfl
    | true => rw [and_t] at e; have := bfo_t.mp e.2; omega
theorem rk_inj {s : Nat → Nat} {S : Nat → Bool} {c c' : Nat} (hc : S c = true) (hc' : S c' = true) (hl : c < 64) (hl' : c' < 64) (h : rk s S c = rk s S c') : c = c' := by
  refine Classical.byContradiction fun z => ?_
  by_cases w : bfo s c' c = true
  · have := rk_lt hc hl w; omega
  · have : bfo s c c' = true := bfo_t.mpr (by
      have : ¬ (s c' < s c ∨ (s c = s c' ∧ c < c')) := fun q => w (bfo_t.mpr q)
      omega)
    have := rk_lt hc' hl' this; omega
theorem ct_map : ∀ (n : Nat) (q : Nat → Nat) (S P : Nat → Bool), (∀ i j, i < j → j < n → ¬ q i = q j) → (∀ j, j < n → q j < 64) → (∀ x, S x = true ↔ ∃ j, j < n ∧ q j = x) → fb_ct (fun j => P (q j)) n = fb_ct (fun x => S x && P x) 64 := by
  intro n
  induction n with
  | zero =>
    intro q S P _ _ h
    refine (fb_ct_zero.mpr fun k _ => ?_).symm
    cases e : S k with
    | false => rfl
    | true => obtain ⟨j, hj, _⟩ := (h k).mp e; omega
  | succ n ih =>
    intro q S P hi hl h
    have u := fb_ct_upd (fun x => S x && P x) false (i := q n) (n := 64) (hl n (by omega))
    have sn : S (q n) = true := (h _).mpr ⟨n, by omega, rfl⟩
    have r := ih q (fun k => if k = q n then false else S k) P (fun i j a b => hi i j a (by omega)) (fun j hj => hl j (by omega)) fun x => by
      constructor
      · intro z
        by_cases w : x = q n
        · simp only [w, if_true] at z; cases z
        · simp only [w, if_false] at z
          obtain ⟨j, hj, e⟩ := (h x).mp z
          refine ⟨j, ?_, e⟩
          rcases Nat.eq_or_lt_of_le (Nat.le_of_lt_succ hj) with v | v
          · rw [v] at e; exact absurd e.symm w
          · exact v
      · rintro ⟨j, hj, e⟩
        have : ¬ x = q n := fun w => hi j n hj (by omega) (e.trans w)
        simp only [this, if_false]
        exact (h x).mpr ⟨j, by omega, e⟩
    have e : (fun x => (if x = q n then false else S x) && P x) = fun k => if k = q n then false else (S k && P k) := by
      funext k; split <;> rfl
    rw [e] at r
    rw [fb_ct_succ, r]
    rw [sn, Bool.true_and] at u
    simp only [Bool.false_eq_true, if_false, Nat.add_zero] at u
    exact u
/-! the class's walk through the layers -/
def Bk (s : Nat → Nat) (S : Nat → Bool) (i k : Nat) : Nat := fb_ct (fun c' => S c' && (decide (i < s c') || (decide (s c' = i) && decide (c' < k)))) 64
theorem Bk_succ {s : Nat → Nat} {S : Nat → Bool} {i k : Nat} (hk : k < 64) (hS : s k = i → S k = true) : Bk s S i (k + 1) = Bk s S i k + if s k = i then 1 else 0 := by
  have u := fb_ct_upd (fun c' => S c' && (decide (i < s c') || (decide (s c' = i) && decide (c' < k)))) (S k && (decide (i < s k) || decide (s k = i))) hk
  have e : (fun c' => if c' = k then (S k && (decide (i < s k) || decide (s k = i))) else (S c' && (decide (i < s c') || (decide (s c' = i) && decide (c' < k))))) = fun c' => S c' && (decide (i < s c') || (decide (s c' = i) && decide (c' < k + 1))) := by
    funext c'
    by_cases z : c' = k
    · subst z; rw [if_pos rfl]; simp
    · rw [if_neg z]
      have : decide (c' < k) = decide (c' < k + 1) := decide_eq_decide.mpr (by omega)
      rw [this]
  rw [e] at u
  unfold Bk
  by_cases z : s k = i
  · rw [if_pos z]
    have h1 : (S k && (decide (i < s k) || (decide (s k = i) && decide (k < k)))) = false := by
      rw [decide_eq_false (show ¬ i < s k by omega), decide_eq_false (Nat.lt_irrefl k)]; simp
    have h2 : (S k && (decide (i < s k) || decide (s k = i))) = true := by
      rw [hS z, decide_eq_true z]; simp
    rw [h1, h2] at u
    simp only [Bool.false_eq_true, if_false, if_true, Nat.add_zero] at u
    exact u
  · rw [if_neg z, Nat.add_zero]
    have h1 : (S k && (decide (i < s k) || (decide (s k = i) && decide (k < k)))) = (S k && (decide (i < s k) || decide (s k = i))) := by
      rw [decide_eq_false z]; simp
    rw [h1] at u
    omega
theorem Bk_rk {s : Nat → Nat} {S : Nat → Bool} {k : Nat} : Bk s S (s k) k = rk s S k := rfl
theorem gaI_ok {f : Nat → Int64} {z : Int32} {s : Nat → Nat} {S : Nat → Bool} {i : Nat} (hL : ∀ c, c < 64 → tb (yAt f z (nI i)) c = decide (s c = i)) (hS : ∀ c, s c = i → S c = true) (p : Int32) : ∀ (n k : Nat), k + n = 64 → (∃ c b, k ≤ c ∧ c < 64 ∧ s c = i ∧ nI (rk s S c) = p ∧ gaI f z (nI i) p n k (nI (Bk s S i k)) = (some (nI c), b)) ∨ ((∀ c, k ≤ c → c < 64 → s c = i → ¬ nI (rk s S c) = p) ∧ gaI f z (nI i) p n k (nI (Bk s S i k)) = (none, nI (Bk s S i 64))) := by
  intro n
  induction n with
  | zero =>
    intro k hk
    have : k = 64 := by omega
    subst this
    exact Or.inr ⟨fun c h1 h2 => by omega, rfl⟩
  | succ n ih =>
    intro k hk
    have hk64 : k < 64 := by omega
    have bs := Bk_succ (s := s) (S := S) (i := i) hk64 (hS k)
    unfold gaI
    rw [has_tb _ hk64, hL k hk64]
    by_cases w : s k = i
    · rw [decide_eq_true w, if_pos rfl]
      rw [if_pos w] at bs
      have er : Bk s S i k = rk s S k := by rw [← w]; rfl
      by_cases v : nI (Bk s S i k) = p
      · rw [if_pos v]
        exact Or.inl ⟨k, _, Nat.le_refl _, hk64, w, by rw [← er]; exact v, rfl⟩
      · rw [if_neg v, nI_1, ← bs]
        rcases ih (k + 1) (by omega) with ⟨c, b, h1, h2⟩ | ⟨h1, h2⟩
        · exact Or.inl ⟨c, b, by omega, h2⟩
        · refine Or.inr ⟨fun c a1 a2 a3 => ?_, h2⟩
          by_cases y : c = k
          · rw [y, ← er]; exact v
          · exact h1 c (by omega) a2 a3
    · rw [decide_eq_false w, if_neg (by decide)]
      have bs' : Bk s S i (k + 1) = Bk s S i k := by rw [bs, if_neg w]; exact Nat.add_zero _
      rw [← bs']
      rcases ih (k + 1) (by omega) with ⟨c, b, h1, h2⟩ | ⟨h1, h2⟩
      · exact Or.inl ⟨c, b, by omega, h2⟩
      · refine Or.inr ⟨fun c a1 a2 a3 => ?_, h2⟩
        by_cases y : c = k
        · rw [y] at a3; exact absurd a3 w
        · exact h1 c (by omega) a2 a3
theorem Bk_next {s : Nat → Nat} {S : Nat → Bool} (n : Nat) : Bk s S (n + 1) 64 = Bk s S n 0 := by
  unfold Bk
  refine fb_ct_cong fun k hk => ?_
  have e1 : decide (k < 64) = true := decide_eq_true hk
  have e2 : decide (k < 0) = false := decide_eq_false (by omega)
  rw [e1, e2]
  congr 1
  simp only [Bool.and_true, Bool.and_false, Bool.or_false]
  apply bool_iff
  rw [or_t, decide_eq_true_iff, decide_eq_true_iff, decide_eq_true_iff]
  omega
theorem gaO_ok {f : Nat → Int64} {z : Int32} {s : Nat → Nat} {S : Nat → Bool} (hL : ∀ i c, i < 64 → c < 64 → tb (yAt f z (nI i)) c = decide (s c = i)) (hS : ∀ c, 0 < s c → s c < 64 → S c = true) (hS0 : ∀ c, S c = true → 0 < s c) (p : Int32) : ∀ n, n < 64 → (∃ c, S c = true ∧ s c ≤ n ∧ nI (rk s S c) = p ∧ gaO f z p n (nI (Bk s S n 0)) = nI c) ∨ ((∀ c, S c = true → c < 64 → s c ≤ n → ¬ nI (rk s S c) = p) ∧ gaO f z p n (nI (Bk s S n 0)) = -1) := by
  intro n
  induction n with
  | zero => intro _; exact Or.inr ⟨fun c hc _ h => by have := hS0 c hc; omega, rfl⟩
  | succ n ih =>
    intro hn
    unfold gaO
    rcases gaI_ok (f := f) (z := z) (s := s) (S := S) (i := n + 1) (fun c hc => hL (n + 1) c hn hc) (fun c hc => hS c (by omega) (by omega)) p 64 0 (by omega) with ⟨c, b, _, h2, h3, h4, h5⟩ | ⟨h1, h2⟩
    · rw [h5]
      exact Or.inl ⟨c, hS c (by omega) (by omega), by omega, h4, rfl⟩
    · rw [h2, Bk_next]
      rcases ih (by omega) with ⟨c, a1, a2, a3⟩ | ⟨a1, a2⟩
      · exact Or.inl ⟨c, a1, by omega, a3⟩
      · refine Or.inr ⟨fun c b1 b2 b3 => ?_, a2⟩
        by_cases w : s c = n + 1
        · exact h1 c (Nat.zero_le _) b2 w
        · exact a1 c b1 b2 (by omega)
theorem gaF_ok {g : gT} {R C : Nat} (ok : GOk g R C) {a : Nat} (hg : tb (gG g) a = true) {S : Int64} (hS : S = gSp g (jshl 1 (nI a)) (gG g)) {x : Nat} (hx : tb (enF g S) x = true) (hu : ∀ y, tb (enF g S) y = true → y = x) (p : Int32) (f : Nat → Int64) : (∃ c, tb S c = true ∧ nI (rk (dS g R C S x) (tb S) c) = p ∧ gaF g S p f = nI c) ∨ ((∀ c, tb S c = true → ¬ nI (rk (dS g R C S x) (tb S) c) = p) ∧ gaF g S p f = -1) := by
  have dist := ent_dist ok hg hS hx hu
  have gS : ∀ c, tb S c = true → tb (gG g) c = true := fun c hc => by rw [hS] at hc; exact ga_goal ok hg hc
  have sub : Sub R C S := fun c hc => ok.sub_goal c (gS c hc)
  obtain ⟨xo, xg, _⟩ := (en_tb ok sub x).mp hx
  have xl := ok.open_lt xo
  have eE : enF g S = jshl 1 (nI x) := tb_ext fun y _ => by
    apply bool_iff
    rw [bit_eq ok.rc xl]
    exact ⟨hu y, fun z => by rw [z]; exact hx⟩
  have cert := sS_cert ok S xl
  obtain ⟨y1, y2, y3⟩ := yLay_at ok S xl cert f
  unfold gaF
  rw [eE]
  generalize (yLay g (jshl 1 (nI x)) S f).1 = F at y1 y2 y3 ⊢
  generalize (yLay g (jshl 1 (nI x)) S f).2 = z at y1 y2 y3 ⊢
  have z1 : 0 < z := by have := y3 x (by rw [cert.1]; decide); omega
  have hS0 : ∀ c, tb S c = true → 0 < dS g R C S x c := fun c hc => by
    rcases Nat.eq_zero_or_pos (dS g R C S x c) with w | w
    · have : c = x := (cert.lv (Nat.zero_le _) (k := 0)).mpr (by omega)
      rw [this] at hc
      rw [gS x hc] at xg; cases xg
    · exact w
  have hSs : ∀ c, 0 < dS g R C S x c → dS g R C S x c < 64 → tb S c = true := fun c h1 h2 => by
    rcases cert.2.1 c h2 with w | ⟨q, _, w, _⟩
    · rw [w, cert.1] at h1; omega
    · exact w.1
  have b0 : Bk (dS g R C S x) (tb S) (z - 1) 0 = 0 := fb_ct_zero.mpr fun k _ => by
    cases e : tb S k with
    | false => rfl
    | true =>
      have := y3 k (dist k e).1
      rw [decide_eq_false (show ¬ z - 1 < dS g R C S x k by omega), decide_eq_false (show ¬ k < 0 by omega)]; simp
  have := gaO_ok (f := F) (z := nI z) (s := dS g R C S x) (S := tb S) (fun i c hi hc => y2 i c hi) hSs hS0 p (z - 1) (by omega)
  rw [b0, nI_0] at this
  rcases this with ⟨c, h1, _, h3, h4⟩ | ⟨h1, h2⟩
  · exact Or.inl ⟨c, h1, h3, h4⟩
  · exact Or.inr ⟨fun c hc => h1 c hc (tb_lt hc) (by have := y3 c (dist c hc).1; omega), h2⟩
/-! the model's order -/
theorem sub_pos {a b : Nat} (ha : a < 2 ^ 30) (hb : b < 2 ^ 30) : (0 < nI a - nI b) ↔ b < a := by
  have := pk_sub_toInt ha hb
  rw [Int32.lt_iff_toInt_lt, this]
  show (0 : Int) < _ ↔ _
  omega
theorem sub_z {a b : Nat} (ha : a < 2 ^ 30) (hb : b < 2 ^ 30) : (nI a - nI b = 0) ↔ a = b := by
  have := pk_sub_toInt ha hb
  rw [← Int32.toInt_inj, this]
  show _ = (0 : Int) ↔ _
  omega
theorem or_in {t : xT} {q s : Nat → Nat} {cnt : Nat} (h64 : cnt ≤ 64) (h13 : ∀ j, j < cnt → ra t 13 j = nI (q j) ∧ q j < 64) (h7 : ∀ j, j < cnt → ra t 7 (q j) = nI (s (q j)) ∧ s (q j) < 64) {i : Nat} (hi : i < cnt) (p : Int32) (N n : Nat) : ∀ (m j b : Nat), j + m = cnt → f_ordered_L N (n + 1 + m) 51 p (nI cnt) (nI i) (nI b) (nI j) t = if nI (b + fb_ct (fun k => bfo s (q i) (q (j + k))) m) = p then some (nI (q i), t) else f_ordered_L N n 40 p (nI cnt) (nI (i + 1)) 0 0 t := by
  intro m
  have ci : (nI i).toNatClampNeg = i := nI_clamp (by omega)
  have bi := inB_nI (show i < 64 by omega) (show 64 < 2 ^ 31 by decide)
  obtain ⟨i1, i2⟩ := h13 i hi
  obtain ⟨i3, i4⟩ := h7 i hi
  induction m with
  | zero =>
    intro j b hj
    rw [Nat.add_zero, u_ordered_51, if_pos (nI_le (by omega) (by omega)), bi, if_pos rfl, ci, i1, nI_1]; rfl
  | succ m ih =>
    intro j b hj
    have hjc : j < cnt := by omega
    have cj : (nI j).toNatClampNeg = j := nI_clamp (by omega)
    have bj := inB_nI (show j < 64 by omega) (show 64 < 2 ^ 31 by decide)
    obtain ⟨j1, j2⟩ := h13 j hjc
    obtain ⟨j3, j4⟩ := h7 j hjc
    have cqi : (nI (q i)).toNatClampNeg = q i := nI_clamp (by omega)
    have cqj : (nI (q j)).toNatClampNeg = q j := nI_clamp (by omega)
    have sp := fb_ct_split (fun k => bfo s (q i) (q (j + k))) 1 m
    have s1 : fb_ct (fun k => bfo s (q i) (q (j + k))) 1 = if bfo s (q i) (q j) then 1 else 0 := by
      show fb_ct _ (0 + 1) = _
      rw [fb_ct_succ]; show 0 + _ = _; rw [Nat.zero_add]; rfl
    have s2 : (fun k => bfo s (q i) (q (j + (1 + k)))) = fun k => bfo s (q i) (q (j + 1 + k)) := by funext k; rw [Nat.add_assoc]
    rw [s2, s1, Nat.add_comm 1 m] at sp
    rw [show n + 1 + (m + 1) = n + 1 + m + 1 by omega, u_ordered_51, if_neg (nI_ge hjc (by omega)), sp]
    simp only [bi, bj, if_true, ci, cj, i1, j1, cqi, cqj, i3, j3, inB_nI i2 (show 64 < 2 ^ 31 by decide), inB_nI j2 (show 64 < 2 ^ 31 by decide), nI_1]
    have p1 := sub_pos (a := s (q j)) (b := s (q i)) (by omega) (by omega)
    have p2 := sub_z (a := s (q j)) (b := s (q i)) (by omega) (by omega)
    have bt := bfo_t (s := s) (c := q i) (c' := q j)
    by_cases w1 : 0 < nI (s (q j)) - nI (s (q i))
    · have hb : bfo s (q i) (q j) = true := bt.mpr (Or.inl (p1.mp w1))
      simp only [w1, if_true, Option.bind_some, hb, nI_1]
      rw [ih (j + 1) (b + 1) (by omega), Nat.add_assoc b 1]
    · simp only [w1, if_false]
      by_cases w2 : nI (s (q j)) - nI (s (q i)) = 0
      · simp only [w2, if_true]
        have w3 := p2.mp w2
        by_cases w4 : nI (q i) ≤ nI (q j)
        · have : q i ≤ q j := (nI_leI (by omega) (by omega)).mp w4
          have hb : bfo s (q i) (q j) = false := by
            cases e : bfo s (q i) (q j) with
            | false => rfl
            | true => have := bt.mp e; omega
          simp only [w4, if_true, Option.bind_some, hb, Bool.false_eq_true, if_false, Int32.add_zero]
          rw [ih (j + 1) b (by omega), Nat.zero_add]
        · have : ¬ q i ≤ q j := fun z => w4 ((nI_leI (by omega) (by omega)).mpr z)
          have hb : bfo s (q i) (q j) = true := bt.mpr (Or.inr ⟨w3, by omega⟩)
          simp only [w4, if_false, Option.bind_some, hb, if_true, nI_1]
          rw [ih (j + 1) (b + 1) (by omega), Nat.add_assoc b 1]
      · have hb : bfo s (q i) (q j) = false := by
          cases e : bfo s (q i) (q j) with
          | false => rfl
          | true =>
            rcases bt.mp e with v | v
            · exact absurd (p1.mpr v) w1
            · exact absurd (p2.mpr v.1) w2
        simp only [w2, if_false, Option.bind_some, hb, Bool.false_eq_true, Int32.add_zero]
        rw [ih (j + 1) b (by omega), Nat.zero_add]
theorem or_out {t : xT} {q s : Nat → Nat} {S : Nat → Bool} {cnt : Nat} (h64 : cnt ≤ 64) (h13 : ∀ j, j < cnt → ra t 13 j = nI (q j) ∧ q j < 64) (h7 : ∀ j, j < cnt → ra t 7 (q j) = nI (s (q j)) ∧ s (q j) < 64) (inj : ∀ i j, i < j → j < cnt → ¬ q i = q j) (hS : ∀ x, S x = true ↔ ∃ j, j < cnt ∧ q j = x) (p : Int32) (N : Nat) : ∀ (m i n : Nat), i + m = cnt → (∃ i', i ≤ i' ∧ i' < cnt ∧ nI (rk s S (q i')) = p ∧ f_ordered_L N (n + 1 + 70 * m) 40 p (nI cnt) (nI i) 0 0 t = some (nI (q i'), t)) ∨ ((∀ i', i ≤ i' → i' < cnt → ¬ nI (rk s S (q i')) = p) ∧ f_ordered_L N (n + 1 + 70 * m) 40 p (nI cnt) (nI i) 0 0 t = some (-1, t)) := by
  intro m
  induction m with
  | zero =>
    intro i n hi
    refine Or.inr ⟨fun i' h1 h2 => by omega, ?_⟩
    rw [Nat.mul_zero, Nat.add_zero, u_ordered_40, if_pos (nI_le (by omega) (by omega))]
  | succ m ih =>
    intro i n hi
    have hic : i < cnt := by omega
    have inn := or_in h64 h13 h7 hic p N (n + 1 + 70 * m + 68 - cnt) cnt 0 0 (by omega)
    have er : fb_ct (fun k => bfo s (q i) (q (0 + k))) cnt = rk s S (q i) := by
      have : (fun k => bfo s (q i) (q (0 + k))) = fun k => bfo s (q i) (q k) := by funext k; rw [Nat.zero_add]
      rw [this, ct_map cnt q S (bfo s (q i)) inj (fun j hj => (h13 j hj).2) hS]; rfl
    rw [er, Nat.zero_add, nI_0] at inn
    rw [show n + 1 + 70 * (m + 1) = (n + 1 + 70 * m + 68 - cnt + 1 + cnt) + 1 by omega, u_ordered_40, if_neg (nI_ge hic (by omega)), inn]
    by_cases w : nI (rk s S (q i)) = p
    · rw [if_pos w]
      exact Or.inl ⟨i, Nat.le_refl _, hic, w, rfl⟩
    · rw [if_neg w, show n + 1 + 70 * m + 68 - cnt = (n + 68 - cnt) + 1 + 70 * m by omega]
      rcases ih (i + 1) (n + 68 - cnt) (by omega) with ⟨i', a1, a2⟩ | ⟨a1, a2⟩
      · exact Or.inl ⟨i', by omega, a2⟩
      · refine Or.inr ⟨fun i' b1 b2 => ?_, a2⟩
        by_cases v : i' = i
        · rw [v]; exact w
        · exact a1 i' (by omega) b2
theorem s_plain {t : xT} {g : gT} {R C : Nat} (ok : GOk g R C) (hM : GR (ra t 1) g R C) {a : Nat} (ha : a < R * C) {N : Nat} (hN : 10000 ≤ N) : ∃ u, f_plainSteps N t (nI a) = some u ∧ Frm [7, 6] [16] t u ∧ ∀ c, c < R * C → ra u 7 c = sz ((bfR (adjO g R C) a).2.2 c) := by
  obtain ⟨Q, S, nn, e, r⟩ := m_plainSteps ok hM ha hN
  exact ⟨_, e, Frm.wq 7 t Q S nn, fun c hc => by rw [wQ_S (by decide)]; exact r.2.2 c hc⟩
/-- the goal at a place -/
theorem s_ordered {t : xT} {g : gT} {R C : Nat} (ok : GOk g R C) (hM : GR (ra t 1) g R C) {a : Nat} (hg : tb (gG g) a = true) {S : Int64} (hS : S = gSp g (jshl 1 (nI a)) (gG g)) (hr : RF g t S) {N : Nat} (hN : 10000 ≤ N) (p : Int32) (f : Nat → Int64) : ∃ u, f_ordered N t p = some (gaF g S p f, u) ∧ Frm [6, 7, 11, 13] [16, 24] t u := by
  have hle := ok.rc.le
  obtain ⟨cnt, q, h64, h16, h6, inj, mem, x, h24, hx, hu⟩ := hr
  have gS : ∀ c, tb S c = true → tb (gG g) c = true := fun c hc => by rw [hS] at hc; exact ga_goal ok hg hc
  have sub : Sub R C S := fun c hc => ok.sub_goal c (gS c hc)
  obtain ⟨xo, xg, _⟩ := (en_tb ok sub x).mp hx
  have xl := ok.open_lt xo
  have copy : ∀ (m j n : Nat) (t : xT), j + m = cnt → (∀ j, j < cnt → ra t 6 j = nI (q j)) → (∀ i, i < j → ra t 13 i = nI (q i)) → ∃ u, f_ordered_L N (n + 1 + m) 7 p (nI cnt) (nI j) 0 0 t = f_ordered_L N (n + 1) 7 p (nI cnt) (nI cnt) 0 0 u ∧ Frm [6, 7, 11, 13] [16, 24] t u ∧ rs u 24 = rs t 24 ∧ ∀ i, i < cnt → ra u 13 i = nI (q i) := by
    intro m
    induction m with
    | zero =>
      intro j n t hj _ h
      have : j = cnt := by omega
      subst this
      exact ⟨t, rfl, Frm.rf, rfl, h⟩
    | succ m ih =>
      intro j n t hj h6 h
      have cj : (nI j).toNatClampNeg = j := nI_clamp (by omega)
      have bj := inB_nI (show j < 64 by omega) (show 64 < 2 ^ 31 by decide)
      obtain ⟨u, e, f, r, w⟩ := ih (j + 1) n (wa t 13 (upd (ra t 13) j (nI (q j)))) (by omega) h6 fun i hi => by
        rw [ra_wa, if_pos rfl]
        by_cases z : i = j
        · rw [z, pk_us]
        · rw [pk_un z]; exact h i (by omega)
      refine ⟨u, ?_, (Frm.wa Frm.rf (by decide) _).trans f, r, w⟩
      rw [show n + 1 + (m + 1) = n + 1 + m + 1 by omega, u_ordered_7, if_neg (nI_ge (by omega) (by omega)), bj, if_pos rfl, if_pos rfl, Option.bind_some, cj, h6 j (by omega), nI_1, e]
  obtain ⟨n, hn⟩ : ∃ n, N = (n + 1 + 70 * cnt) + 1 + cnt := ⟨N - (71 * cnt + 2), by omega⟩
  obtain ⟨u1, e1, f1, r24, w13⟩ := copy cnt 0 (n + 1 + 70 * cnt) t (by omega) (fun j hj => (h6 j hj).1) (fun i hi => by omega)
  rw [nI_0, ← hn] at e1
  obtain ⟨u2, e2, f2, w7⟩ := s_plain ok (hM.of (f1.a 1 rfl)) xl hN
  have f3 : Frm [6, 7, 11, 13] [16, 24] t u2 := f1.trans (f2.up (by decide) (by decide))
  have dist := ent_dist ok hg hS hx hu
  have qS : ∀ j, j < cnt → tb S (q j) = true := fun j hj => (mem _).mpr ⟨j, hj, rfl⟩
  have h13 : ∀ j, j < cnt → ra u2 13 j = nI (q j) ∧ q j < 64 := fun j hj => ⟨by rw [f2.a 13 rfl]; exact w13 j hj, (h6 j hj).2⟩
  have h7 : ∀ j, j < cnt → ra u2 7 (q j) = nI (dS g R C S x (q j)) ∧ dS g R C S x (q j) < 64 := fun j hj => by
    obtain ⟨d1, d2⟩ := dist _ (qS j hj)
    exact ⟨by rw [w7 _ (sub _ (qS j hj)), d2, sz_nI d1], d1⟩
  have e0 : f_ordered N t p = f_ordered_L N (n + 1 + 70 * cnt) 40 p (nI cnt) (nI 0) 0 0 u2 := by
    unfold f_ordered
    rw [h16, e1, u_ordered_7, if_pos (nI_le (Nat.le_refl _) (by omega)), r24, h24, e2, Option.bind_some, nI_0]
  refine ⟨u2, ?_, f3⟩
  rw [e0]
  have hl := fun c (hc : tb S c = true) => tb_lt hc
  rcases or_out h64 h13 h7 inj mem p N cnt 0 n (by omega) with ⟨i, _, hi, a1, a2⟩ | ⟨a1, a2⟩
  · rw [a2]
    rcases gaF_ok ok hg hS hx hu p f with ⟨c, b1, b2, b3⟩ | ⟨b1, _⟩
    · rw [b3]
      have lt1 := fb_ct_le (fun c' => tb S c' && bfo (dS g R C S x) c c') 64
      have lt2 := fb_ct_le (fun c' => tb S c' && bfo (dS g R C S x) (q i) c') 64
      have : rk (dS g R C S x) (tb S) (q i) = rk (dS g R C S x) (tb S) c := (nI_eq (show fb_ct _ 64 < _ by omega) (show fb_ct _ 64 < _ by omega)).mp (a1.trans b2.symm)
      rw [rk_inj (qS i hi) b1 (hl _ (qS i hi)) (hl _ b1) this]
    · exact absurd a1 (b1 _ (qS i hi))
  · rw [a2]
    rcases gaF_ok ok hg hS hx hu p f with ⟨c, b1, b2, b3⟩ | ⟨_, b2⟩
    · obtain ⟨j, hj, e⟩ := (mem c).mp b1
      exact absurd (by rw [e]; exact b2) (a1 j (Nat.zero_le _) hj)
    · rw [b2]
