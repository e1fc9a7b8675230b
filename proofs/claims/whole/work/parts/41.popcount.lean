/-! Long.bitCount counts -/
def pcM (c : Nat) : Nat → Nat
  | 0 => 0
  | m + 1 => 256 * pcM c m + c
def pcN : Nat → (Nat → Nat) → Nat
  | 0, _ => 0
  | m + 1, p => 256 * pcN m (fun j => p (j + 1)) + p 0
theorem pc_and {a b c d : Nat} (ha : a < 256) (hc : c < 256) : (256 * b + a) &&& (256 * d + c) = 256 * (b &&& d) + (a &&& c) := by
  have h : ∀ x y z w : Nat, y < 2 ^ 8 → w < 2 ^ 8 → (2 ^ 8 * x + y) &&& (2 ^ 8 * z + w) = 2 ^ 8 * (x &&& z) + (y &&& w) := by
    intro x y z w hy hw
    apply Nat.eq_of_testBit_eq
    intro j
    have hyw : y &&& w < 2 ^ 8 := Nat.lt_of_le_of_lt Nat.and_le_left hy
    rw [Nat.testBit_and, Nat.testBit_two_pow_mul_add _ hy, Nat.testBit_two_pow_mul_add _ hw, Nat.testBit_two_pow_mul_add _ hyw]
    split <;> simp
  exact h b a d c ha hc
def f1 (a : Nat) : Nat := a - ((a / 2) &&& 85)
def f2 (a : Nat) : Nat := (a &&& 51) + ((a / 4) &&& 51)
def f3 (a : Nat) : Nat := (a + a / 16) &&& 15
theorem f1_t : ∀ e, e < 2 → ∀ a, a < 256 → (128 * e + a / 2) &&& 85 = (a / 2) &&& 85 := by decide +kernel
theorem f2_t : ∀ e, e < 4 → ∀ a, a < 256 → (64 * e + a / 4) &&& 51 = (a / 4) &&& 51 := by decide +kernel
theorem f3_t : ∀ e, e < 5 → ∀ a, a < 256 → a % 16 < 5 → a / 16 < 5 → (a + (16 * e + a / 16)) &&& 15 = f3 a ∧ a + (16 * e + a / 16) < 256 := by decide +kernel
theorem f1_lt : ∀ a, a < 256 → f1 a < 256 := by decide +kernel
theorem f2_lt : ∀ a, a < 256 → f2 (f1 a) < 256 ∧ f2 (f1 a) % 16 < 5 ∧ f2 (f1 a) / 16 < 5 := by decide +kernel
theorem f3_ct : ∀ a, a < 256 → f3 (f2 (f1 a)) = fb_ct (fun i => a.testBit i) 8 := by decide +kernel
theorem pc_1 : ∀ (m : Nat) (p : Nat → Nat), (∀ j, p j < 256) → pcN m p - ((pcN m p / 2) &&& pcM 85 m) = pcN m (fun j => f1 (p j)) := by
  intro m
  induction m with
  | zero => intro p _; simp [pcN, pcM]
  | succ m ih =>
    intro p hp
    have q := ih (fun j => p (j + 1)) (fun j => hp _)
    simp only [pcN, pcM]
    generalize pcN m (fun j => p (j + 1)) = b at q ⊢
    generalize pcN m (fun j => f1 (p (j + 1))) = b' at q ⊢
    have h0 := hp 0
    generalize p 0 = a at h0 ⊢
    rw [show (256 * b + a) / 2 = 256 * (b / 2) + (128 * (b % 2) + a / 2) by omega, pc_and (by omega) (by decide), f1_t (b % 2) (by omega) a h0]
    have h1 : (b / 2) &&& pcM 85 m ≤ b / 2 := Nat.and_le_left
    have h2 : (a / 2) &&& 85 ≤ a / 2 := Nat.and_le_left
    show _ = 256 * b' + (a - ((a / 2) &&& 85))
    omega
theorem pc_2 : ∀ (m : Nat) (p : Nat → Nat), (∀ j, p j < 256) → (pcN m p &&& pcM 51 m) + ((pcN m p / 4) &&& pcM 51 m) = pcN m (fun j => f2 (p j)) := by
  intro m
  induction m with
  | zero => intro p _; simp [pcN, pcM]
  | succ m ih =>
    intro p hp
    have q := ih (fun j => p (j + 1)) (fun j => hp _)
    simp only [pcN, pcM]
    generalize pcN m (fun j => p (j + 1)) = b at q ⊢
    generalize pcN m (fun j => f2 (p (j + 1))) = b' at q ⊢
    have h0 := hp 0
    generalize p 0 = a at h0 ⊢
    rw [show (256 * b + a) / 4 = 256 * (b / 4) + (64 * (b % 4) + a / 4) by omega, pc_and h0 (by decide), pc_and (by omega) (by decide), f2_t (b % 4) (by omega) a h0]
    show _ = 256 * b' + ((a &&& 51) + ((a / 4) &&& 51))
    omega
theorem pc_3 : ∀ (m : Nat) (p : Nat → Nat), (∀ j, p j < 256 ∧ p j % 16 < 5 ∧ p j / 16 < 5) → (pcN m p + pcN m p / 16) &&& pcM 15 m = pcN m (fun j => f3 (p j)) := by
  intro m
  induction m with
  | zero => intro p _; simp [pcN, pcM]
  | succ m ih =>
    intro p hp
    have q := ih (fun j => p (j + 1)) (fun j => hp _)
    have hm : pcN m (fun j => p (j + 1)) % 16 < 5 := by
      cases m with
      | zero => simp [pcN]
      | succ m => have := (hp 1).2.1; simp only [pcN, Nat.zero_add]; omega
    simp only [pcN, pcM]
    generalize pcN m (fun j => p (j + 1)) = b at q hm ⊢
    generalize pcN m (fun j => f3 (p (j + 1))) = b' at q ⊢
    have h0 := hp 0
    generalize p 0 = a at h0 ⊢
    obtain ⟨t1, t2⟩ := f3_t (b % 16) hm a h0.1 h0.2.1 h0.2.2
    rw [show 256 * b + a + (256 * b + a) / 16 = 256 * (b + b / 16) + (a + (16 * (b % 16) + a / 16)) by omega, pc_and t2 (by decide), t1, q]
theorem pc_dig : ∀ (m n : Nat), n < 256 ^ m → n = pcN m (fun j => n / 256 ^ j % 256) := by
  intro m
  induction m with
  | zero => intro n h; simp at h; subst h; rfl
  | succ m ih =>
    intro n h
    have q := ih (n / 256) (by rw [Nat.pow_succ] at h; omega)
    unfold pcN
    have e : (fun j => n / 256 ^ (j + 1) % 256) = fun j => n / 256 / 256 ^ j % 256 := by
      funext j
      rw [Nat.pow_succ, Nat.mul_comm, Nat.div_div_eq_div_mul]
    rw [e, ← q]
    simp
    omega
def uN (x : Int64) : Nat := x.toBitVec.toNat
theorem uN_lt (x : Int64) : uN x < 2 ^ 64 := x.toBitVec.isLt
theorem uN_and (x y : Int64) : uN (x &&& y) = uN x &&& uN y := by
  unfold uN; rw [Int64.toBitVec_and, BitVec.toNat_and]
theorem uN_add (x y : Int64) : uN (x + y) = (uN x + uN y) % 2 ^ 64 := by
  unfold uN; rw [Int64.toBitVec_add, BitVec.toNat_add]
theorem uN_sub {x y : Int64} (h : uN y ≤ uN x) : uN (x - y) = uN x - uN y := by
  have h1 := uN_lt x
  unfold uN at *
  rw [Int64.toBitVec_sub, BitVec.toNat_sub]
  omega
theorem uN_shr (x : Int64) {k : Nat} (hk : k < 64) : uN (jushr x (nI k)) = uN x / 2 ^ k := by
  unfold uN jushr
  show (x.toUInt64 >>> ((nI k).toInt64.toUInt64 &&& Int64.toUInt64 63)).toNat = _
  rw [UInt64.toNat_shiftRight, us_64 k hk, Nat.shiftRight_eq_div_pow]
  rfl
theorem pc_fin {p0 p1 p2 p3 p4 p5 p6 p7 : Nat} (h0 : p0 ≤ 8) (h1 : p1 ≤ 8) (h2 : p2 ≤ 8) (h3 : p3 ≤ 8) (h4 : p4 ≤ 8) (h5 : p5 ≤ 8) (h6 : p6 ≤ 8) (h7 : p7 ≤ 8) (x y z w : Nat)
    (hx : x = 256 * (256 * (256 * (256 * (256 * (256 * (256 * (256 * 0 + p7) + p6) + p5) + p4) + p3) + p2) + p1) + p0) (hy : y = (x + x / 256) % 18446744073709551616) (hz : z = (y + y / 65536) % 18446744073709551616) (hw : w = (z + z / 4294967296) % 18446744073709551616) : w % 128 = p0 + p1 + p2 + p3 + p4 + p5 + p6 + p7 := by
  have x0 : x = 256 * (256 * (256 * (256 * (256 * (256 * (256 * (p7) + (p6)) + (p5)) + (p4)) + (p3)) + (p2)) + (p1)) + (p0) := by omega
  have x1 : x / 256 = 256 * (256 * (256 * (256 * (256 * (256 * (p7) + (p6)) + (p5)) + (p4)) + (p3)) + (p2)) + (p1) := by omega
  have y0 : y = 256 * (256 * (256 * (256 * (256 * (256 * (256 * (p7) + (p6 + p7)) + (p5 + p6)) + (p4 + p5)) + (p3 + p4)) + (p2 + p3)) + (p1 + p2)) + (p0 + p1) := by omega
  have y1 : y / 65536 = 256 * (256 * (256 * (256 * (256 * (p7) + (p6 + p7)) + (p5 + p6)) + (p4 + p5)) + (p3 + p4)) + (p2 + p3) := by clear hz hw hy x1 x0 hx; omega
  have z0 : z = 256 * (256 * (256 * (256 * (256 * (256 * (256 * (p7) + (p6 + p7)) + (p5 + p6 + p7)) + (p4 + p5 + p6 + p7)) + (p3 + p4 + p5 + p6)) + (p2 + p3 + p4 + p5)) + (p1 + p2 + p3 + p4)) + (p0 + p1 + p2 + p3) := by clear hw hy x1 x0 hx; omega
  have z1 : z / 4294967296 = 256 * (256 * (256 * (p7) + (p6 + p7)) + (p5 + p6 + p7)) + (p4 + p5 + p6 + p7) := by clear hz hw hy x1 x0 hx y0 y1; omega
  have w0 : w = 256 * (256 * (256 * (256 * (256 * (256 * (256 * (p7) + (p6 + p7)) + (p5 + p6 + p7)) + (p4 + p5 + p6 + p7)) + (p3 + p4 + p5 + p6 + p7)) + (p2 + p3 + p4 + p5 + p6 + p7)) + (p1 + p2 + p3 + p4 + p5 + p6 + p7)) + (p0 + p1 + p2 + p3 + p4 + p5 + p6 + p7) := by clear hz hy x1 x0 hx y0 y1; omega
  clear hz hw hy x1 x0 hx y0 y1 z0 z1
  omega
theorem pc_all (x : Int64) : bcF x = nI (fb_ct (tb x) 64) := by
  have hd := pc_dig 8 (uN x) (uN_lt x)
  generalize hp : (fun j => uN x / 256 ^ j % 256) = p at hd
  have hp1 : ∀ j, p j < 256 := fun j => by rw [← hp]; show uN x / 256 ^ j % 256 < 256; omega
  have e1 : uN (bc1 x) = pcN 8 (fun j => f1 (p j)) := by
    have q := pc_1 8 p hp1
    rw [← hd] at q
    unfold bc1
    have t : uN (jushr x 1 &&& 6148914691236517205) = (uN x / 2) &&& pcM 85 8 := by
      rw [uN_and, show (1 : Int32) = nI 1 from rfl, uN_shr x (by decide)]; rfl
    rw [uN_sub (by rw [t]; have : (uN x / 2) &&& pcM 85 8 ≤ uN x / 2 := Nat.and_le_left; omega), t, q]
  have hp2 : ∀ j, f1 (p j) < 256 := fun j => f1_lt _ (hp1 j)
  have e2 : uN (bc2 (bc1 x)) = pcN 8 (fun j => f2 (f1 (p j))) := by
    have q := pc_2 8 _ hp2
    rw [← e1] at q
    unfold bc2
    rw [uN_add, uN_and, uN_and, show (2 : Int32) = nI 2 from rfl, uN_shr _ (by decide), ← q]
    have h1 : uN (bc1 x) &&& pcM 51 8 ≤ pcM 51 8 := Nat.and_le_right
    have h2 : (uN (bc1 x) / 4) &&& pcM 51 8 ≤ pcM 51 8 := Nat.and_le_right
    have h3 : pcM 51 8 + pcM 51 8 < 2 ^ 64 := by decide
    exact Nat.mod_eq_of_lt (by show (uN (bc1 x) &&& pcM 51 8) + ((uN (bc1 x) / 4) &&& pcM 51 8) < _; omega)
  have hp3 : ∀ j, f2 (f1 (p j)) < 256 ∧ f2 (f1 (p j)) % 16 < 5 ∧ f2 (f1 (p j)) / 16 < 5 := fun j => f2_lt _ (hp1 j)
  have e3 : uN (bc3 (bc2 (bc1 x))) = pcN 8 (fun j => f3 (f2 (f1 (p j)))) := by
    have q := pc_3 8 _ hp3
    rw [← e2] at q
    unfold bc3
    have hb : uN (bc2 (bc1 x)) < 2 ^ 63 := by
      rw [e2]; simp only [pcN, Nat.zero_add, Nat.reduceAdd]
      have := hp3 0; have := hp3 1; have := hp3 2; have := hp3 3; have := hp3 4; have := hp3 5; have := hp3 6; have := hp3 7
      omega
    rw [uN_and, uN_add, show (4 : Int32) = nI 4 from rfl, uN_shr _ (by decide), Nat.mod_eq_of_lt (by show _ + _ / 16 < _; omega), ← q]
    rfl
  have hp4 : ∀ j, f3 (f2 (f1 (p j))) ≤ 8 := fun j => by
    rw [f3_ct _ (hp1 j)]; exact fb_ct_le _ _
  have e4 : uN (bc4 (bc3 (bc2 (bc1 x)))) = (uN (bc3 (bc2 (bc1 x))) + uN (bc3 (bc2 (bc1 x))) / 256) % 18446744073709551616 := by
    unfold bc4; rw [uN_add, show (8 : Int32) = nI 8 from rfl, uN_shr _ (by decide)]
  have e5 : uN (bc5 (bc4 (bc3 (bc2 (bc1 x))))) = (uN (bc4 (bc3 (bc2 (bc1 x)))) + uN (bc4 (bc3 (bc2 (bc1 x)))) / 65536) % 18446744073709551616 := by
    unfold bc5; rw [uN_add, show (16 : Int32) = nI 16 from rfl, uN_shr _ (by decide)]
  have e6 : uN (bc6 (bc5 (bc4 (bc3 (bc2 (bc1 x)))))) = (uN (bc5 (bc4 (bc3 (bc2 (bc1 x))))) + uN (bc5 (bc4 (bc3 (bc2 (bc1 x))))) / 4294967296) % 18446744073709551616 := by
    unfold bc6; rw [uN_add, show (32 : Int32) = nI 32 from rfl, uN_shr _ (by decide)]
  have fin := pc_fin (hp4 0) (hp4 1) (hp4 2) (hp4 3) (hp4 4) (hp4 5) (hp4 6) (hp4 7) _ _ _ _ e3 e4 e5 e6
  have hct : fb_ct (tb x) 64 = f3 (f2 (f1 (p 0))) + f3 (f2 (f1 (p 1))) + f3 (f2 (f1 (p 2))) + f3 (f2 (f1 (p 3))) + f3 (f2 (f1 (p 4))) + f3 (f2 (f1 (p 5))) + f3 (f2 (f1 (p 6))) + f3 (f2 (f1 (p 7))) := by
    have byte : ∀ j, j < 8 → fb_ct (fun k => tb x (8 * j + k)) 8 = f3 (f2 (f1 (p j))) := by
      intro j hj
      rw [f3_ct _ (hp1 j)]
      refine fb_ct_cong fun k hk => ?_
      rw [← hp]
      show (x.toBitVec.getLsbD (8 * j + k)) = (uN x / 256 ^ j % 256).testBit k
      rw [show (256 : Nat) ^ j = 2 ^ (8 * j) by rw [Nat.pow_mul], show (256 : Nat) = 2 ^ 8 from rfl, Nat.testBit_mod_two_pow, Nat.testBit_div_two_pow]
      simp [hk, BitVec.getLsbD, uN, Nat.add_comm]
    have s1 := fb_ct_split (tb x) 8 56
    have s2 := fb_ct_split (fun k => tb x (8 + k)) 8 48
    have s3 := fb_ct_split (fun k => tb x (8 + (8 + k))) 8 40
    have s4 := fb_ct_split (fun k => tb x (8 + (8 + (8 + k)))) 8 32
    have s5 := fb_ct_split (fun k => tb x (8 + (8 + (8 + (8 + k))))) 8 24
    have s6 := fb_ct_split (fun k => tb x (8 + (8 + (8 + (8 + (8 + k)))))) 8 16
    have s7 := fb_ct_split (fun k => tb x (8 + (8 + (8 + (8 + (8 + (8 + k))))))) 8 8
    have b0 := byte 0 (by decide); have b1 := byte 1 (by decide); have b2 := byte 2 (by decide); have b3 := byte 3 (by decide)
    have b4 := byte 4 (by decide); have b5 := byte 5 (by decide); have b6 := byte 6 (by decide); have b7 := byte 7 (by decide)
    have as : ∀ k : Nat, 8 + (8 + k) = 16 + k ∧ 8 + (16 + k) = 24 + k ∧ 8 + (24 + k) = 32 + k ∧ 8 + (32 + k) = 40 + k ∧ 8 + (40 + k) = 48 + k ∧ 8 + (48 + k) = 56 + k := fun k => by omega
    simp only [Nat.zero_add, Nat.mul_zero, Nat.mul_one, Nat.reduceMul, Nat.reduceAdd, (as _).1, (as _).2.1, (as _).2.2.1, (as _).2.2.2.1, (as _).2.2.2.2.1, (as _).2.2.2.2.2] at s1 s2 s3 s4 s5 s6 s7 b0 b1 b2 b3 b4 b5 b6 b7
    have e0 : (fun k => tb x k) = tb x := rfl
    rw [e0] at b0
    omega
  rw [hct, ← fin]
  unfold bcF
  generalize bc6 (bc5 (bc4 (bc3 (bc2 (bc1 x))))) = y
  apply Int32.toBitVec_inj.mp
  apply BitVec.eq_of_toNat_eq
  rw [Int32.toBitVec_and, BitVec.toNat_and]
  have m : (127 : Int32).toBitVec.toNat = 2 ^ 7 - 1 := by decide
  rw [m, Nat.and_two_pow_sub_one_eq_mod, pk_tn (by omega)]
  rw [Int64.toBitVec_toInt32, BitVec.signExtend_eq_setWidth_of_le _ (by decide), BitVec.toNat_setWidth]
  unfold uN
  omega
