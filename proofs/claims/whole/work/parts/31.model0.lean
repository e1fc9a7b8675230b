/-! the model: its state and its methods, out of their bytecode (gen/mod.py) -/
/-! THE MODEL's state: arrays by their cells' numbers, the row of longs, numbers by their fields' places, the law's row out -/
abbrev xT : Type := (Nat → Nat → Int32) × (Nat → Int64) × (Nat → Int32) × (Nat → Int64)
def ra (t : xT) (i : Nat) : Nat → Int32 := t.1 i
def rb (t : xT) : Nat → Int64 := t.2.1
def rs (t : xT) (k : Nat) : Int32 := t.2.2.1 k
def ro (t : xT) : Nat → Int64 := t.2.2.2
def wa (t : xT) (i : Nat) (f : Nat → Int32) : xT := (fun j => if j = i then f else t.1 j, t.2.1, t.2.2.1, t.2.2.2)
def wb (t : xT) (f : Nat → Int64) : xT := (t.1, f, t.2.2.1, t.2.2.2)
def ws (t : xT) (k : Nat) (v : Int32) : xT := (t.1, t.2.1, fun j => if j = k then v else t.2.2.1 j, t.2.2.2)
def wo (t : xT) (f : Nat → Int64) : xT := (t.1, t.2.1, t.2.2.1, f)
/-- the model's own fields -/
def mfs (t : xT) : List Value := .ref 1 :: .ref 2 :: .ref 3 :: .int (rs t 3) :: .ref 4 :: .int (rs t 5) :: .int (rs t 6) :: .int (rs t 7) :: .int (rs t 8) :: .int (rs t 9) :: .ref 5 :: .int (rs t 11) :: .int (rs t 12) :: .int (rs t 13) :: .int (rs t 14) :: .ref 6 :: .int (rs t 16) :: .ref 7 :: .ref 8 :: .ref 9 :: .ref 10 :: .int (rs t 21) :: .ref 11 :: .ref 12 :: .int (rs t 24) :: .ref 13 :: .int (rs t 26) :: .ref 14 :: .ref 15 :: .ref 16 :: .ref 17 :: .int (rs t 31) :: .ref 18 :: .int (rs t 33) :: .int (rs t 34) :: .int (rs t 35) :: []
/-- the cells of the model, from number 0 on -/
def mw (t : xT) : List mE := [.inr (12, mfs t),
  .inl (0, 602, .inl (ra t 1)),
  .inl (0, 602, .inl (ra t 2)),
  .inl (0, 602, .inl (ra t 3)),
  .inl (0, 4816, .inl (ra t 4)),
  .inl (0, 80, .inl (ra t 5)),
  .inl (0, 64, .inl (ra t 6)),
  .inl (0, 64, .inl (ra t 7)),
  .inl (0, 64, .inl (ra t 8)),
  .inl (3, 64, .inl (ra t 9)),
  .inl (3, 64, .inl (ra t 10)),
  .inl (3, 64, .inl (ra t 11)),
  .inl (0, 32, .inl (ra t 12)),
  .inl (0, 64, .inl (ra t 13)),
  .inl (1, 1000, .inr (.inl (rb t))),
  .inl (0, 1000, .inl (ra t 15)),
  .inl (0, 1000, .inl (ra t 16)),
  .inl (0, 1000, .inl (ra t 17)),
  .inl (0, 1000, .inl (ra t 18)),
  .inl (1, 1, .inr (.inl (ro t)))]
def inB (i : Int32) (n : Nat) : Bool := decide (0 ≤ i) && Nat.blt i.toNatClampNeg n
theorem inB_in {i : Int32} {n : Nat} (h : inB i n = true) : vp_in i n := by
  unfold inB at h
  simp only [Bool.and_eq_true, decide_eq_true_eq] at h
  have h2 : i.toNatClampNeg < n := by have := h.2; unfold Nat.blt at this; exact Nat.le_of_ble_eq_true this
  intro q
  rcases q with q | q
  · exact absurd h.1 (by rw [Int32.not_le]; exact q)
  · omega
theorem obind {α β : Type} {x : Option α} {f : α → Option β} {r : β} (h : x.bind f = some r) : ∃ a, x = some a ∧ f a = some r := Option.bind_eq_some_iff.mp h
theorem olet {α β : Type} {x : α} {f : α → Option β} {r : β} (h : (some x).bind f = some r) : ∃ a, a = x ∧ f a = some r := ⟨x, rfl, h⟩
theorem ochk {c : Prop} [Decidable c] {α : Type} {x : Option α} {r : α} (h : (if c then x else none) = some r) : c ∧ x = some r := by
  by_cases q : c
  · rw [if_pos q] at h; exact ⟨q, h⟩
  · rw [if_neg q] at h; cases h
theorem opos {c : Prop} [Decidable c] {α : Type} {x y r : α} (q : c) (h : (if c then x else y) = r) : x = r := by rw [if_pos q] at h; exact h
theorem oneg {c : Prop} [Decidable c] {α : Type} {x y r : α} (q : ¬ c) (h : (if c then x else y) = r) : y = r := by rw [if_neg q] at h; exact h
theorem osome {α : Type} {x r : α} (h : some x = some r) : r = x := (Option.some.inj h).symm
theorem nar_char {x : Int32} (h : inB x 65536 = true) : narrow .char (.int x) = .int x := by
  have q := inB_in h
  have q1 : ¬ x < 0 := fun z => q (Or.inl z)
  have q2 : x.toNatClampNeg < 65536 := by
    have : ¬ 65536 ≤ x.toNatClampNeg := fun z => q (Or.inr z)
    omega
  rw [nI_cl q1]
  exact (pk_charN q2).1
theorem gm0 (t : xT) (C : List mE) : mget (mw t, C) 0 = some (.inr (12, mfs t)) := rfl

theorem gm_1 (t : xT) (C : List mE) : mget (mw t, C) 1 = some (.inl (0, 602, .inl (ra t 1))) := rfl
theorem st_1 (t : xT) (C : List mE) (f : Nat → Int32) : mset (mw t, C) 1 (.inl (0, 602, .inl f)) = (mw (wa t 1 f), C) := rfl
theorem gm_2 (t : xT) (C : List mE) : mget (mw t, C) 2 = some (.inl (0, 602, .inl (ra t 2))) := rfl
theorem st_2 (t : xT) (C : List mE) (f : Nat → Int32) : mset (mw t, C) 2 (.inl (0, 602, .inl f)) = (mw (wa t 2 f), C) := rfl
theorem gm_3 (t : xT) (C : List mE) : mget (mw t, C) 3 = some (.inl (0, 602, .inl (ra t 3))) := rfl
theorem st_3 (t : xT) (C : List mE) (f : Nat → Int32) : mset (mw t, C) 3 (.inl (0, 602, .inl f)) = (mw (wa t 3 f), C) := rfl
theorem gm_4 (t : xT) (C : List mE) : mget (mw t, C) 4 = some (.inl (0, 4816, .inl (ra t 4))) := rfl
theorem st_4 (t : xT) (C : List mE) (f : Nat → Int32) : mset (mw t, C) 4 (.inl (0, 4816, .inl f)) = (mw (wa t 4 f), C) := rfl
theorem gm_5 (t : xT) (C : List mE) : mget (mw t, C) 5 = some (.inl (0, 80, .inl (ra t 5))) := rfl
theorem st_5 (t : xT) (C : List mE) (f : Nat → Int32) : mset (mw t, C) 5 (.inl (0, 80, .inl f)) = (mw (wa t 5 f), C) := rfl
theorem gm_6 (t : xT) (C : List mE) : mget (mw t, C) 6 = some (.inl (0, 64, .inl (ra t 6))) := rfl
theorem st_6 (t : xT) (C : List mE) (f : Nat → Int32) : mset (mw t, C) 6 (.inl (0, 64, .inl f)) = (mw (wa t 6 f), C) := rfl
theorem gm_7 (t : xT) (C : List mE) : mget (mw t, C) 7 = some (.inl (0, 64, .inl (ra t 7))) := rfl
theorem st_7 (t : xT) (C : List mE) (f : Nat → Int32) : mset (mw t, C) 7 (.inl (0, 64, .inl f)) = (mw (wa t 7 f), C) := rfl
theorem gm_8 (t : xT) (C : List mE) : mget (mw t, C) 8 = some (.inl (0, 64, .inl (ra t 8))) := rfl
theorem st_8 (t : xT) (C : List mE) (f : Nat → Int32) : mset (mw t, C) 8 (.inl (0, 64, .inl f)) = (mw (wa t 8 f), C) := rfl
theorem gm_9 (t : xT) (C : List mE) : mget (mw t, C) 9 = some (.inl (3, 64, .inl (ra t 9))) := rfl
theorem st_9 (t : xT) (C : List mE) (f : Nat → Int32) : mset (mw t, C) 9 (.inl (3, 64, .inl f)) = (mw (wa t 9 f), C) := rfl
theorem gm_10 (t : xT) (C : List mE) : mget (mw t, C) 10 = some (.inl (3, 64, .inl (ra t 10))) := rfl
theorem st_10 (t : xT) (C : List mE) (f : Nat → Int32) : mset (mw t, C) 10 (.inl (3, 64, .inl f)) = (mw (wa t 10 f), C) := rfl
theorem gm_11 (t : xT) (C : List mE) : mget (mw t, C) 11 = some (.inl (3, 64, .inl (ra t 11))) := rfl
theorem st_11 (t : xT) (C : List mE) (f : Nat → Int32) : mset (mw t, C) 11 (.inl (3, 64, .inl f)) = (mw (wa t 11 f), C) := rfl
theorem gm_12 (t : xT) (C : List mE) : mget (mw t, C) 12 = some (.inl (0, 32, .inl (ra t 12))) := rfl
theorem st_12 (t : xT) (C : List mE) (f : Nat → Int32) : mset (mw t, C) 12 (.inl (0, 32, .inl f)) = (mw (wa t 12 f), C) := rfl
theorem gm_13 (t : xT) (C : List mE) : mget (mw t, C) 13 = some (.inl (0, 64, .inl (ra t 13))) := rfl
theorem st_13 (t : xT) (C : List mE) (f : Nat → Int32) : mset (mw t, C) 13 (.inl (0, 64, .inl f)) = (mw (wa t 13 f), C) := rfl
theorem gm_14 (t : xT) (C : List mE) : mget (mw t, C) 14 = some (.inl (1, 1000, .inr (.inl (rb t)))) := rfl
theorem st_14 (t : xT) (C : List mE) (f : Nat → Int64) : mset (mw t, C) 14 (.inl (1, 1000, .inr (.inl f))) = (mw (wb t f), C) := rfl
theorem gm_15 (t : xT) (C : List mE) : mget (mw t, C) 15 = some (.inl (0, 1000, .inl (ra t 15))) := rfl
theorem st_15 (t : xT) (C : List mE) (f : Nat → Int32) : mset (mw t, C) 15 (.inl (0, 1000, .inl f)) = (mw (wa t 15 f), C) := rfl
theorem gm_16 (t : xT) (C : List mE) : mget (mw t, C) 16 = some (.inl (0, 1000, .inl (ra t 16))) := rfl
theorem st_16 (t : xT) (C : List mE) (f : Nat → Int32) : mset (mw t, C) 16 (.inl (0, 1000, .inl f)) = (mw (wa t 16 f), C) := rfl
theorem gm_17 (t : xT) (C : List mE) : mget (mw t, C) 17 = some (.inl (0, 1000, .inl (ra t 17))) := rfl
theorem st_17 (t : xT) (C : List mE) (f : Nat → Int32) : mset (mw t, C) 17 (.inl (0, 1000, .inl f)) = (mw (wa t 17 f), C) := rfl
theorem gm_18 (t : xT) (C : List mE) : mget (mw t, C) 18 = some (.inl (0, 1000, .inl (ra t 18))) := rfl
theorem st_18 (t : xT) (C : List mE) (f : Nat → Int32) : mset (mw t, C) 18 (.inl (0, 1000, .inl f)) = (mw (wa t 18 f), C) := rfl
theorem gm_19 (t : xT) (C : List mE) : mget (mw t, C) 19 = some (.inl (1, 1, .inr (.inl (ro t)))) := rfl
theorem st_19 (t : xT) (C : List mE) (f : Nat → Int64) : mset (mw t, C) 19 (.inl (1, 1, .inr (.inl f))) = (mw (wo t f), C) := rfl
theorem sc_3 (t : xT) (C : List mE) (v : Int32) : mset (mw t, C) 0 (.inr (12, (mfs t).set 3 (.int v))) = (mw (ws t 3 v), C) := rfl
theorem sc_5 (t : xT) (C : List mE) (v : Int32) : mset (mw t, C) 0 (.inr (12, (mfs t).set 5 (.int v))) = (mw (ws t 5 v), C) := rfl
theorem sc_6 (t : xT) (C : List mE) (v : Int32) : mset (mw t, C) 0 (.inr (12, (mfs t).set 6 (.int v))) = (mw (ws t 6 v), C) := rfl
theorem sc_7 (t : xT) (C : List mE) (v : Int32) : mset (mw t, C) 0 (.inr (12, (mfs t).set 7 (.int v))) = (mw (ws t 7 v), C) := rfl
theorem sc_8 (t : xT) (C : List mE) (v : Int32) : mset (mw t, C) 0 (.inr (12, (mfs t).set 8 (.int v))) = (mw (ws t 8 v), C) := rfl
theorem sc_9 (t : xT) (C : List mE) (v : Int32) : mset (mw t, C) 0 (.inr (12, (mfs t).set 9 (.int v))) = (mw (ws t 9 v), C) := rfl
theorem sc_11 (t : xT) (C : List mE) (v : Int32) : mset (mw t, C) 0 (.inr (12, (mfs t).set 11 (.int v))) = (mw (ws t 11 v), C) := rfl
theorem sc_12 (t : xT) (C : List mE) (v : Int32) : mset (mw t, C) 0 (.inr (12, (mfs t).set 12 (.int v))) = (mw (ws t 12 v), C) := rfl
theorem sc_13 (t : xT) (C : List mE) (v : Int32) : mset (mw t, C) 0 (.inr (12, (mfs t).set 13 (.int v))) = (mw (ws t 13 v), C) := rfl
theorem sc_14 (t : xT) (C : List mE) (v : Int32) : mset (mw t, C) 0 (.inr (12, (mfs t).set 14 (.int v))) = (mw (ws t 14 v), C) := rfl
theorem sc_16 (t : xT) (C : List mE) (v : Int32) : mset (mw t, C) 0 (.inr (12, (mfs t).set 16 (.int v))) = (mw (ws t 16 v), C) := rfl
theorem sc_21 (t : xT) (C : List mE) (v : Int32) : mset (mw t, C) 0 (.inr (12, (mfs t).set 21 (.int v))) = (mw (ws t 21 v), C) := rfl
theorem sc_24 (t : xT) (C : List mE) (v : Int32) : mset (mw t, C) 0 (.inr (12, (mfs t).set 24 (.int v))) = (mw (ws t 24 v), C) := rfl
theorem sc_26 (t : xT) (C : List mE) (v : Int32) : mset (mw t, C) 0 (.inr (12, (mfs t).set 26 (.int v))) = (mw (ws t 26 v), C) := rfl
theorem sc_31 (t : xT) (C : List mE) (v : Int32) : mset (mw t, C) 0 (.inr (12, (mfs t).set 31 (.int v))) = (mw (ws t 31 v), C) := rfl
theorem sc_33 (t : xT) (C : List mE) (v : Int32) : mset (mw t, C) 0 (.inr (12, (mfs t).set 33 (.int v))) = (mw (ws t 33 v), C) := rfl
theorem sc_34 (t : xT) (C : List mE) (v : Int32) : mset (mw t, C) 0 (.inr (12, (mfs t).set 34 (.int v))) = (mw (ws t 34 v), C) := rfl
theorem sc_35 (t : xT) (C : List mE) (v : Int32) : mset (mw t, C) 0 (.inr (12, (mfs t).set 35 (.int v))) = (mw (ws t 35 v), C) := rfl
def f_thrown (t : xT)  : Int32 := (rs t 9)
theorem d_X12_thrown_0 : decode (mB M_X12_thrown) 0 = .ok (.aload_n 0, 1) := by decide +kernel
theorem d_X12_thrown_1 : decode (mB M_X12_thrown) 1 = .ok (.getfield 73, 3) := by decide +kernel
theorem d_X12_thrown_4 : decode (mB M_X12_thrown) 4 = .ok (.ireturn, 1) := by decide +kernel
theorem c_m_thrown {E : mEnv} (hE : E.1.stackTraces = false) (C : List mE) (t : xT)  : Rt E M_X12_thrown 0 [.ref 0] (mw t, C) (some (.int (f_thrown t))) (mw t, C) := by
  generalize h : f_thrown t = r
  unfold f_thrown at h
  refine Rt.of hE rfl pn_X12 (Nat.le_of_ble_eq_true rfl) ?_
  refine g_eq (S' := (0, [some (.ref 0)], [], (mw t, C))) rfl ?_
  refine g_aload_n d_X12_thrown_0 rfl ?_
  refine g_getf d_X12_thrown_1 f_X12_73 (gm0 t C) rfl ?_
  rw [← h]
  exact g_retI d_X12_thrown_4 rfl rfl rfl
def f_undo_L (N : Nat) : Nat → Int32 → xT → Option (Int32 × xT)
  | 0, _, _ => none
  | n + 1, v1, t =>
    if 602 ≤ v1 then (some ((rs t 5), t))
    else (if inB ((602 * (rs t 5)) + v1) 4816 = true then (if inB v1 602 = true then (Option.bind (some (wa t 1 (upd (ra t 1) (Int32.toNatClampNeg v1) ((ra t 4) (Int32.toNatClampNeg ((602 * (rs t 5)) + v1)))))) fun t_64 =>
      f_undo_L N n (v1 + 1) t_64) else none) else none)
theorem u_undo_37 (N n : Nat) (v1 : Int32) (t : xT) : f_undo_L N (n + 1) v1 t = (if 602 ≤ v1 then (some ((rs t 5), t))
    else (if inB ((602 * (rs t 5)) + v1) 4816 = true then (if inB v1 602 = true then (Option.bind (some (wa t 1 (upd (ra t 1) (Int32.toNatClampNeg v1) ((ra t 4) (Int32.toNatClampNeg ((602 * (rs t 5)) + v1)))))) fun t_64 =>
      f_undo_L N n (v1 + 1) t_64) else none) else none)) := rfl
def f_undo (N : Nat) (t : xT)  : Option (Int32 × xT) :=
  Option.bind (if (rs t 5) = 0 then (some (1 : Int32))
    else (some (0 : Int32))) fun (r_5 : Int32) =>
  Option.bind (some (ws t 9 r_5)) fun t_13 =>
  if (rs t_13 9) ≤ 0 then (Option.bind (some (ws t_13 5 ((rs t_13 5) - 1))) fun t_32 =>
    f_undo_L N N 0 t_32)
  else (some ((0 : Int32), t_13))
theorem d_X12_undo_0 : decode (mB M_X12_undo) 0 = .ok (.aload_n 0, 1) := by decide +kernel
theorem d_X12_undo_1 : decode (mB M_X12_undo) 1 = .ok (.aload_n 0, 1) := by decide +kernel
theorem d_X12_undo_2 : decode (mB M_X12_undo) 2 = .ok (.getfield 80, 3) := by decide +kernel
theorem d_X12_undo_5 : decode (mB M_X12_undo) 5 = .ok (.ifCond .ne 7, 3) := by decide +kernel
theorem d_X12_undo_8 : decode (mB M_X12_undo) 8 = .ok (.iconst 1, 1) := by decide +kernel
theorem d_X12_undo_9 : decode (mB M_X12_undo) 9 = .ok (.goto 4, 3) := by decide +kernel
theorem d_X12_undo_12 : decode (mB M_X12_undo) 12 = .ok (.iconst 0, 1) := by decide +kernel
theorem d_X12_undo_13 : decode (mB M_X12_undo) 13 = .ok (.putfield 73, 3) := by decide +kernel
theorem d_X12_undo_16 : decode (mB M_X12_undo) 16 = .ok (.aload_n 0, 1) := by decide +kernel
theorem d_X12_undo_17 : decode (mB M_X12_undo) 17 = .ok (.getfield 73, 3) := by decide +kernel
theorem d_X12_undo_20 : decode (mB M_X12_undo) 20 = .ok (.ifCond .le 5, 3) := by decide +kernel
theorem d_X12_undo_23 : decode (mB M_X12_undo) 23 = .ok (.iconst 0, 1) := by decide +kernel
theorem d_X12_undo_24 : decode (mB M_X12_undo) 24 = .ok (.ireturn, 1) := by decide +kernel
theorem d_X12_undo_25 : decode (mB M_X12_undo) 25 = .ok (.aload_n 0, 1) := by decide +kernel
theorem d_X12_undo_26 : decode (mB M_X12_undo) 26 = .ok (.dup, 1) := by decide +kernel
theorem d_X12_undo_27 : decode (mB M_X12_undo) 27 = .ok (.getfield 80, 3) := by decide +kernel
theorem d_X12_undo_30 : decode (mB M_X12_undo) 30 = .ok (.iconst 1, 1) := by decide +kernel
theorem d_X12_undo_31 : decode (mB M_X12_undo) 31 = .ok (.isub, 1) := by decide +kernel
theorem d_X12_undo_32 : decode (mB M_X12_undo) 32 = .ok (.putfield 80, 3) := by decide +kernel
theorem d_X12_undo_35 : decode (mB M_X12_undo) 35 = .ok (.iconst 0, 1) := by decide +kernel
theorem d_X12_undo_36 : decode (mB M_X12_undo) 36 = .ok (.istore_n 1, 1) := by decide +kernel
theorem d_X12_undo_37 : decode (mB M_X12_undo) 37 = .ok (.iload_n 1, 1) := by decide +kernel
theorem d_X12_undo_38 : decode (mB M_X12_undo) 38 = .ok (.sipush 602, 3) := by decide +kernel
theorem d_X12_undo_41 : decode (mB M_X12_undo) 41 = .ok (.if_icmp .ge 30, 3) := by decide +kernel
theorem d_X12_undo_44 : decode (mB M_X12_undo) 44 = .ok (.aload_n 0, 1) := by decide +kernel
theorem d_X12_undo_45 : decode (mB M_X12_undo) 45 = .ok (.getfield 7, 3) := by decide +kernel
theorem d_X12_undo_48 : decode (mB M_X12_undo) 48 = .ok (.iload_n 1, 1) := by decide +kernel
theorem d_X12_undo_49 : decode (mB M_X12_undo) 49 = .ok (.aload_n 0, 1) := by decide +kernel
theorem d_X12_undo_50 : decode (mB M_X12_undo) 50 = .ok (.getfield 19, 3) := by decide +kernel
theorem d_X12_undo_53 : decode (mB M_X12_undo) 53 = .ok (.sipush 602, 3) := by decide +kernel
theorem d_X12_undo_56 : decode (mB M_X12_undo) 56 = .ok (.aload_n 0, 1) := by decide +kernel
theorem d_X12_undo_57 : decode (mB M_X12_undo) 57 = .ok (.getfield 80, 3) := by decide +kernel
theorem d_X12_undo_60 : decode (mB M_X12_undo) 60 = .ok (.imul, 1) := by decide +kernel
theorem d_X12_undo_61 : decode (mB M_X12_undo) 61 = .ok (.iload_n 1, 1) := by decide +kernel
theorem d_X12_undo_62 : decode (mB M_X12_undo) 62 = .ok (.iadd, 1) := by decide +kernel
theorem d_X12_undo_63 : decode (mB M_X12_undo) 63 = .ok (.iaload, 1) := by decide +kernel
theorem d_X12_undo_64 : decode (mB M_X12_undo) 64 = .ok (.iastore, 1) := by decide +kernel
theorem d_X12_undo_65 : decode (mB M_X12_undo) 65 = .ok (.iinc 1 1, 3) := by decide +kernel
theorem d_X12_undo_68 : decode (mB M_X12_undo) 68 = .ok (.goto (-31), 3) := by decide +kernel
theorem d_X12_undo_71 : decode (mB M_X12_undo) 71 = .ok (.aload_n 0, 1) := by decide +kernel
theorem d_X12_undo_72 : decode (mB M_X12_undo) 72 = .ok (.getfield 80, 3) := by decide +kernel
theorem d_X12_undo_75 : decode (mB M_X12_undo) 75 = .ok (.ireturn, 1) := by decide +kernel
theorem l_m_undo {E : mEnv} (hE : E.1.stackTraces = false) (C : List mE) (N : Nat) : ∀ n : Nat, (∀ (v1 : Int32) (t : xT) (r : Int32 × xT), f_undo_L N n v1 t = some r → Go E M_X12_undo 0 (37, [some (.ref 0), some (.int v1)], [], (mw t, C)) (.inr (.inl (some (.int r.1), (mw r.2, C))))) := by
  intro n
  induction n with
  | zero => exact fun v1 t r h => by cases h
  | succ n ih =>
    intro v1 t r h
    rw [u_undo_37] at h
    refine g_iload_n d_X12_undo_37 rfl ?_
    refine g_sipush (v := 602) d_X12_undo_38 (by decide) ?_
    refine g_icmp_ge (tgt := 71) d_X12_undo_41 (by decide) (fun c_41 => ?_) (fun c_41 => ?_)
    · replace h := opos c_41 h
      refine g_aload_n d_X12_undo_71 rfl ?_
      refine g_getf d_X12_undo_72 f_X12_80 (gm0 t C) rfl ?_
      obtain rfl := osome h
      exact g_retI d_X12_undo_75 rfl rfl rfl
    · replace h := oneg c_41 h
      refine g_aload_n d_X12_undo_44 rfl ?_
      refine g_getf d_X12_undo_45 f_X12_7 (gm0 t C) rfl ?_
      refine g_iload_n d_X12_undo_48 rfl ?_
      refine g_aload_n d_X12_undo_49 rfl ?_
      refine g_getf d_X12_undo_50 f_X12_19 (gm0 t C) rfl ?_
      refine g_sipush (v := 602) d_X12_undo_53 (by decide) ?_
      refine g_aload_n d_X12_undo_56 rfl ?_
      refine g_getf d_X12_undo_57 f_X12_80 (gm0 t C) rfl ?_
      refine g_imul d_X12_undo_60 ?_
      refine g_iload_n d_X12_undo_61 rfl ?_
      refine g_iadd d_X12_undo_62 ?_
      obtain ⟨i_63, h⟩ := ochk h
      refine g_iald d_X12_undo_63 (gm_4 t C) (inB_in i_63) ?_
      obtain ⟨i_64, h⟩ := ochk h
      obtain ⟨t_64, e_64, h⟩ := olet h
      refine g_iast (w' := (mw t_64, C)) d_X12_undo_64 (gm_1 t C) (inB_in i_64) (by rw [e_64]; exact st_1 t C _) ?_
      refine g_iinc (v := (v1 + 1)) (L' := [some (.ref 0), some (.int (v1 + 1))]) d_X12_undo_65 rfl rfl rfl ?_
      refine g_goto (tgt := 37) d_X12_undo_68 (by decide) ?_
      exact (ih) (v1 + 1) t_64 _ h
theorem c_m_undo {E : mEnv} (hE : E.1.stackTraces = false) (C : List mE) (N : Nat) (t : xT)  (r : Int32 × xT) (h : f_undo N t = some r) : Rt E M_X12_undo 0 [.ref 0] (mw t, C) (some (.int r.1)) (mw r.2, C) := by
  unfold f_undo at h
  refine Rt.of hE rfl pn_X12 (Nat.le_of_ble_eq_true rfl) ?_
  refine g_eq (S' := (0, [some (.ref 0), none], [], (mw t, C))) rfl ?_
  refine g_aload_n d_X12_undo_0 rfl ?_
  refine g_aload_n d_X12_undo_1 rfl ?_
  refine g_getf d_X12_undo_2 f_X12_80 (gm0 t C) rfl ?_
  obtain ⟨r_5, h_5, hh_5⟩ := obind h
  refine Go.trans0 (S1 := (13, [some (.ref 0), none], [.int r_5, .ref 0], (mw t, C))) ?_ ?_
  · replace h := h_5
    clear hh_5
    refine g_if_ne (tgt := 12) d_X12_undo_5 (by decide) (fun c_5 => ?_) (fun c_5 => ?_)
    · replace h := oneg c_5 h
      refine g_iconst (v := 0) d_X12_undo_12 (by decide) ?_
      obtain rfl := osome h
      exact g_end rfl
    · replace h := opos c_5 h
      refine g_iconst (v := 1) d_X12_undo_8 (by decide) ?_
      refine g_goto (tgt := 13) d_X12_undo_9 (by decide) ?_
      obtain rfl := osome h
      exact g_end rfl
  replace h := hh_5
  obtain ⟨t_13, e_13, h⟩ := olet h
  refine g_putI (w' := (mw t_13, C)) d_X12_undo_13 p_X12_73 rfl rfl (gm0 t C) (Nat.le_of_ble_eq_true rfl) (by rw [e_13]; exact sc_9 t C _) ?_
  refine g_aload_n d_X12_undo_16 rfl ?_
  refine g_getf d_X12_undo_17 f_X12_73 (gm0 t_13 C) rfl ?_
  refine g_if_le (tgt := 25) d_X12_undo_20 (by decide) (fun c_20 => ?_) (fun c_20 => ?_)
  · replace h := opos c_20 h
    refine g_aload_n d_X12_undo_25 rfl ?_
    refine g_dup d_X12_undo_26 rfl ?_
    refine g_getf d_X12_undo_27 f_X12_80 (gm0 t_13 C) rfl ?_
    refine g_iconst (v := 1) d_X12_undo_30 (by decide) ?_
    refine g_isub d_X12_undo_31 ?_
    obtain ⟨t_32, e_32, h⟩ := olet h
    refine g_putI (w' := (mw t_32, C)) d_X12_undo_32 p_X12_80 rfl rfl (gm0 t_13 C) (Nat.le_of_ble_eq_true rfl) (by rw [e_32]; exact sc_5 t_13 C _) ?_
    refine g_iconst (v := 0) d_X12_undo_35 (by decide) ?_
    refine g_istore_n (L' := [some (.ref 0), some (.int 0)]) d_X12_undo_36 rfl rfl ?_
    exact (l_m_undo hE C N N) 0 t_32 _ h
  · replace h := oneg c_20 h
    refine g_iconst (v := 0) d_X12_undo_23 (by decide) ?_
    obtain rfl := osome h
    exact g_retI d_X12_undo_24 rfl rfl rfl
def f_hasRoom (t : xT)  : Option (Int32) :=
  Option.bind (if ((ra t 1) (Int32.toNatClampNeg 0)) = 1 then (some (1 : Int32))
    else (some (0 : Int32))) fun (r_7 : Int32) =>
  if r_7 &&& 1 = r_7 then (some r_7) else none
theorem d_X12_hasRoom_0 : decode (mB M_X12_hasRoom) 0 = .ok (.aload_n 0, 1) := by decide +kernel
theorem d_X12_hasRoom_1 : decode (mB M_X12_hasRoom) 1 = .ok (.getfield 7, 3) := by decide +kernel
theorem d_X12_hasRoom_4 : decode (mB M_X12_hasRoom) 4 = .ok (.iconst 0, 1) := by decide +kernel
theorem d_X12_hasRoom_5 : decode (mB M_X12_hasRoom) 5 = .ok (.iaload, 1) := by decide +kernel
theorem d_X12_hasRoom_6 : decode (mB M_X12_hasRoom) 6 = .ok (.iconst 1, 1) := by decide +kernel
theorem d_X12_hasRoom_7 : decode (mB M_X12_hasRoom) 7 = .ok (.if_icmp .ne 7, 3) := by decide +kernel
theorem d_X12_hasRoom_10 : decode (mB M_X12_hasRoom) 10 = .ok (.iconst 1, 1) := by decide +kernel
theorem d_X12_hasRoom_11 : decode (mB M_X12_hasRoom) 11 = .ok (.goto 4, 3) := by decide +kernel
theorem d_X12_hasRoom_14 : decode (mB M_X12_hasRoom) 14 = .ok (.iconst 0, 1) := by decide +kernel
theorem d_X12_hasRoom_15 : decode (mB M_X12_hasRoom) 15 = .ok (.ireturn, 1) := by decide +kernel
theorem c_m_hasRoom {E : mEnv} (hE : E.1.stackTraces = false) (C : List mE) (t : xT)  (r : Int32) (h : f_hasRoom t = some r) : Rt E M_X12_hasRoom 0 [.ref 0] (mw t, C) (some (.int r)) (mw t, C) := by
  unfold f_hasRoom at h
  refine Rt.of hE rfl pn_X12 (Nat.le_of_ble_eq_true rfl) ?_
  refine g_eq (S' := (0, [some (.ref 0)], [], (mw t, C))) rfl ?_
  refine g_aload_n d_X12_hasRoom_0 rfl ?_
  refine g_getf d_X12_hasRoom_1 f_X12_7 (gm0 t C) rfl ?_
  refine g_iconst (v := 0) d_X12_hasRoom_4 (by decide) ?_
  refine g_iald d_X12_hasRoom_5 (gm_1 t C) (inB_in (by decide)) ?_
  refine g_iconst (v := 1) d_X12_hasRoom_6 (by decide) ?_
  obtain ⟨r_7, h_7, hh_7⟩ := obind h
  refine Go.trans0 (S1 := (15, [none], [.int r_7], (mw t, C))) ?_ ?_
  · replace h := h_7
    clear hh_7
    refine g_icmp_ne (tgt := 14) d_X12_hasRoom_7 (by decide) (fun c_7 => ?_) (fun c_7 => ?_)
    · replace h := oneg c_7 h
      refine g_iconst (v := 0) d_X12_hasRoom_14 (by decide) ?_
      obtain rfl := osome h
      exact g_drop [0] rfl (g_end rfl)
    · replace h := opos c_7 h
      refine g_iconst (v := 1) d_X12_hasRoom_10 (by decide) ?_
      refine g_goto (tgt := 15) d_X12_hasRoom_11 (by decide) ?_
      obtain rfl := osome h
      exact g_drop [0] rfl (g_end rfl)
  replace h := hh_7
  obtain ⟨i_15, h⟩ := ochk h
  obtain rfl := osome h
  exact g_retZ d_X12_hasRoom_15 rfl i_15 rfl rfl
def f_saveSnapshot_L (N : Nat) : Nat → Int32 → xT → Option (Int32 × xT)
  | 0, _, _ => none
  | n + 1, v1, t =>
    if 602 ≤ v1 then (some (((ra t 1) (Int32.toNatClampNeg 4)), t))
    else (if inB v1 602 = true then (if inB v1 602 = true then (Option.bind (some (wa t 2 (upd (ra t 2) (Int32.toNatClampNeg v1) ((ra t 1) (Int32.toNatClampNeg v1))))) fun t_50 =>
      f_saveSnapshot_L N n (v1 + 1) t_50) else none) else none)
theorem u_saveSnapshot_32 (N n : Nat) (v1 : Int32) (t : xT) : f_saveSnapshot_L N (n + 1) v1 t = (if 602 ≤ v1 then (some (((ra t 1) (Int32.toNatClampNeg 4)), t))
    else (if inB v1 602 = true then (if inB v1 602 = true then (Option.bind (some (wa t 2 (upd (ra t 2) (Int32.toNatClampNeg v1) ((ra t 1) (Int32.toNatClampNeg v1))))) fun t_50 =>
      f_saveSnapshot_L N n (v1 + 1) t_50) else none) else none)) := rfl
def f_saveSnapshot (N : Nat) (t : xT)  : Option (Int32 × xT) :=
  Option.bind (f_hasRoom t) fun r_2 =>
  Option.bind (if r_2 = 0 then (some (1 : Int32))
    else (some (0 : Int32))) fun (r_5 : Int32) =>
  Option.bind (some (ws t 9 r_5)) fun t_13 =>
  if (rs t_13 9) ≤ 0 then (Option.bind (some (ws t_13 3 1)) fun t_27 =>
    f_saveSnapshot_L N N 0 t_27)
  else (some ((0 : Int32), t_13))
theorem d_X12_saveSnapshot_0 : decode (mB M_X12_saveSnapshot) 0 = .ok (.aload_n 0, 1) := by decide +kernel
theorem d_X12_saveSnapshot_1 : decode (mB M_X12_saveSnapshot) 1 = .ok (.aload_n 0, 1) := by decide +kernel
theorem d_X12_saveSnapshot_2 : decode (mB M_X12_saveSnapshot) 2 = .ok (.invokevirtual 83, 3) := by decide +kernel
theorem d_X12_saveSnapshot_5 : decode (mB M_X12_saveSnapshot) 5 = .ok (.ifCond .eq 7, 3) := by decide +kernel
theorem d_X12_saveSnapshot_8 : decode (mB M_X12_saveSnapshot) 8 = .ok (.iconst 0, 1) := by decide +kernel
theorem d_X12_saveSnapshot_9 : decode (mB M_X12_saveSnapshot) 9 = .ok (.goto 4, 3) := by decide +kernel
theorem d_X12_saveSnapshot_12 : decode (mB M_X12_saveSnapshot) 12 = .ok (.iconst 1, 1) := by decide +kernel
theorem d_X12_saveSnapshot_13 : decode (mB M_X12_saveSnapshot) 13 = .ok (.putfield 73, 3) := by decide +kernel
theorem d_X12_saveSnapshot_16 : decode (mB M_X12_saveSnapshot) 16 = .ok (.aload_n 0, 1) := by decide +kernel
theorem d_X12_saveSnapshot_17 : decode (mB M_X12_saveSnapshot) 17 = .ok (.getfield 73, 3) := by decide +kernel
theorem d_X12_saveSnapshot_20 : decode (mB M_X12_saveSnapshot) 20 = .ok (.ifCond .le 5, 3) := by decide +kernel
theorem d_X12_saveSnapshot_23 : decode (mB M_X12_saveSnapshot) 23 = .ok (.iconst 0, 1) := by decide +kernel
theorem d_X12_saveSnapshot_24 : decode (mB M_X12_saveSnapshot) 24 = .ok (.ireturn, 1) := by decide +kernel
theorem d_X12_saveSnapshot_25 : decode (mB M_X12_saveSnapshot) 25 = .ok (.aload_n 0, 1) := by decide +kernel
theorem d_X12_saveSnapshot_26 : decode (mB M_X12_saveSnapshot) 26 = .ok (.iconst 1, 1) := by decide +kernel
theorem d_X12_saveSnapshot_27 : decode (mB M_X12_saveSnapshot) 27 = .ok (.putfield 87, 3) := by decide +kernel
theorem d_X12_saveSnapshot_30 : decode (mB M_X12_saveSnapshot) 30 = .ok (.iconst 0, 1) := by decide +kernel
theorem d_X12_saveSnapshot_31 : decode (mB M_X12_saveSnapshot) 31 = .ok (.istore_n 1, 1) := by decide +kernel
theorem d_X12_saveSnapshot_32 : decode (mB M_X12_saveSnapshot) 32 = .ok (.iload_n 1, 1) := by decide +kernel
theorem d_X12_saveSnapshot_33 : decode (mB M_X12_saveSnapshot) 33 = .ok (.sipush 602, 3) := by decide +kernel
theorem d_X12_saveSnapshot_36 : decode (mB M_X12_saveSnapshot) 36 = .ok (.if_icmp .ge 21, 3) := by decide +kernel
theorem d_X12_saveSnapshot_39 : decode (mB M_X12_saveSnapshot) 39 = .ok (.aload_n 0, 1) := by decide +kernel
theorem d_X12_saveSnapshot_40 : decode (mB M_X12_saveSnapshot) 40 = .ok (.getfield 13, 3) := by decide +kernel
theorem d_X12_saveSnapshot_43 : decode (mB M_X12_saveSnapshot) 43 = .ok (.iload_n 1, 1) := by decide +kernel
theorem d_X12_saveSnapshot_44 : decode (mB M_X12_saveSnapshot) 44 = .ok (.aload_n 0, 1) := by decide +kernel
theorem d_X12_saveSnapshot_45 : decode (mB M_X12_saveSnapshot) 45 = .ok (.getfield 7, 3) := by decide +kernel
theorem d_X12_saveSnapshot_48 : decode (mB M_X12_saveSnapshot) 48 = .ok (.iload_n 1, 1) := by decide +kernel
theorem d_X12_saveSnapshot_49 : decode (mB M_X12_saveSnapshot) 49 = .ok (.iaload, 1) := by decide +kernel
theorem d_X12_saveSnapshot_50 : decode (mB M_X12_saveSnapshot) 50 = .ok (.iastore, 1) := by decide +kernel
theorem d_X12_saveSnapshot_51 : decode (mB M_X12_saveSnapshot) 51 = .ok (.iinc 1 1, 3) := by decide +kernel
theorem d_X12_saveSnapshot_54 : decode (mB M_X12_saveSnapshot) 54 = .ok (.goto (-22), 3) := by decide +kernel
theorem d_X12_saveSnapshot_57 : decode (mB M_X12_saveSnapshot) 57 = .ok (.aload_n 0, 1) := by decide +kernel
theorem d_X12_saveSnapshot_58 : decode (mB M_X12_saveSnapshot) 58 = .ok (.getfield 7, 3) := by decide +kernel
theorem d_X12_saveSnapshot_61 : decode (mB M_X12_saveSnapshot) 61 = .ok (.iconst 4, 1) := by decide +kernel
theorem d_X12_saveSnapshot_62 : decode (mB M_X12_saveSnapshot) 62 = .ok (.iaload, 1) := by decide +kernel
theorem d_X12_saveSnapshot_63 : decode (mB M_X12_saveSnapshot) 63 = .ok (.ireturn, 1) := by decide +kernel
theorem l_m_saveSnapshot {E : mEnv} (hE : E.1.stackTraces = false) (C : List mE) (N : Nat) : ∀ n : Nat, (∀ (v1 : Int32) (t : xT) (r : Int32 × xT), f_saveSnapshot_L N n v1 t = some r → Go E M_X12_saveSnapshot 0 (32, [some (.ref 0), some (.int v1)], [], (mw t, C)) (.inr (.inl (some (.int r.1), (mw r.2, C))))) := by
  intro n
  induction n with
  | zero => exact fun v1 t r h => by cases h
  | succ n ih =>
    intro v1 t r h
    rw [u_saveSnapshot_32] at h
    refine g_iload_n d_X12_saveSnapshot_32 rfl ?_
    refine g_sipush (v := 602) d_X12_saveSnapshot_33 (by decide) ?_
    refine g_icmp_ge (tgt := 57) d_X12_saveSnapshot_36 (by decide) (fun c_36 => ?_) (fun c_36 => ?_)
    · replace h := opos c_36 h
      refine g_aload_n d_X12_saveSnapshot_57 rfl ?_
      refine g_getf d_X12_saveSnapshot_58 f_X12_7 (gm0 t C) rfl ?_
      refine g_iconst (v := 4) d_X12_saveSnapshot_61 (by decide) ?_
      refine g_iald d_X12_saveSnapshot_62 (gm_1 t C) (inB_in (by decide)) ?_
      obtain rfl := osome h
      exact g_retI d_X12_saveSnapshot_63 rfl rfl rfl
    · replace h := oneg c_36 h
      refine g_aload_n d_X12_saveSnapshot_39 rfl ?_
      refine g_getf d_X12_saveSnapshot_40 f_X12_13 (gm0 t C) rfl ?_
      refine g_iload_n d_X12_saveSnapshot_43 rfl ?_
      refine g_aload_n d_X12_saveSnapshot_44 rfl ?_
      refine g_getf d_X12_saveSnapshot_45 f_X12_7 (gm0 t C) rfl ?_
      refine g_iload_n d_X12_saveSnapshot_48 rfl ?_
      obtain ⟨i_49, h⟩ := ochk h
      refine g_iald d_X12_saveSnapshot_49 (gm_1 t C) (inB_in i_49) ?_
      obtain ⟨i_50, h⟩ := ochk h
      obtain ⟨t_50, e_50, h⟩ := olet h
      refine g_iast (w' := (mw t_50, C)) d_X12_saveSnapshot_50 (gm_2 t C) (inB_in i_50) (by rw [e_50]; exact st_2 t C _) ?_
      refine g_iinc (v := (v1 + 1)) (L' := [some (.ref 0), some (.int (v1 + 1))]) d_X12_saveSnapshot_51 rfl rfl rfl ?_
      refine g_goto (tgt := 32) d_X12_saveSnapshot_54 (by decide) ?_
      exact (ih) (v1 + 1) t_50 _ h
theorem c_m_saveSnapshot {E : mEnv} (hE : E.1.stackTraces = false) (C : List mE) (N : Nat) (t : xT)  (r : Int32 × xT) (h : f_saveSnapshot N t = some r) : Rt E M_X12_saveSnapshot 0 [.ref 0] (mw t, C) (some (.int r.1)) (mw r.2, C) := by
  unfold f_saveSnapshot at h
  refine Rt.of hE rfl pn_X12 (Nat.le_of_ble_eq_true rfl) ?_
  refine g_eq (S' := (0, [some (.ref 0), none], [], (mw t, C))) rfl ?_
  refine g_aload_n d_X12_saveSnapshot_0 rfl ?_
  refine g_aload_n d_X12_saveSnapshot_1 rfl ?_
  obtain ⟨r_2, h_2, h⟩ := obind h
  refine g_callV (As := []) d_X12_saveSnapshot_2 o_X12_hasRoom l_X12_83 ⟨Nat.le_of_ble_eq_true rfl, Nat.le_of_ble_eq_true rfl⟩ (c_m_hasRoom hE C t _ h_2) (gm0 t C) rfl rfl rfl rfl rfl ?_ (Nat.zero_add _)
  obtain ⟨r_5, h_5, hh_5⟩ := obind h
  refine Go.trans0 (S1 := (13, [some (.ref 0), none], [.int r_5, .ref 0], (mw t, C))) ?_ ?_
  · replace h := h_5
    clear hh_5
    refine g_if_eq (tgt := 12) d_X12_saveSnapshot_5 (by decide) (fun c_5 => ?_) (fun c_5 => ?_)
    · replace h := opos c_5 h
      refine g_iconst (v := 1) d_X12_saveSnapshot_12 (by decide) ?_
      obtain rfl := osome h
      exact g_end rfl
    · replace h := oneg c_5 h
      refine g_iconst (v := 0) d_X12_saveSnapshot_8 (by decide) ?_
      refine g_goto (tgt := 13) d_X12_saveSnapshot_9 (by decide) ?_
      obtain rfl := osome h
      exact g_end rfl
  replace h := hh_5
  obtain ⟨t_13, e_13, h⟩ := olet h
  refine g_putI (w' := (mw t_13, C)) d_X12_saveSnapshot_13 p_X12_73 rfl rfl (gm0 t C) (Nat.le_of_ble_eq_true rfl) (by rw [e_13]; exact sc_9 t C _) ?_
  refine g_aload_n d_X12_saveSnapshot_16 rfl ?_
  refine g_getf d_X12_saveSnapshot_17 f_X12_73 (gm0 t_13 C) rfl ?_
  refine g_if_le (tgt := 25) d_X12_saveSnapshot_20 (by decide) (fun c_20 => ?_) (fun c_20 => ?_)
  · replace h := opos c_20 h
    refine g_aload_n d_X12_saveSnapshot_25 rfl ?_
    refine g_iconst (v := 1) d_X12_saveSnapshot_26 (by decide) ?_
    obtain ⟨t_27, e_27, h⟩ := olet h
    refine g_putI (w' := (mw t_27, C)) d_X12_saveSnapshot_27 p_X12_87 rfl rfl (gm0 t_13 C) (Nat.le_of_ble_eq_true rfl) (by rw [e_27]; exact sc_3 t_13 C _) ?_
    refine g_iconst (v := 0) d_X12_saveSnapshot_30 (by decide) ?_
    refine g_istore_n (L' := [some (.ref 0), some (.int 0)]) d_X12_saveSnapshot_31 rfl rfl ?_
    exact (l_m_saveSnapshot hE C N N) 0 t_27 _ h
  · replace h := oneg c_20 h
    refine g_iconst (v := 0) d_X12_saveSnapshot_23 (by decide) ?_
    obtain rfl := osome h
    exact g_retI d_X12_saveSnapshot_24 rfl rfl rfl
def f_restoreSnapshot_L (N : Nat) : Nat → Int32 → xT → Option (Int32 × xT)
  | 0, _, _ => none
  | n + 1, v1, t =>
    if 602 ≤ v1 then (Option.bind (some (ws t 5 0)) fun t_54 =>
      some (((ra t_54 1) (Int32.toNatClampNeg 4)), t_54))
    else (if inB v1 602 = true then (if inB v1 602 = true then (Option.bind (some (wa t 1 (upd (ra t 1) (Int32.toNatClampNeg v1) ((ra t 2) (Int32.toNatClampNeg v1))))) fun t_45 =>
      f_restoreSnapshot_L N n (v1 + 1) t_45) else none) else none)
theorem u_restoreSnapshot_27 (N n : Nat) (v1 : Int32) (t : xT) : f_restoreSnapshot_L N (n + 1) v1 t = (if 602 ≤ v1 then (Option.bind (some (ws t 5 0)) fun t_54 =>
      some (((ra t_54 1) (Int32.toNatClampNeg 4)), t_54))
    else (if inB v1 602 = true then (if inB v1 602 = true then (Option.bind (some (wa t 1 (upd (ra t 1) (Int32.toNatClampNeg v1) ((ra t 2) (Int32.toNatClampNeg v1))))) fun t_45 =>
      f_restoreSnapshot_L N n (v1 + 1) t_45) else none) else none)) := rfl
def f_restoreSnapshot (N : Nat) (t : xT)  : Option (Int32 × xT) :=
  Option.bind (if (rs t 3) = 0 then (some (1 : Int32))
    else (some (0 : Int32))) fun (r_5 : Int32) =>
  Option.bind (some (ws t 9 r_5)) fun t_13 =>
  if (rs t_13 9) ≤ 0 then (f_restoreSnapshot_L N N 0 t_13)
  else (some ((0 : Int32), t_13))
theorem d_X12_restoreSnapshot_0 : decode (mB M_X12_restoreSnapshot) 0 = .ok (.aload_n 0, 1) := by decide +kernel
theorem d_X12_restoreSnapshot_1 : decode (mB M_X12_restoreSnapshot) 1 = .ok (.aload_n 0, 1) := by decide +kernel
theorem d_X12_restoreSnapshot_2 : decode (mB M_X12_restoreSnapshot) 2 = .ok (.getfield 87, 3) := by decide +kernel
theorem d_X12_restoreSnapshot_5 : decode (mB M_X12_restoreSnapshot) 5 = .ok (.ifCond .eq 7, 3) := by decide +kernel
theorem d_X12_restoreSnapshot_8 : decode (mB M_X12_restoreSnapshot) 8 = .ok (.iconst 0, 1) := by decide +kernel
theorem d_X12_restoreSnapshot_9 : decode (mB M_X12_restoreSnapshot) 9 = .ok (.goto 4, 3) := by decide +kernel
theorem d_X12_restoreSnapshot_12 : decode (mB M_X12_restoreSnapshot) 12 = .ok (.iconst 1, 1) := by decide +kernel
theorem d_X12_restoreSnapshot_13 : decode (mB M_X12_restoreSnapshot) 13 = .ok (.putfield 73, 3) := by decide +kernel
theorem d_X12_restoreSnapshot_16 : decode (mB M_X12_restoreSnapshot) 16 = .ok (.aload_n 0, 1) := by decide +kernel
theorem d_X12_restoreSnapshot_17 : decode (mB M_X12_restoreSnapshot) 17 = .ok (.getfield 73, 3) := by decide +kernel
theorem d_X12_restoreSnapshot_20 : decode (mB M_X12_restoreSnapshot) 20 = .ok (.ifCond .le 5, 3) := by decide +kernel
theorem d_X12_restoreSnapshot_23 : decode (mB M_X12_restoreSnapshot) 23 = .ok (.iconst 0, 1) := by decide +kernel
theorem d_X12_restoreSnapshot_24 : decode (mB M_X12_restoreSnapshot) 24 = .ok (.ireturn, 1) := by decide +kernel
theorem d_X12_restoreSnapshot_25 : decode (mB M_X12_restoreSnapshot) 25 = .ok (.iconst 0, 1) := by decide +kernel
theorem d_X12_restoreSnapshot_26 : decode (mB M_X12_restoreSnapshot) 26 = .ok (.istore_n 1, 1) := by decide +kernel
theorem d_X12_restoreSnapshot_27 : decode (mB M_X12_restoreSnapshot) 27 = .ok (.iload_n 1, 1) := by decide +kernel
theorem d_X12_restoreSnapshot_28 : decode (mB M_X12_restoreSnapshot) 28 = .ok (.sipush 602, 3) := by decide +kernel
theorem d_X12_restoreSnapshot_31 : decode (mB M_X12_restoreSnapshot) 31 = .ok (.if_icmp .ge 21, 3) := by decide +kernel
theorem d_X12_restoreSnapshot_34 : decode (mB M_X12_restoreSnapshot) 34 = .ok (.aload_n 0, 1) := by decide +kernel
theorem d_X12_restoreSnapshot_35 : decode (mB M_X12_restoreSnapshot) 35 = .ok (.getfield 7, 3) := by decide +kernel
theorem d_X12_restoreSnapshot_38 : decode (mB M_X12_restoreSnapshot) 38 = .ok (.iload_n 1, 1) := by decide +kernel
theorem d_X12_restoreSnapshot_39 : decode (mB M_X12_restoreSnapshot) 39 = .ok (.aload_n 0, 1) := by decide +kernel
theorem d_X12_restoreSnapshot_40 : decode (mB M_X12_restoreSnapshot) 40 = .ok (.getfield 13, 3) := by decide +kernel
theorem d_X12_restoreSnapshot_43 : decode (mB M_X12_restoreSnapshot) 43 = .ok (.iload_n 1, 1) := by decide +kernel
theorem d_X12_restoreSnapshot_44 : decode (mB M_X12_restoreSnapshot) 44 = .ok (.iaload, 1) := by decide +kernel
theorem d_X12_restoreSnapshot_45 : decode (mB M_X12_restoreSnapshot) 45 = .ok (.iastore, 1) := by decide +kernel
theorem d_X12_restoreSnapshot_46 : decode (mB M_X12_restoreSnapshot) 46 = .ok (.iinc 1 1, 3) := by decide +kernel
theorem d_X12_restoreSnapshot_49 : decode (mB M_X12_restoreSnapshot) 49 = .ok (.goto (-22), 3) := by decide +kernel
theorem d_X12_restoreSnapshot_52 : decode (mB M_X12_restoreSnapshot) 52 = .ok (.aload_n 0, 1) := by decide +kernel
theorem d_X12_restoreSnapshot_53 : decode (mB M_X12_restoreSnapshot) 53 = .ok (.iconst 0, 1) := by decide +kernel
theorem d_X12_restoreSnapshot_54 : decode (mB M_X12_restoreSnapshot) 54 = .ok (.putfield 80, 3) := by decide +kernel
theorem d_X12_restoreSnapshot_57 : decode (mB M_X12_restoreSnapshot) 57 = .ok (.aload_n 0, 1) := by decide +kernel
theorem d_X12_restoreSnapshot_58 : decode (mB M_X12_restoreSnapshot) 58 = .ok (.getfield 7, 3) := by decide +kernel
theorem d_X12_restoreSnapshot_61 : decode (mB M_X12_restoreSnapshot) 61 = .ok (.iconst 4, 1) := by decide +kernel
theorem d_X12_restoreSnapshot_62 : decode (mB M_X12_restoreSnapshot) 62 = .ok (.iaload, 1) := by decide +kernel
theorem d_X12_restoreSnapshot_63 : decode (mB M_X12_restoreSnapshot) 63 = .ok (.ireturn, 1) := by decide +kernel
theorem l_m_restoreSnapshot {E : mEnv} (hE : E.1.stackTraces = false) (C : List mE) (N : Nat) : ∀ n : Nat, (∀ (v1 : Int32) (t : xT) (r : Int32 × xT), f_restoreSnapshot_L N n v1 t = some r → Go E M_X12_restoreSnapshot 0 (27, [some (.ref 0), some (.int v1)], [], (mw t, C)) (.inr (.inl (some (.int r.1), (mw r.2, C))))) := by
  intro n
  induction n with
  | zero => exact fun v1 t r h => by cases h
  | succ n ih =>
    intro v1 t r h
    rw [u_restoreSnapshot_27] at h
    refine g_iload_n d_X12_restoreSnapshot_27 rfl ?_
    refine g_sipush (v := 602) d_X12_restoreSnapshot_28 (by decide) ?_
    refine g_icmp_ge (tgt := 52) d_X12_restoreSnapshot_31 (by decide) (fun c_31 => ?_) (fun c_31 => ?_)
    · replace h := opos c_31 h
      refine g_aload_n d_X12_restoreSnapshot_52 rfl ?_
      refine g_iconst (v := 0) d_X12_restoreSnapshot_53 (by decide) ?_
      obtain ⟨t_54, e_54, h⟩ := olet h
      refine g_putI (w' := (mw t_54, C)) d_X12_restoreSnapshot_54 p_X12_80 rfl rfl (gm0 t C) (Nat.le_of_ble_eq_true rfl) (by rw [e_54]; exact sc_5 t C _) ?_
      refine g_aload_n d_X12_restoreSnapshot_57 rfl ?_
      refine g_getf d_X12_restoreSnapshot_58 f_X12_7 (gm0 t_54 C) rfl ?_
      refine g_iconst (v := 4) d_X12_restoreSnapshot_61 (by decide) ?_
      refine g_iald d_X12_restoreSnapshot_62 (gm_1 t_54 C) (inB_in (by decide)) ?_
      obtain rfl := osome h
      exact g_retI d_X12_restoreSnapshot_63 rfl rfl rfl
    · replace h := oneg c_31 h
      refine g_aload_n d_X12_restoreSnapshot_34 rfl ?_
      refine g_getf d_X12_restoreSnapshot_35 f_X12_7 (gm0 t C) rfl ?_
      refine g_iload_n d_X12_restoreSnapshot_38 rfl ?_
      refine g_aload_n d_X12_restoreSnapshot_39 rfl ?_
      refine g_getf d_X12_restoreSnapshot_40 f_X12_13 (gm0 t C) rfl ?_
      refine g_iload_n d_X12_restoreSnapshot_43 rfl ?_
      obtain ⟨i_44, h⟩ := ochk h
      refine g_iald d_X12_restoreSnapshot_44 (gm_2 t C) (inB_in i_44) ?_
      obtain ⟨i_45, h⟩ := ochk h
      obtain ⟨t_45, e_45, h⟩ := olet h
      refine g_iast (w' := (mw t_45, C)) d_X12_restoreSnapshot_45 (gm_1 t C) (inB_in i_45) (by rw [e_45]; exact st_1 t C _) ?_
      refine g_iinc (v := (v1 + 1)) (L' := [some (.ref 0), some (.int (v1 + 1))]) d_X12_restoreSnapshot_46 rfl rfl rfl ?_
      refine g_goto (tgt := 27) d_X12_restoreSnapshot_49 (by decide) ?_
      exact (ih) (v1 + 1) t_45 _ h
theorem c_m_restoreSnapshot {E : mEnv} (hE : E.1.stackTraces = false) (C : List mE) (N : Nat) (t : xT)  (r : Int32 × xT) (h : f_restoreSnapshot N t = some r) : Rt E M_X12_restoreSnapshot 0 [.ref 0] (mw t, C) (some (.int r.1)) (mw r.2, C) := by
  unfold f_restoreSnapshot at h
  refine Rt.of hE rfl pn_X12 (Nat.le_of_ble_eq_true rfl) ?_
  refine g_eq (S' := (0, [some (.ref 0), none], [], (mw t, C))) rfl ?_
  refine g_aload_n d_X12_restoreSnapshot_0 rfl ?_
  refine g_aload_n d_X12_restoreSnapshot_1 rfl ?_
  refine g_getf d_X12_restoreSnapshot_2 f_X12_87 (gm0 t C) rfl ?_
  obtain ⟨r_5, h_5, hh_5⟩ := obind h
  refine Go.trans0 (S1 := (13, [some (.ref 0), none], [.int r_5, .ref 0], (mw t, C))) ?_ ?_
  · replace h := h_5
    clear hh_5
    refine g_if_eq (tgt := 12) d_X12_restoreSnapshot_5 (by decide) (fun c_5 => ?_) (fun c_5 => ?_)
    · replace h := opos c_5 h
      refine g_iconst (v := 1) d_X12_restoreSnapshot_12 (by decide) ?_
      obtain rfl := osome h
      exact g_end rfl
    · replace h := oneg c_5 h
      refine g_iconst (v := 0) d_X12_restoreSnapshot_8 (by decide) ?_
      refine g_goto (tgt := 13) d_X12_restoreSnapshot_9 (by decide) ?_
      obtain rfl := osome h
      exact g_end rfl
  replace h := hh_5
  obtain ⟨t_13, e_13, h⟩ := olet h
  refine g_putI (w' := (mw t_13, C)) d_X12_restoreSnapshot_13 p_X12_73 rfl rfl (gm0 t C) (Nat.le_of_ble_eq_true rfl) (by rw [e_13]; exact sc_9 t C _) ?_
  refine g_aload_n d_X12_restoreSnapshot_16 rfl ?_
  refine g_getf d_X12_restoreSnapshot_17 f_X12_73 (gm0 t_13 C) rfl ?_
  refine g_if_le (tgt := 25) d_X12_restoreSnapshot_20 (by decide) (fun c_20 => ?_) (fun c_20 => ?_)
  · replace h := opos c_20 h
    refine g_iconst (v := 0) d_X12_restoreSnapshot_25 (by decide) ?_
    refine g_istore_n (L' := [some (.ref 0), some (.int 0)]) d_X12_restoreSnapshot_26 rfl rfl ?_
    exact (l_m_restoreSnapshot hE C N N) 0 t_13 _ h
  · replace h := oneg c_20 h
    refine g_iconst (v := 0) d_X12_restoreSnapshot_23 (by decide) ?_
    obtain rfl := osome h
    exact g_retI d_X12_restoreSnapshot_24 rfl rfl rfl
def f_in (a0 : Int32) (a1 : Int32) (a2 : Int32) : Option (Int32) :=
  Option.bind (if a0 < a1 then (some (0 : Int32))
    else (if a2 < a0 then (some (0 : Int32))
      else (some (1 : Int32)))) fun (r_2 : Int32) =>
  if r_2 &&& 1 = r_2 then (some r_2) else none
theorem d_X12_in_0 : decode (mB M_X12_in) 0 = .ok (.iload_n 0, 1) := by decide +kernel
theorem d_X12_in_1 : decode (mB M_X12_in) 1 = .ok (.iload_n 1, 1) := by decide +kernel
theorem d_X12_in_2 : decode (mB M_X12_in) 2 = .ok (.if_icmp .lt 12, 3) := by decide +kernel
theorem d_X12_in_5 : decode (mB M_X12_in) 5 = .ok (.iload_n 0, 1) := by decide +kernel
theorem d_X12_in_6 : decode (mB M_X12_in) 6 = .ok (.iload_n 2, 1) := by decide +kernel
theorem d_X12_in_7 : decode (mB M_X12_in) 7 = .ok (.if_icmp .gt 7, 3) := by decide +kernel
theorem d_X12_in_10 : decode (mB M_X12_in) 10 = .ok (.iconst 1, 1) := by decide +kernel
theorem d_X12_in_11 : decode (mB M_X12_in) 11 = .ok (.goto 4, 3) := by decide +kernel
theorem d_X12_in_14 : decode (mB M_X12_in) 14 = .ok (.iconst 0, 1) := by decide +kernel
theorem d_X12_in_15 : decode (mB M_X12_in) 15 = .ok (.ireturn, 1) := by decide +kernel
theorem c_m_in {E : mEnv} (hE : E.1.stackTraces = false) (C : List mE) (t : xT) (a0 : Int32) (a1 : Int32) (a2 : Int32) (r : Int32) (h : f_in a0 a1 a2 = some r) : Rt E M_X12_in 0 [.int a0, .int a1, .int a2] (mw t, C) (some (.int r)) (mw t, C) := by
  unfold f_in at h
  refine Rt.of hE rfl pn_X12 (Nat.le_of_ble_eq_true rfl) ?_
  refine g_eq (S' := (0, [some (.int a0), some (.int a1), some (.int a2)], [], (mw t, C))) rfl ?_
  refine g_iload_n d_X12_in_0 rfl ?_
  refine g_iload_n d_X12_in_1 rfl ?_
  obtain ⟨r_2, h_2, hh_2⟩ := obind h
  refine Go.trans0 (S1 := (15, [none, none, none], [.int r_2], (mw t, C))) ?_ ?_
  · replace h := h_2
    clear hh_2
    refine g_icmp_lt (tgt := 14) d_X12_in_2 (by decide) (fun c_2 => ?_) (fun c_2 => ?_)
    · replace h := opos c_2 h
      refine g_iconst (v := 0) d_X12_in_14 (by decide) ?_
      obtain rfl := osome h
      exact g_drop [0, 1, 2] rfl (g_end rfl)
    · replace h := oneg c_2 h
      refine g_iload_n d_X12_in_5 rfl ?_
      refine g_iload_n d_X12_in_6 rfl ?_
      refine g_icmp_gt (tgt := 14) d_X12_in_7 (by decide) (fun c_7 => ?_) (fun c_7 => ?_)
      · replace h := opos c_7 h
        refine g_iconst (v := 0) d_X12_in_14 (by decide) ?_
        obtain rfl := osome h
        exact g_drop [0, 1, 2] rfl (g_end rfl)
      · replace h := oneg c_7 h
        refine g_iconst (v := 1) d_X12_in_10 (by decide) ?_
        refine g_goto (tgt := 15) d_X12_in_11 (by decide) ?_
        obtain rfl := osome h
        exact g_drop [0, 1, 2] rfl (g_end rfl)
  replace h := hh_2
  obtain ⟨i_15, h⟩ := ochk h
  obtain rfl := osome h
  exact g_retZ d_X12_in_15 rfl i_15 rfl rfl
def f_feed (t : xT) (a0 : Int32) : Option (Int32 × xT) :=
  Option.bind (f_in a0 32 126) fun r_6 =>
  Option.bind (if r_6 = 0 then (some (1 : Int32))
    else (if (rs t 11) = 80 then (some (2 : Int32))
      else (some (0 : Int32)))) fun (r_9 : Int32) =>
  Option.bind (some (ws t 9 r_9)) fun t_30 =>
  if (rs t_30 9) ≤ 0 then (if inB (rs t_30 11) 80 = true then (Option.bind (some (wa t_30 5 (upd (ra t_30 5) (Int32.toNatClampNeg (rs t_30 11)) a0))) fun t_51 =>
    Option.bind (some (ws t_51 11 ((rs t_51 11) + 1))) fun t_59 =>
    some ((rs t_59 11), t_59)) else none)
  else (some ((0 : Int32), t_30))
theorem d_X12_feed_0 : decode (mB M_X12_feed) 0 = .ok (.aload_n 0, 1) := by decide +kernel
theorem d_X12_feed_1 : decode (mB M_X12_feed) 1 = .ok (.iload_n 1, 1) := by decide +kernel
theorem d_X12_feed_2 : decode (mB M_X12_feed) 2 = .ok (.bipush 32, 2) := by decide +kernel
theorem d_X12_feed_4 : decode (mB M_X12_feed) 4 = .ok (.bipush 126, 2) := by decide +kernel
theorem d_X12_feed_6 : decode (mB M_X12_feed) 6 = .ok (.invokestatic 76, 3) := by decide +kernel
theorem d_X12_feed_9 : decode (mB M_X12_feed) 9 = .ok (.ifCond .eq 20, 3) := by decide +kernel
theorem d_X12_feed_12 : decode (mB M_X12_feed) 12 = .ok (.aload_n 0, 1) := by decide +kernel
theorem d_X12_feed_13 : decode (mB M_X12_feed) 13 = .ok (.getfield 91, 3) := by decide +kernel
theorem d_X12_feed_16 : decode (mB M_X12_feed) 16 = .ok (.bipush 80, 2) := by decide +kernel
theorem d_X12_feed_18 : decode (mB M_X12_feed) 18 = .ok (.if_icmp .ne 7, 3) := by decide +kernel
theorem d_X12_feed_21 : decode (mB M_X12_feed) 21 = .ok (.iconst 2, 1) := by decide +kernel
theorem d_X12_feed_22 : decode (mB M_X12_feed) 22 = .ok (.goto 8, 3) := by decide +kernel
theorem d_X12_feed_25 : decode (mB M_X12_feed) 25 = .ok (.iconst 0, 1) := by decide +kernel
theorem d_X12_feed_26 : decode (mB M_X12_feed) 26 = .ok (.goto 4, 3) := by decide +kernel
theorem d_X12_feed_29 : decode (mB M_X12_feed) 29 = .ok (.iconst 1, 1) := by decide +kernel
theorem d_X12_feed_30 : decode (mB M_X12_feed) 30 = .ok (.putfield 73, 3) := by decide +kernel
theorem d_X12_feed_33 : decode (mB M_X12_feed) 33 = .ok (.aload_n 0, 1) := by decide +kernel
theorem d_X12_feed_34 : decode (mB M_X12_feed) 34 = .ok (.getfield 73, 3) := by decide +kernel
theorem d_X12_feed_37 : decode (mB M_X12_feed) 37 = .ok (.ifCond .le 5, 3) := by decide +kernel
theorem d_X12_feed_40 : decode (mB M_X12_feed) 40 = .ok (.iconst 0, 1) := by decide +kernel
theorem d_X12_feed_41 : decode (mB M_X12_feed) 41 = .ok (.ireturn, 1) := by decide +kernel
theorem d_X12_feed_42 : decode (mB M_X12_feed) 42 = .ok (.aload_n 0, 1) := by decide +kernel
theorem d_X12_feed_43 : decode (mB M_X12_feed) 43 = .ok (.getfield 26, 3) := by decide +kernel
theorem d_X12_feed_46 : decode (mB M_X12_feed) 46 = .ok (.aload_n 0, 1) := by decide +kernel
theorem d_X12_feed_47 : decode (mB M_X12_feed) 47 = .ok (.getfield 91, 3) := by decide +kernel
theorem d_X12_feed_50 : decode (mB M_X12_feed) 50 = .ok (.iload_n 1, 1) := by decide +kernel
theorem d_X12_feed_51 : decode (mB M_X12_feed) 51 = .ok (.iastore, 1) := by decide +kernel
theorem d_X12_feed_52 : decode (mB M_X12_feed) 52 = .ok (.aload_n 0, 1) := by decide +kernel
theorem d_X12_feed_53 : decode (mB M_X12_feed) 53 = .ok (.dup, 1) := by decide +kernel
theorem d_X12_feed_54 : decode (mB M_X12_feed) 54 = .ok (.getfield 91, 3) := by decide +kernel
theorem d_X12_feed_57 : decode (mB M_X12_feed) 57 = .ok (.iconst 1, 1) := by decide +kernel
theorem d_X12_feed_58 : decode (mB M_X12_feed) 58 = .ok (.iadd, 1) := by decide +kernel
theorem d_X12_feed_59 : decode (mB M_X12_feed) 59 = .ok (.putfield 91, 3) := by decide +kernel
theorem d_X12_feed_62 : decode (mB M_X12_feed) 62 = .ok (.aload_n 0, 1) := by decide +kernel
theorem d_X12_feed_63 : decode (mB M_X12_feed) 63 = .ok (.getfield 91, 3) := by decide +kernel
theorem d_X12_feed_66 : decode (mB M_X12_feed) 66 = .ok (.ireturn, 1) := by decide +kernel
theorem c_m_feed {E : mEnv} (hE : E.1.stackTraces = false) (C : List mE) (t : xT) (a0 : Int32) (r : Int32 × xT) (h : f_feed t a0 = some r) : Rt E M_X12_feed 0 [.ref 0, .int a0] (mw t, C) (some (.int r.1)) (mw r.2, C) := by
  unfold f_feed at h
  refine Rt.of hE rfl pn_X12 (Nat.le_of_ble_eq_true rfl) ?_
  refine g_eq (S' := (0, [some (.ref 0), some (.int a0)], [], (mw t, C))) rfl ?_
  refine g_aload_n d_X12_feed_0 rfl ?_
  refine g_iload_n d_X12_feed_1 rfl ?_
  refine g_bipush (v := 32) d_X12_feed_2 (by decide) ?_
  refine g_bipush (v := 126) d_X12_feed_4 (by decide) ?_
  obtain ⟨r_6, h_6, h⟩ := obind h
  refine g_callS (As := [.int a0, .int 32, .int 126]) d_X12_feed_6 o_X12_in l_X12_76 ⟨Nat.le_of_ble_eq_true rfl, Nat.le_of_ble_eq_true rfl⟩ (c_m_in hE C t a0 32 126 _ h_6) rfl rfl ?_ (Nat.zero_add _)
  obtain ⟨r_9, h_9, hh_9⟩ := obind h
  refine Go.trans0 (S1 := (30, [some (.ref 0), some (.int a0)], [.int r_9, .ref 0], (mw t, C))) ?_ ?_
  · replace h := h_9
    clear hh_9
    refine g_if_eq (tgt := 29) d_X12_feed_9 (by decide) (fun c_9 => ?_) (fun c_9 => ?_)
    · replace h := opos c_9 h
      refine g_iconst (v := 1) d_X12_feed_29 (by decide) ?_
      obtain rfl := osome h
      exact g_end rfl
    · replace h := oneg c_9 h
      refine g_aload_n d_X12_feed_12 rfl ?_
      refine g_getf d_X12_feed_13 f_X12_91 (gm0 t C) rfl ?_
      refine g_bipush (v := 80) d_X12_feed_16 (by decide) ?_
      refine g_icmp_ne (tgt := 25) d_X12_feed_18 (by decide) (fun c_18 => ?_) (fun c_18 => ?_)
      · replace h := oneg c_18 h
        refine g_iconst (v := 0) d_X12_feed_25 (by decide) ?_
        refine g_goto (tgt := 30) d_X12_feed_26 (by decide) ?_
        obtain rfl := osome h
        exact g_end rfl
      · replace h := opos c_18 h
        refine g_iconst (v := 2) d_X12_feed_21 (by decide) ?_
        refine g_goto (tgt := 30) d_X12_feed_22 (by decide) ?_
        obtain rfl := osome h
        exact g_end rfl
  replace h := hh_9
  obtain ⟨t_30, e_30, h⟩ := olet h
  refine g_putI (w' := (mw t_30, C)) d_X12_feed_30 p_X12_73 rfl rfl (gm0 t C) (Nat.le_of_ble_eq_true rfl) (by rw [e_30]; exact sc_9 t C _) ?_
  refine g_aload_n d_X12_feed_33 rfl ?_
  refine g_getf d_X12_feed_34 f_X12_73 (gm0 t_30 C) rfl ?_
  refine g_if_le (tgt := 42) d_X12_feed_37 (by decide) (fun c_37 => ?_) (fun c_37 => ?_)
  · replace h := opos c_37 h
    refine g_aload_n d_X12_feed_42 rfl ?_
    refine g_getf d_X12_feed_43 f_X12_26 (gm0 t_30 C) rfl ?_
    refine g_aload_n d_X12_feed_46 rfl ?_
    refine g_getf d_X12_feed_47 f_X12_91 (gm0 t_30 C) rfl ?_
    refine g_iload_n d_X12_feed_50 rfl ?_
    obtain ⟨i_51, h⟩ := ochk h
    obtain ⟨t_51, e_51, h⟩ := olet h
    refine g_iast (w' := (mw t_51, C)) d_X12_feed_51 (gm_5 t_30 C) (inB_in i_51) (by rw [e_51]; exact st_5 t_30 C _) ?_
    refine g_aload_n d_X12_feed_52 rfl ?_
    refine g_dup d_X12_feed_53 rfl ?_
    refine g_getf d_X12_feed_54 f_X12_91 (gm0 t_51 C) rfl ?_
    refine g_iconst (v := 1) d_X12_feed_57 (by decide) ?_
    refine g_iadd d_X12_feed_58 ?_
    obtain ⟨t_59, e_59, h⟩ := olet h
    refine g_putI (w' := (mw t_59, C)) d_X12_feed_59 p_X12_91 rfl rfl (gm0 t_51 C) (Nat.le_of_ble_eq_true rfl) (by rw [e_59]; exact sc_11 t_51 C _) ?_
    refine g_aload_n d_X12_feed_62 rfl ?_
    refine g_getf d_X12_feed_63 f_X12_91 (gm0 t_59 C) rfl ?_
    obtain rfl := osome h
    exact g_retI d_X12_feed_66 rfl rfl rfl
  · replace h := oneg c_37 h
    refine g_iconst (v := 0) d_X12_feed_40 (by decide) ?_
    obtain rfl := osome h
    exact g_retI d_X12_feed_41 rfl rfl rfl
def f_isBoxText (a0 : Int32) : Option (Int32) :=
  Option.bind (if a0 = 36 then (some (1 : Int32))
    else (if a0 = 42 then (some (1 : Int32))
      else (some (0 : Int32)))) fun (r_3 : Int32) =>
  if r_3 &&& 1 = r_3 then (some r_3) else none
theorem d_X12_isBoxText_0 : decode (mB M_X12_isBoxText) 0 = .ok (.iload_n 0, 1) := by decide +kernel
theorem d_X12_isBoxText_1 : decode (mB M_X12_isBoxText) 1 = .ok (.bipush 36, 2) := by decide +kernel
theorem d_X12_isBoxText_3 : decode (mB M_X12_isBoxText) 3 = .ok (.if_icmp .eq 9, 3) := by decide +kernel
theorem d_X12_isBoxText_6 : decode (mB M_X12_isBoxText) 6 = .ok (.iload_n 0, 1) := by decide +kernel
theorem d_X12_isBoxText_7 : decode (mB M_X12_isBoxText) 7 = .ok (.bipush 42, 2) := by decide +kernel
theorem d_X12_isBoxText_9 : decode (mB M_X12_isBoxText) 9 = .ok (.if_icmp .ne 7, 3) := by decide +kernel
theorem d_X12_isBoxText_12 : decode (mB M_X12_isBoxText) 12 = .ok (.iconst 1, 1) := by decide +kernel
theorem d_X12_isBoxText_13 : decode (mB M_X12_isBoxText) 13 = .ok (.goto 4, 3) := by decide +kernel
theorem d_X12_isBoxText_16 : decode (mB M_X12_isBoxText) 16 = .ok (.iconst 0, 1) := by decide +kernel
theorem d_X12_isBoxText_17 : decode (mB M_X12_isBoxText) 17 = .ok (.ireturn, 1) := by decide +kernel
theorem c_m_isBoxText {E : mEnv} (hE : E.1.stackTraces = false) (C : List mE) (t : xT) (a0 : Int32) (r : Int32) (h : f_isBoxText a0 = some r) : Rt E M_X12_isBoxText 0 [.int a0] (mw t, C) (some (.int r)) (mw t, C) := by
  unfold f_isBoxText at h
  refine Rt.of hE rfl pn_X12 (Nat.le_of_ble_eq_true rfl) ?_
  refine g_eq (S' := (0, [some (.int a0)], [], (mw t, C))) rfl ?_
  refine g_iload_n d_X12_isBoxText_0 rfl ?_
  refine g_bipush (v := 36) d_X12_isBoxText_1 (by decide) ?_
  obtain ⟨r_3, h_3, hh_3⟩ := obind h
  refine Go.trans0 (S1 := (17, [none], [.int r_3], (mw t, C))) ?_ ?_
  · replace h := h_3
    clear hh_3
    refine g_icmp_eq (tgt := 12) d_X12_isBoxText_3 (by decide) (fun c_3 => ?_) (fun c_3 => ?_)
    · replace h := opos c_3 h
      refine g_iconst (v := 1) d_X12_isBoxText_12 (by decide) ?_
      refine g_goto (tgt := 17) d_X12_isBoxText_13 (by decide) ?_
      obtain rfl := osome h
      exact g_drop [0] rfl (g_end rfl)
    · replace h := oneg c_3 h
      refine g_iload_n d_X12_isBoxText_6 rfl ?_
      refine g_bipush (v := 42) d_X12_isBoxText_7 (by decide) ?_
      refine g_icmp_ne (tgt := 16) d_X12_isBoxText_9 (by decide) (fun c_9 => ?_) (fun c_9 => ?_)
      · replace h := oneg c_9 h
        refine g_iconst (v := 0) d_X12_isBoxText_16 (by decide) ?_
        obtain rfl := osome h
        exact g_drop [0] rfl (g_end rfl)
      · replace h := opos c_9 h
        refine g_iconst (v := 1) d_X12_isBoxText_12 (by decide) ?_
        refine g_goto (tgt := 17) d_X12_isBoxText_13 (by decide) ?_
        obtain rfl := osome h
        exact g_drop [0] rfl (g_end rfl)
  replace h := hh_3
  obtain ⟨i_17, h⟩ := ochk h
  obtain rfl := osome h
  exact g_retZ d_X12_isBoxText_17 rfl i_17 rfl rfl
def f_isPlayerText (a0 : Int32) : Option (Int32) :=
  Option.bind (if a0 = 64 then (some (1 : Int32))
    else (if a0 = 43 then (some (1 : Int32))
      else (some (0 : Int32)))) fun (r_3 : Int32) =>
  if r_3 &&& 1 = r_3 then (some r_3) else none
theorem d_X12_isPlayerText_0 : decode (mB M_X12_isPlayerText) 0 = .ok (.iload_n 0, 1) := by decide +kernel
theorem d_X12_isPlayerText_1 : decode (mB M_X12_isPlayerText) 1 = .ok (.bipush 64, 2) := by decide +kernel
theorem d_X12_isPlayerText_3 : decode (mB M_X12_isPlayerText) 3 = .ok (.if_icmp .eq 9, 3) := by decide +kernel
theorem d_X12_isPlayerText_6 : decode (mB M_X12_isPlayerText) 6 = .ok (.iload_n 0, 1) := by decide +kernel
theorem d_X12_isPlayerText_7 : decode (mB M_X12_isPlayerText) 7 = .ok (.bipush 43, 2) := by decide +kernel
theorem d_X12_isPlayerText_9 : decode (mB M_X12_isPlayerText) 9 = .ok (.if_icmp .ne 7, 3) := by decide +kernel
theorem d_X12_isPlayerText_12 : decode (mB M_X12_isPlayerText) 12 = .ok (.iconst 1, 1) := by decide +kernel
theorem d_X12_isPlayerText_13 : decode (mB M_X12_isPlayerText) 13 = .ok (.goto 4, 3) := by decide +kernel
theorem d_X12_isPlayerText_16 : decode (mB M_X12_isPlayerText) 16 = .ok (.iconst 0, 1) := by decide +kernel
theorem d_X12_isPlayerText_17 : decode (mB M_X12_isPlayerText) 17 = .ok (.ireturn, 1) := by decide +kernel
theorem c_m_isPlayerText {E : mEnv} (hE : E.1.stackTraces = false) (C : List mE) (t : xT) (a0 : Int32) (r : Int32) (h : f_isPlayerText a0 = some r) : Rt E M_X12_isPlayerText 0 [.int a0] (mw t, C) (some (.int r)) (mw t, C) := by
  unfold f_isPlayerText at h
  refine Rt.of hE rfl pn_X12 (Nat.le_of_ble_eq_true rfl) ?_
  refine g_eq (S' := (0, [some (.int a0)], [], (mw t, C))) rfl ?_
  refine g_iload_n d_X12_isPlayerText_0 rfl ?_
  refine g_bipush (v := 64) d_X12_isPlayerText_1 (by decide) ?_
  obtain ⟨r_3, h_3, hh_3⟩ := obind h
  refine Go.trans0 (S1 := (17, [none], [.int r_3], (mw t, C))) ?_ ?_
  · replace h := h_3
    clear hh_3
    refine g_icmp_eq (tgt := 12) d_X12_isPlayerText_3 (by decide) (fun c_3 => ?_) (fun c_3 => ?_)
    · replace h := opos c_3 h
      refine g_iconst (v := 1) d_X12_isPlayerText_12 (by decide) ?_
      refine g_goto (tgt := 17) d_X12_isPlayerText_13 (by decide) ?_
      obtain rfl := osome h
      exact g_drop [0] rfl (g_end rfl)
    · replace h := oneg c_3 h
      refine g_iload_n d_X12_isPlayerText_6 rfl ?_
      refine g_bipush (v := 43) d_X12_isPlayerText_7 (by decide) ?_
      refine g_icmp_ne (tgt := 16) d_X12_isPlayerText_9 (by decide) (fun c_9 => ?_) (fun c_9 => ?_)
      · replace h := oneg c_9 h
        refine g_iconst (v := 0) d_X12_isPlayerText_16 (by decide) ?_
        obtain rfl := osome h
        exact g_drop [0] rfl (g_end rfl)
      · replace h := opos c_9 h
        refine g_iconst (v := 1) d_X12_isPlayerText_12 (by decide) ?_
        refine g_goto (tgt := 17) d_X12_isPlayerText_13 (by decide) ?_
        obtain rfl := osome h
        exact g_drop [0] rfl (g_end rfl)
  replace h := hh_3
  obtain ⟨i_17, h⟩ := ochk h
  obtain rfl := osome h
  exact g_retZ d_X12_isPlayerText_17 rfl i_17 rfl rfl
def f_isCell (a0 : Int32) : Option (Int32) :=
  Option.bind (if a0 = 35 then (some (1 : Int32))
    else (if a0 = 45 then (some (1 : Int32))
      else (if a0 = 46 then (some (1 : Int32))
        else (if a0 = 36 then (some (1 : Int32))
          else (if a0 = 42 then (some (1 : Int32))
            else (if a0 = 64 then (some (1 : Int32))
              else (if a0 = 43 then (some (1 : Int32))
                else (some (0 : Int32))))))))) fun (r_3 : Int32) =>
  if r_3 &&& 1 = r_3 then (some r_3) else none
theorem d_X12_isCell_0 : decode (mB M_X12_isCell) 0 = .ok (.iload_n 0, 1) := by decide +kernel
theorem d_X12_isCell_1 : decode (mB M_X12_isCell) 1 = .ok (.bipush 35, 2) := by decide +kernel
theorem d_X12_isCell_3 : decode (mB M_X12_isCell) 3 = .ok (.if_icmp .eq 39, 3) := by decide +kernel
theorem d_X12_isCell_6 : decode (mB M_X12_isCell) 6 = .ok (.iload_n 0, 1) := by decide +kernel
theorem d_X12_isCell_7 : decode (mB M_X12_isCell) 7 = .ok (.bipush 45, 2) := by decide +kernel
theorem d_X12_isCell_9 : decode (mB M_X12_isCell) 9 = .ok (.if_icmp .eq 33, 3) := by decide +kernel
theorem d_X12_isCell_12 : decode (mB M_X12_isCell) 12 = .ok (.iload_n 0, 1) := by decide +kernel
theorem d_X12_isCell_13 : decode (mB M_X12_isCell) 13 = .ok (.bipush 46, 2) := by decide +kernel
theorem d_X12_isCell_15 : decode (mB M_X12_isCell) 15 = .ok (.if_icmp .eq 27, 3) := by decide +kernel
theorem d_X12_isCell_18 : decode (mB M_X12_isCell) 18 = .ok (.iload_n 0, 1) := by decide +kernel
theorem d_X12_isCell_19 : decode (mB M_X12_isCell) 19 = .ok (.bipush 36, 2) := by decide +kernel
theorem d_X12_isCell_21 : decode (mB M_X12_isCell) 21 = .ok (.if_icmp .eq 21, 3) := by decide +kernel
theorem d_X12_isCell_24 : decode (mB M_X12_isCell) 24 = .ok (.iload_n 0, 1) := by decide +kernel
theorem d_X12_isCell_25 : decode (mB M_X12_isCell) 25 = .ok (.bipush 42, 2) := by decide +kernel
theorem d_X12_isCell_27 : decode (mB M_X12_isCell) 27 = .ok (.if_icmp .eq 15, 3) := by decide +kernel
theorem d_X12_isCell_30 : decode (mB M_X12_isCell) 30 = .ok (.iload_n 0, 1) := by decide +kernel
theorem d_X12_isCell_31 : decode (mB M_X12_isCell) 31 = .ok (.bipush 64, 2) := by decide +kernel
theorem d_X12_isCell_33 : decode (mB M_X12_isCell) 33 = .ok (.if_icmp .eq 9, 3) := by decide +kernel
theorem d_X12_isCell_36 : decode (mB M_X12_isCell) 36 = .ok (.iload_n 0, 1) := by decide +kernel
theorem d_X12_isCell_37 : decode (mB M_X12_isCell) 37 = .ok (.bipush 43, 2) := by decide +kernel
theorem d_X12_isCell_39 : decode (mB M_X12_isCell) 39 = .ok (.if_icmp .ne 7, 3) := by decide +kernel
theorem d_X12_isCell_42 : decode (mB M_X12_isCell) 42 = .ok (.iconst 1, 1) := by decide +kernel
theorem d_X12_isCell_43 : decode (mB M_X12_isCell) 43 = .ok (.goto 4, 3) := by decide +kernel
theorem d_X12_isCell_46 : decode (mB M_X12_isCell) 46 = .ok (.iconst 0, 1) := by decide +kernel
theorem d_X12_isCell_47 : decode (mB M_X12_isCell) 47 = .ok (.ireturn, 1) := by decide +kernel
theorem c_m_isCell {E : mEnv} (hE : E.1.stackTraces = false) (C : List mE) (t : xT) (a0 : Int32) (r : Int32) (h : f_isCell a0 = some r) : Rt E M_X12_isCell 0 [.int a0] (mw t, C) (some (.int r)) (mw t, C) := by
  unfold f_isCell at h
  refine Rt.of hE rfl pn_X12 (Nat.le_of_ble_eq_true rfl) ?_
  refine g_eq (S' := (0, [some (.int a0)], [], (mw t, C))) rfl ?_
  refine g_iload_n d_X12_isCell_0 rfl ?_
  refine g_bipush (v := 35) d_X12_isCell_1 (by decide) ?_
  obtain ⟨r_3, h_3, hh_3⟩ := obind h
  refine Go.trans0 (S1 := (47, [none], [.int r_3], (mw t, C))) ?_ ?_
  · replace h := h_3
    clear hh_3
    refine g_icmp_eq (tgt := 42) d_X12_isCell_3 (by decide) (fun c_3 => ?_) (fun c_3 => ?_)
    · replace h := opos c_3 h
      refine g_iconst (v := 1) d_X12_isCell_42 (by decide) ?_
      refine g_goto (tgt := 47) d_X12_isCell_43 (by decide) ?_
      obtain rfl := osome h
      exact g_drop [0] rfl (g_end rfl)
    · replace h := oneg c_3 h
      refine g_iload_n d_X12_isCell_6 rfl ?_
      refine g_bipush (v := 45) d_X12_isCell_7 (by decide) ?_
      refine g_icmp_eq (tgt := 42) d_X12_isCell_9 (by decide) (fun c_9 => ?_) (fun c_9 => ?_)
      · replace h := opos c_9 h
        refine g_iconst (v := 1) d_X12_isCell_42 (by decide) ?_
        refine g_goto (tgt := 47) d_X12_isCell_43 (by decide) ?_
        obtain rfl := osome h
        exact g_drop [0] rfl (g_end rfl)
      · replace h := oneg c_9 h
        refine g_iload_n d_X12_isCell_12 rfl ?_
        refine g_bipush (v := 46) d_X12_isCell_13 (by decide) ?_
        refine g_icmp_eq (tgt := 42) d_X12_isCell_15 (by decide) (fun c_15 => ?_) (fun c_15 => ?_)
        · replace h := opos c_15 h
          refine g_iconst (v := 1) d_X12_isCell_42 (by decide) ?_
          refine g_goto (tgt := 47) d_X12_isCell_43 (by decide) ?_
          obtain rfl := osome h
          exact g_drop [0] rfl (g_end rfl)
        · replace h := oneg c_15 h
          refine g_iload_n d_X12_isCell_18 rfl ?_
          refine g_bipush (v := 36) d_X12_isCell_19 (by decide) ?_
          refine g_icmp_eq (tgt := 42) d_X12_isCell_21 (by decide) (fun c_21 => ?_) (fun c_21 => ?_)
          · replace h := opos c_21 h
            refine g_iconst (v := 1) d_X12_isCell_42 (by decide) ?_
            refine g_goto (tgt := 47) d_X12_isCell_43 (by decide) ?_
            obtain rfl := osome h
            exact g_drop [0] rfl (g_end rfl)
          · replace h := oneg c_21 h
            refine g_iload_n d_X12_isCell_24 rfl ?_
            refine g_bipush (v := 42) d_X12_isCell_25 (by decide) ?_
            refine g_icmp_eq (tgt := 42) d_X12_isCell_27 (by decide) (fun c_27 => ?_) (fun c_27 => ?_)
            · replace h := opos c_27 h
              refine g_iconst (v := 1) d_X12_isCell_42 (by decide) ?_
              refine g_goto (tgt := 47) d_X12_isCell_43 (by decide) ?_
              obtain rfl := osome h
              exact g_drop [0] rfl (g_end rfl)
            · replace h := oneg c_27 h
              refine g_iload_n d_X12_isCell_30 rfl ?_
              refine g_bipush (v := 64) d_X12_isCell_31 (by decide) ?_
              refine g_icmp_eq (tgt := 42) d_X12_isCell_33 (by decide) (fun c_33 => ?_) (fun c_33 => ?_)
              · replace h := opos c_33 h
                refine g_iconst (v := 1) d_X12_isCell_42 (by decide) ?_
                refine g_goto (tgt := 47) d_X12_isCell_43 (by decide) ?_
                obtain rfl := osome h
                exact g_drop [0] rfl (g_end rfl)
              · replace h := oneg c_33 h
                refine g_iload_n d_X12_isCell_36 rfl ?_
                refine g_bipush (v := 43) d_X12_isCell_37 (by decide) ?_
                refine g_icmp_ne (tgt := 46) d_X12_isCell_39 (by decide) (fun c_39 => ?_) (fun c_39 => ?_)
                · replace h := oneg c_39 h
                  refine g_iconst (v := 0) d_X12_isCell_46 (by decide) ?_
                  obtain rfl := osome h
                  exact g_drop [0] rfl (g_end rfl)
                · replace h := opos c_39 h
                  refine g_iconst (v := 1) d_X12_isCell_42 (by decide) ?_
                  refine g_goto (tgt := 47) d_X12_isCell_43 (by decide) ?_
                  obtain rfl := osome h
                  exact g_drop [0] rfl (g_end rfl)
  replace h := hh_3
  obtain ⟨i_47, h⟩ := ochk h
  obtain rfl := osome h
  exact g_retZ d_X12_isCell_47 rfl i_47 rfl rfl
def f_roomFault_L (N : Nat) : Nat → Int32 → Int32 → Int32 → Int32 → xT → Option (Int32 × xT)
  | 0, _, _, _, _, _ => none
  | n + 1, v1, v2, v3, v4, t =>
    if (rs t 11) ≤ v4 then (Option.bind (if 0 ≤ (rs t 13) then (some (rs t 13))
        else (some v1)) fun (r_161 : Int32) =>
      Option.bind (some (ws t 13 r_161)) fun t_172 =>
      Option.bind (some (ws t_172 14 ((rs t_172 14) + 1))) fun t_182 =>
      Option.bind (if v1 = 0 then (some (rs t_182 11))
        else (if (rs t_182 13) ≤ v1 then (some ((-1) : Int32))
          else (some (rs t_182 11)))) fun (r_186 : Int32) =>
      some (r_186, t_182))
    else (if inB v4 80 = true then (if ((ra t 5) (Int32.toNatClampNeg v4)) = 47 then (if v1 = 0 then (some (v4, t))
        else (if (rs t 13) < 0 then (Option.bind (some (ws t 13 v1)) fun t_68 =>
            Option.bind (some (ws t_68 14 ((rs t_68 14) + 1))) fun t_78 =>
            f_roomFault_L N n 0 v2 v3 (v4 + 1) t_78)
          else (if (rs t 13) ≤ v1 then (Option.bind (some (ws t 13 v1)) fun t_68 =>
              Option.bind (some (ws t_68 14 ((rs t_68 14) + 1))) fun t_78 =>
              f_roomFault_L N n 0 v2 v3 (v4 + 1) t_78)
            else (some (v4, t)))))
      else (Option.bind (f_isBoxText ((ra t 5) (Int32.toNatClampNeg v4))) fun r_89 =>
        Option.bind (if r_89 = 0 then (some (0 : Int32))
          else (some (1 : Int32))) fun (r_92 : Int32) =>
        Option.bind (f_isPlayerText ((ra t 5) (Int32.toNatClampNeg v4))) fun r_105 =>
        Option.bind (if r_105 = 0 then (some (0 : Int32))
          else (some (1 : Int32))) fun (r_108 : Int32) =>
        Option.bind (f_isCell ((ra t 5) (Int32.toNatClampNeg v4))) fun r_120 =>
        if r_120 = 0 then (some (v4, t))
        else (if v1 = (rs t 13) then (some (v4, t))
          else (if 5 < (v2 + r_92) then (some (v4, t))
            else (if (v3 + r_108) ≤ 1 then (f_roomFault_L N n (v1 + 1) (v2 + r_92) (v3 + r_108) (v4 + 1) t)
              else (some (v4, t))))))) else none)
theorem u_roomFault_19 (N n : Nat) (v1 : Int32) (v2 : Int32) (v3 : Int32) (v4 : Int32) (t : xT) : f_roomFault_L N (n + 1) v1 v2 v3 v4 t = (if (rs t 11) ≤ v4 then (Option.bind (if 0 ≤ (rs t 13) then (some (rs t 13))
        else (some v1)) fun (r_161 : Int32) =>
      Option.bind (some (ws t 13 r_161)) fun t_172 =>
      Option.bind (some (ws t_172 14 ((rs t_172 14) + 1))) fun t_182 =>
      Option.bind (if v1 = 0 then (some (rs t_182 11))
        else (if (rs t_182 13) ≤ v1 then (some ((-1) : Int32))
          else (some (rs t_182 11)))) fun (r_186 : Int32) =>
      some (r_186, t_182))
    else (if inB v4 80 = true then (if ((ra t 5) (Int32.toNatClampNeg v4)) = 47 then (if v1 = 0 then (some (v4, t))
        else (if (rs t 13) < 0 then (Option.bind (some (ws t 13 v1)) fun t_68 =>
            Option.bind (some (ws t_68 14 ((rs t_68 14) + 1))) fun t_78 =>
            f_roomFault_L N n 0 v2 v3 (v4 + 1) t_78)
          else (if (rs t 13) ≤ v1 then (Option.bind (some (ws t 13 v1)) fun t_68 =>
              Option.bind (some (ws t_68 14 ((rs t_68 14) + 1))) fun t_78 =>
              f_roomFault_L N n 0 v2 v3 (v4 + 1) t_78)
            else (some (v4, t)))))
      else (Option.bind (f_isBoxText ((ra t 5) (Int32.toNatClampNeg v4))) fun r_89 =>
        Option.bind (if r_89 = 0 then (some (0 : Int32))
          else (some (1 : Int32))) fun (r_92 : Int32) =>
        Option.bind (f_isPlayerText ((ra t 5) (Int32.toNatClampNeg v4))) fun r_105 =>
        Option.bind (if r_105 = 0 then (some (0 : Int32))
          else (some (1 : Int32))) fun (r_108 : Int32) =>
        Option.bind (f_isCell ((ra t 5) (Int32.toNatClampNeg v4))) fun r_120 =>
        if r_120 = 0 then (some (v4, t))
        else (if v1 = (rs t 13) then (some (v4, t))
          else (if 5 < (v2 + r_92) then (some (v4, t))
            else (if (v3 + r_108) ≤ 1 then (f_roomFault_L N n (v1 + 1) (v2 + r_92) (v3 + r_108) (v4 + 1) t)
              else (some (v4, t))))))) else none)) := rfl
def f_roomFault (N : Nat) (t : xT)  : Option (Int32 × xT) :=
  Option.bind (some (ws t 13 (-1))) fun t_2 =>
  Option.bind (some (ws t_2 14 0)) fun t_7 =>
  f_roomFault_L N N 0 0 0 0 t_7
theorem d_X12_roomFault_0 : decode (mB M_X12_roomFault) 0 = .ok (.aload_n 0, 1) := by decide +kernel
theorem d_X12_roomFault_1 : decode (mB M_X12_roomFault) 1 = .ok (.iconst (-1), 1) := by decide +kernel
theorem d_X12_roomFault_2 : decode (mB M_X12_roomFault) 2 = .ok (.putfield 94, 3) := by decide +kernel
theorem d_X12_roomFault_5 : decode (mB M_X12_roomFault) 5 = .ok (.aload_n 0, 1) := by decide +kernel
theorem d_X12_roomFault_6 : decode (mB M_X12_roomFault) 6 = .ok (.iconst 0, 1) := by decide +kernel
theorem d_X12_roomFault_7 : decode (mB M_X12_roomFault) 7 = .ok (.putfield 97, 3) := by decide +kernel
theorem d_X12_roomFault_10 : decode (mB M_X12_roomFault) 10 = .ok (.iconst 0, 1) := by decide +kernel
theorem d_X12_roomFault_11 : decode (mB M_X12_roomFault) 11 = .ok (.istore_n 1, 1) := by decide +kernel
theorem d_X12_roomFault_12 : decode (mB M_X12_roomFault) 12 = .ok (.iconst 0, 1) := by decide +kernel
theorem d_X12_roomFault_13 : decode (mB M_X12_roomFault) 13 = .ok (.istore_n 2, 1) := by decide +kernel
theorem d_X12_roomFault_14 : decode (mB M_X12_roomFault) 14 = .ok (.iconst 0, 1) := by decide +kernel
theorem d_X12_roomFault_15 : decode (mB M_X12_roomFault) 15 = .ok (.istore_n 3, 1) := by decide +kernel
theorem d_X12_roomFault_16 : decode (mB M_X12_roomFault) 16 = .ok (.iconst 0, 1) := by decide +kernel
theorem d_X12_roomFault_17 : decode (mB M_X12_roomFault) 17 = .ok (.istore 4, 2) := by decide +kernel
theorem d_X12_roomFault_19 : decode (mB M_X12_roomFault) 19 = .ok (.iload 4, 2) := by decide +kernel
theorem d_X12_roomFault_21 : decode (mB M_X12_roomFault) 21 = .ok (.aload_n 0, 1) := by decide +kernel
theorem d_X12_roomFault_22 : decode (mB M_X12_roomFault) 22 = .ok (.getfield 91, 3) := by decide +kernel
theorem d_X12_roomFault_25 : decode (mB M_X12_roomFault) 25 = .ok (.if_icmp .ge 131, 3) := by decide +kernel
theorem d_X12_roomFault_28 : decode (mB M_X12_roomFault) 28 = .ok (.aload_n 0, 1) := by decide +kernel
theorem d_X12_roomFault_29 : decode (mB M_X12_roomFault) 29 = .ok (.getfield 26, 3) := by decide +kernel
theorem d_X12_roomFault_32 : decode (mB M_X12_roomFault) 32 = .ok (.iload 4, 2) := by decide +kernel
theorem d_X12_roomFault_34 : decode (mB M_X12_roomFault) 34 = .ok (.iaload, 1) := by decide +kernel
theorem d_X12_roomFault_35 : decode (mB M_X12_roomFault) 35 = .ok (.istore 5, 2) := by decide +kernel
theorem d_X12_roomFault_37 : decode (mB M_X12_roomFault) 37 = .ok (.iload 5, 2) := by decide +kernel
theorem d_X12_roomFault_39 : decode (mB M_X12_roomFault) 39 = .ok (.bipush 47, 2) := by decide +kernel
theorem d_X12_roomFault_41 : decode (mB M_X12_roomFault) 41 = .ok (.if_icmp .ne 45, 3) := by decide +kernel
theorem d_X12_roomFault_44 : decode (mB M_X12_roomFault) 44 = .ok (.iload_n 1, 1) := by decide +kernel
theorem d_X12_roomFault_45 : decode (mB M_X12_roomFault) 45 = .ok (.ifCond .eq 18, 3) := by decide +kernel
theorem d_X12_roomFault_48 : decode (mB M_X12_roomFault) 48 = .ok (.aload_n 0, 1) := by decide +kernel
theorem d_X12_roomFault_49 : decode (mB M_X12_roomFault) 49 = .ok (.getfield 94, 3) := by decide +kernel
theorem d_X12_roomFault_52 : decode (mB M_X12_roomFault) 52 = .ok (.ifCond .lt 14, 3) := by decide +kernel
theorem d_X12_roomFault_55 : decode (mB M_X12_roomFault) 55 = .ok (.iload_n 1, 1) := by decide +kernel
theorem d_X12_roomFault_56 : decode (mB M_X12_roomFault) 56 = .ok (.aload_n 0, 1) := by decide +kernel
theorem d_X12_roomFault_57 : decode (mB M_X12_roomFault) 57 = .ok (.getfield 94, 3) := by decide +kernel
theorem d_X12_roomFault_60 : decode (mB M_X12_roomFault) 60 = .ok (.if_icmp .ge 6, 3) := by decide +kernel
theorem d_X12_roomFault_63 : decode (mB M_X12_roomFault) 63 = .ok (.iload 4, 2) := by decide +kernel
theorem d_X12_roomFault_65 : decode (mB M_X12_roomFault) 65 = .ok (.ireturn, 1) := by decide +kernel
theorem d_X12_roomFault_66 : decode (mB M_X12_roomFault) 66 = .ok (.aload_n 0, 1) := by decide +kernel
theorem d_X12_roomFault_67 : decode (mB M_X12_roomFault) 67 = .ok (.iload_n 1, 1) := by decide +kernel
theorem d_X12_roomFault_68 : decode (mB M_X12_roomFault) 68 = .ok (.putfield 94, 3) := by decide +kernel
theorem d_X12_roomFault_71 : decode (mB M_X12_roomFault) 71 = .ok (.aload_n 0, 1) := by decide +kernel
theorem d_X12_roomFault_72 : decode (mB M_X12_roomFault) 72 = .ok (.dup, 1) := by decide +kernel
theorem d_X12_roomFault_73 : decode (mB M_X12_roomFault) 73 = .ok (.getfield 97, 3) := by decide +kernel
theorem d_X12_roomFault_76 : decode (mB M_X12_roomFault) 76 = .ok (.iconst 1, 1) := by decide +kernel
theorem d_X12_roomFault_77 : decode (mB M_X12_roomFault) 77 = .ok (.iadd, 1) := by decide +kernel
theorem d_X12_roomFault_78 : decode (mB M_X12_roomFault) 78 = .ok (.putfield 97, 3) := by decide +kernel
theorem d_X12_roomFault_81 : decode (mB M_X12_roomFault) 81 = .ok (.iconst 0, 1) := by decide +kernel
theorem d_X12_roomFault_82 : decode (mB M_X12_roomFault) 82 = .ok (.istore_n 1, 1) := by decide +kernel
theorem d_X12_roomFault_83 : decode (mB M_X12_roomFault) 83 = .ok (.goto 67, 3) := by decide +kernel
theorem d_X12_roomFault_86 : decode (mB M_X12_roomFault) 86 = .ok (.iload_n 2, 1) := by decide +kernel
theorem d_X12_roomFault_87 : decode (mB M_X12_roomFault) 87 = .ok (.iload 5, 2) := by decide +kernel
theorem d_X12_roomFault_89 : decode (mB M_X12_roomFault) 89 = .ok (.invokestatic 100, 3) := by decide +kernel
theorem d_X12_roomFault_92 : decode (mB M_X12_roomFault) 92 = .ok (.ifCond .eq 7, 3) := by decide +kernel
theorem d_X12_roomFault_95 : decode (mB M_X12_roomFault) 95 = .ok (.iconst 1, 1) := by decide +kernel
theorem d_X12_roomFault_96 : decode (mB M_X12_roomFault) 96 = .ok (.goto 4, 3) := by decide +kernel
theorem d_X12_roomFault_99 : decode (mB M_X12_roomFault) 99 = .ok (.iconst 0, 1) := by decide +kernel
theorem d_X12_roomFault_100 : decode (mB M_X12_roomFault) 100 = .ok (.iadd, 1) := by decide +kernel
theorem d_X12_roomFault_101 : decode (mB M_X12_roomFault) 101 = .ok (.istore_n 2, 1) := by decide +kernel
theorem d_X12_roomFault_102 : decode (mB M_X12_roomFault) 102 = .ok (.iload_n 3, 1) := by decide +kernel
theorem d_X12_roomFault_103 : decode (mB M_X12_roomFault) 103 = .ok (.iload 5, 2) := by decide +kernel
theorem d_X12_roomFault_105 : decode (mB M_X12_roomFault) 105 = .ok (.invokestatic 104, 3) := by decide +kernel
theorem d_X12_roomFault_108 : decode (mB M_X12_roomFault) 108 = .ok (.ifCond .eq 7, 3) := by decide +kernel
theorem d_X12_roomFault_111 : decode (mB M_X12_roomFault) 111 = .ok (.iconst 1, 1) := by decide +kernel
theorem d_X12_roomFault_112 : decode (mB M_X12_roomFault) 112 = .ok (.goto 4, 3) := by decide +kernel
theorem d_X12_roomFault_115 : decode (mB M_X12_roomFault) 115 = .ok (.iconst 0, 1) := by decide +kernel
theorem d_X12_roomFault_116 : decode (mB M_X12_roomFault) 116 = .ok (.iadd, 1) := by decide +kernel
theorem d_X12_roomFault_117 : decode (mB M_X12_roomFault) 117 = .ok (.istore_n 3, 1) := by decide +kernel
theorem d_X12_roomFault_118 : decode (mB M_X12_roomFault) 118 = .ok (.iload 5, 2) := by decide +kernel
theorem d_X12_roomFault_120 : decode (mB M_X12_roomFault) 120 = .ok (.invokestatic 107, 3) := by decide +kernel
theorem d_X12_roomFault_123 : decode (mB M_X12_roomFault) 123 = .ok (.ifCond .eq 21, 3) := by decide +kernel
theorem d_X12_roomFault_126 : decode (mB M_X12_roomFault) 126 = .ok (.iload_n 1, 1) := by decide +kernel
theorem d_X12_roomFault_127 : decode (mB M_X12_roomFault) 127 = .ok (.aload_n 0, 1) := by decide +kernel
theorem d_X12_roomFault_128 : decode (mB M_X12_roomFault) 128 = .ok (.getfield 94, 3) := by decide +kernel
theorem d_X12_roomFault_131 : decode (mB M_X12_roomFault) 131 = .ok (.if_icmp .eq 13, 3) := by decide +kernel
theorem d_X12_roomFault_134 : decode (mB M_X12_roomFault) 134 = .ok (.iload_n 2, 1) := by decide +kernel
theorem d_X12_roomFault_135 : decode (mB M_X12_roomFault) 135 = .ok (.iconst 5, 1) := by decide +kernel
theorem d_X12_roomFault_136 : decode (mB M_X12_roomFault) 136 = .ok (.if_icmp .gt 8, 3) := by decide +kernel
theorem d_X12_roomFault_139 : decode (mB M_X12_roomFault) 139 = .ok (.iload_n 3, 1) := by decide +kernel
theorem d_X12_roomFault_140 : decode (mB M_X12_roomFault) 140 = .ok (.iconst 1, 1) := by decide +kernel
theorem d_X12_roomFault_141 : decode (mB M_X12_roomFault) 141 = .ok (.if_icmp .le 6, 3) := by decide +kernel
theorem d_X12_roomFault_144 : decode (mB M_X12_roomFault) 144 = .ok (.iload 4, 2) := by decide +kernel
theorem d_X12_roomFault_146 : decode (mB M_X12_roomFault) 146 = .ok (.ireturn, 1) := by decide +kernel
theorem d_X12_roomFault_147 : decode (mB M_X12_roomFault) 147 = .ok (.iinc 1 1, 3) := by decide +kernel
theorem d_X12_roomFault_150 : decode (mB M_X12_roomFault) 150 = .ok (.iinc 4 1, 3) := by decide +kernel
theorem d_X12_roomFault_153 : decode (mB M_X12_roomFault) 153 = .ok (.goto (-134), 3) := by decide +kernel
theorem d_X12_roomFault_156 : decode (mB M_X12_roomFault) 156 = .ok (.aload_n 0, 1) := by decide +kernel
theorem d_X12_roomFault_157 : decode (mB M_X12_roomFault) 157 = .ok (.aload_n 0, 1) := by decide +kernel
theorem d_X12_roomFault_158 : decode (mB M_X12_roomFault) 158 = .ok (.getfield 94, 3) := by decide +kernel
theorem d_X12_roomFault_161 : decode (mB M_X12_roomFault) 161 = .ok (.ifCond .ge 7, 3) := by decide +kernel
theorem d_X12_roomFault_164 : decode (mB M_X12_roomFault) 164 = .ok (.iload_n 1, 1) := by decide +kernel
theorem d_X12_roomFault_165 : decode (mB M_X12_roomFault) 165 = .ok (.goto 7, 3) := by decide +kernel
theorem d_X12_roomFault_168 : decode (mB M_X12_roomFault) 168 = .ok (.aload_n 0, 1) := by decide +kernel
theorem d_X12_roomFault_169 : decode (mB M_X12_roomFault) 169 = .ok (.getfield 94, 3) := by decide +kernel
theorem d_X12_roomFault_172 : decode (mB M_X12_roomFault) 172 = .ok (.putfield 94, 3) := by decide +kernel
theorem d_X12_roomFault_175 : decode (mB M_X12_roomFault) 175 = .ok (.aload_n 0, 1) := by decide +kernel
theorem d_X12_roomFault_176 : decode (mB M_X12_roomFault) 176 = .ok (.dup, 1) := by decide +kernel
theorem d_X12_roomFault_177 : decode (mB M_X12_roomFault) 177 = .ok (.getfield 97, 3) := by decide +kernel
theorem d_X12_roomFault_180 : decode (mB M_X12_roomFault) 180 = .ok (.iconst 1, 1) := by decide +kernel
theorem d_X12_roomFault_181 : decode (mB M_X12_roomFault) 181 = .ok (.iadd, 1) := by decide +kernel
theorem d_X12_roomFault_182 : decode (mB M_X12_roomFault) 182 = .ok (.putfield 97, 3) := by decide +kernel
theorem d_X12_roomFault_185 : decode (mB M_X12_roomFault) 185 = .ok (.iload_n 1, 1) := by decide +kernel
theorem d_X12_roomFault_186 : decode (mB M_X12_roomFault) 186 = .ok (.ifCond .eq 11, 3) := by decide +kernel
theorem d_X12_roomFault_189 : decode (mB M_X12_roomFault) 189 = .ok (.iload_n 1, 1) := by decide +kernel
theorem d_X12_roomFault_190 : decode (mB M_X12_roomFault) 190 = .ok (.aload_n 0, 1) := by decide +kernel
theorem d_X12_roomFault_191 : decode (mB M_X12_roomFault) 191 = .ok (.getfield 94, 3) := by decide +kernel
theorem d_X12_roomFault_194 : decode (mB M_X12_roomFault) 194 = .ok (.if_icmp .ge 10, 3) := by decide +kernel
theorem d_X12_roomFault_197 : decode (mB M_X12_roomFault) 197 = .ok (.aload_n 0, 1) := by decide +kernel
theorem d_X12_roomFault_198 : decode (mB M_X12_roomFault) 198 = .ok (.getfield 91, 3) := by decide +kernel
theorem d_X12_roomFault_201 : decode (mB M_X12_roomFault) 201 = .ok (.goto 4, 3) := by decide +kernel
theorem d_X12_roomFault_204 : decode (mB M_X12_roomFault) 204 = .ok (.iconst (-1), 1) := by decide +kernel
theorem d_X12_roomFault_205 : decode (mB M_X12_roomFault) 205 = .ok (.ireturn, 1) := by decide +kernel
theorem l_m_roomFault {E : mEnv} (hE : E.1.stackTraces = false) (C : List mE) (N : Nat) : ∀ n : Nat, (∀ (v1 : Int32) (v2 : Int32) (v3 : Int32) (v4 : Int32) (t : xT) (r : Int32 × xT), f_roomFault_L N n v1 v2 v3 v4 t = some r → Go E M_X12_roomFault 0 (19, [some (.ref 0), some (.int v1), some (.int v2), some (.int v3), some (.int v4), none], [], (mw t, C)) (.inr (.inl (some (.int r.1), (mw r.2, C))))) := by
  intro n
  induction n with
  | zero => exact fun v1 v2 v3 v4 t r h => by cases h
  | succ n ih =>
    intro v1 v2 v3 v4 t r h
    rw [u_roomFault_19] at h
    refine g_iload d_X12_roomFault_19 rfl ?_
    refine g_aload_n d_X12_roomFault_21 rfl ?_
    refine g_getf d_X12_roomFault_22 f_X12_91 (gm0 t C) rfl ?_
    refine g_icmp_ge (tgt := 156) d_X12_roomFault_25 (by decide) (fun c_25 => ?_) (fun c_25 => ?_)
    · replace h := opos c_25 h
      refine g_aload_n d_X12_roomFault_156 rfl ?_
      refine g_aload_n d_X12_roomFault_157 rfl ?_
      refine g_getf d_X12_roomFault_158 f_X12_94 (gm0 t C) rfl ?_
      obtain ⟨r_161, h_161, hh_161⟩ := obind h
      refine Go.trans0 (S1 := (172, [some (.ref 0), some (.int v1), none, none, none, none], [.int r_161, .ref 0], (mw t, C))) ?_ ?_
      · replace h := h_161
        clear hh_161
        refine g_if_ge (tgt := 168) d_X12_roomFault_161 (by decide) (fun c_161 => ?_) (fun c_161 => ?_)
        · replace h := opos c_161 h
          refine g_aload_n d_X12_roomFault_168 rfl ?_
          refine g_getf d_X12_roomFault_169 f_X12_94 (gm0 t C) rfl ?_
          obtain rfl := osome h
          exact g_drop [2, 3, 4] rfl (g_end rfl)
        · replace h := oneg c_161 h
          refine g_iload_n d_X12_roomFault_164 rfl ?_
          refine g_goto (tgt := 172) d_X12_roomFault_165 (by decide) ?_
          obtain rfl := osome h
          exact g_drop [2, 3, 4] rfl (g_end rfl)
      replace h := hh_161
      obtain ⟨t_172, e_172, h⟩ := olet h
      refine g_putI (w' := (mw t_172, C)) d_X12_roomFault_172 p_X12_94 rfl rfl (gm0 t C) (Nat.le_of_ble_eq_true rfl) (by rw [e_172]; exact sc_13 t C _) ?_
      refine g_aload_n d_X12_roomFault_175 rfl ?_
      refine g_dup d_X12_roomFault_176 rfl ?_
      refine g_getf d_X12_roomFault_177 f_X12_97 (gm0 t_172 C) rfl ?_
      refine g_iconst (v := 1) d_X12_roomFault_180 (by decide) ?_
      refine g_iadd d_X12_roomFault_181 ?_
      obtain ⟨t_182, e_182, h⟩ := olet h
      refine g_putI (w' := (mw t_182, C)) d_X12_roomFault_182 p_X12_97 rfl rfl (gm0 t_172 C) (Nat.le_of_ble_eq_true rfl) (by rw [e_182]; exact sc_14 t_172 C _) ?_
      refine g_iload_n d_X12_roomFault_185 rfl ?_
      obtain ⟨r_186, h_186, hh_186⟩ := obind h
      refine Go.trans0 (S1 := (205, [none, none, none, none, none, none], [.int r_186], (mw t_182, C))) ?_ ?_
      · replace h := h_186
        clear hh_186
        refine g_if_eq (tgt := 197) d_X12_roomFault_186 (by decide) (fun c_186 => ?_) (fun c_186 => ?_)
        · replace h := opos c_186 h
          refine g_aload_n d_X12_roomFault_197 rfl ?_
          refine g_getf d_X12_roomFault_198 f_X12_91 (gm0 t_182 C) rfl ?_
          refine g_goto (tgt := 205) d_X12_roomFault_201 (by decide) ?_
          obtain rfl := osome h
          exact g_drop [0, 1] rfl (g_end rfl)
        · replace h := oneg c_186 h
          refine g_iload_n d_X12_roomFault_189 rfl ?_
          refine g_aload_n d_X12_roomFault_190 rfl ?_
          refine g_getf d_X12_roomFault_191 f_X12_94 (gm0 t_182 C) rfl ?_
          refine g_icmp_ge (tgt := 204) d_X12_roomFault_194 (by decide) (fun c_194 => ?_) (fun c_194 => ?_)
          · replace h := opos c_194 h
            refine g_iconst (v := (-1)) d_X12_roomFault_204 (by decide) ?_
            obtain rfl := osome h
            exact g_drop [0, 1] rfl (g_end rfl)
          · replace h := oneg c_194 h
            refine g_aload_n d_X12_roomFault_197 rfl ?_
            refine g_getf d_X12_roomFault_198 f_X12_91 (gm0 t_182 C) rfl ?_
            refine g_goto (tgt := 205) d_X12_roomFault_201 (by decide) ?_
            obtain rfl := osome h
            exact g_drop [0, 1] rfl (g_end rfl)
      replace h := hh_186
      obtain rfl := osome h
      exact g_retI d_X12_roomFault_205 rfl rfl rfl
    · replace h := oneg c_25 h
      refine g_aload_n d_X12_roomFault_28 rfl ?_
      refine g_getf d_X12_roomFault_29 f_X12_26 (gm0 t C) rfl ?_
      refine g_iload d_X12_roomFault_32 rfl ?_
      obtain ⟨i_34, h⟩ := ochk h
      refine g_iald d_X12_roomFault_34 (gm_5 t C) (inB_in i_34) ?_
      refine g_istore (L' := [some (.ref 0), some (.int v1), some (.int v2), some (.int v3), some (.int v4), some (.int ((ra t 5) (Int32.toNatClampNeg v4)))]) d_X12_roomFault_35 rfl rfl ?_
      refine g_iload d_X12_roomFault_37 rfl ?_
      refine g_bipush (v := 47) d_X12_roomFault_39 (by decide) ?_
      refine g_icmp_ne (tgt := 86) d_X12_roomFault_41 (by decide) (fun c_41 => ?_) (fun c_41 => ?_)
      · replace h := oneg c_41 h
        refine g_iload_n d_X12_roomFault_86 rfl ?_
        refine g_iload d_X12_roomFault_87 rfl ?_
        obtain ⟨r_89, h_89, h⟩ := obind h
        refine g_callS (As := [.int ((ra t 5) (Int32.toNatClampNeg v4))]) d_X12_roomFault_89 o_X12_isBoxText l_X12_100 ⟨Nat.le_of_ble_eq_true rfl, Nat.le_of_ble_eq_true rfl⟩ (c_m_isBoxText hE C t ((ra t 5) (Int32.toNatClampNeg v4)) _ h_89) rfl rfl ?_ (Nat.zero_add _)
        obtain ⟨r_92, h_92, hh_92⟩ := obind h
        refine Go.trans0 (S1 := (100, [some (.ref 0), some (.int v1), none, some (.int v3), some (.int v4), some (.int ((ra t 5) (Int32.toNatClampNeg v4)))], [.int r_92, .int v2], (mw t, C))) ?_ ?_
        · replace h := h_92
          clear hh_92
          refine g_if_eq (tgt := 99) d_X12_roomFault_92 (by decide) (fun c_92 => ?_) (fun c_92 => ?_)
          · replace h := opos c_92 h
            refine g_iconst (v := 0) d_X12_roomFault_99 (by decide) ?_
            obtain rfl := osome h
            exact g_drop [2] rfl (g_end rfl)
          · replace h := oneg c_92 h
            refine g_iconst (v := 1) d_X12_roomFault_95 (by decide) ?_
            refine g_goto (tgt := 100) d_X12_roomFault_96 (by decide) ?_
            obtain rfl := osome h
            exact g_drop [2] rfl (g_end rfl)
        replace h := hh_92
        refine g_iadd d_X12_roomFault_100 ?_
        refine g_istore_n (L' := [some (.ref 0), some (.int v1), some (.int (v2 + r_92)), some (.int v3), some (.int v4), some (.int ((ra t 5) (Int32.toNatClampNeg v4)))]) d_X12_roomFault_101 rfl rfl ?_
        refine g_iload_n d_X12_roomFault_102 rfl ?_
        refine g_iload d_X12_roomFault_103 rfl ?_
        obtain ⟨r_105, h_105, h⟩ := obind h
        refine g_callS (As := [.int ((ra t 5) (Int32.toNatClampNeg v4))]) d_X12_roomFault_105 o_X12_isPlayerText l_X12_104 ⟨Nat.le_of_ble_eq_true rfl, Nat.le_of_ble_eq_true rfl⟩ (c_m_isPlayerText hE C t ((ra t 5) (Int32.toNatClampNeg v4)) _ h_105) rfl rfl ?_ (Nat.zero_add _)
        obtain ⟨r_108, h_108, hh_108⟩ := obind h
        refine Go.trans0 (S1 := (116, [some (.ref 0), some (.int v1), some (.int (v2 + r_92)), none, some (.int v4), some (.int ((ra t 5) (Int32.toNatClampNeg v4)))], [.int r_108, .int v3], (mw t, C))) ?_ ?_
        · replace h := h_108
          clear hh_108
          refine g_if_eq (tgt := 115) d_X12_roomFault_108 (by decide) (fun c_108 => ?_) (fun c_108 => ?_)
          · replace h := opos c_108 h
            refine g_iconst (v := 0) d_X12_roomFault_115 (by decide) ?_
            obtain rfl := osome h
            exact g_drop [3] rfl (g_end rfl)
          · replace h := oneg c_108 h
            refine g_iconst (v := 1) d_X12_roomFault_111 (by decide) ?_
            refine g_goto (tgt := 116) d_X12_roomFault_112 (by decide) ?_
            obtain rfl := osome h
            exact g_drop [3] rfl (g_end rfl)
        replace h := hh_108
        refine g_iadd d_X12_roomFault_116 ?_
        refine g_istore_n (L' := [some (.ref 0), some (.int v1), some (.int (v2 + r_92)), some (.int (v3 + r_108)), some (.int v4), some (.int ((ra t 5) (Int32.toNatClampNeg v4)))]) d_X12_roomFault_117 rfl rfl ?_
        refine g_iload d_X12_roomFault_118 rfl ?_
        obtain ⟨r_120, h_120, h⟩ := obind h
        refine g_callS (As := [.int ((ra t 5) (Int32.toNatClampNeg v4))]) d_X12_roomFault_120 o_X12_isCell l_X12_107 ⟨Nat.le_of_ble_eq_true rfl, Nat.le_of_ble_eq_true rfl⟩ (c_m_isCell hE C t ((ra t 5) (Int32.toNatClampNeg v4)) _ h_120) rfl rfl ?_ (Nat.zero_add _)
        refine g_if_eq (tgt := 144) d_X12_roomFault_123 (by decide) (fun c_123 => ?_) (fun c_123 => ?_)
        · replace h := opos c_123 h
          refine g_iload d_X12_roomFault_144 rfl ?_
          obtain rfl := osome h
          exact g_retI d_X12_roomFault_146 rfl rfl rfl
        · replace h := oneg c_123 h
          refine g_iload_n d_X12_roomFault_126 rfl ?_
          refine g_aload_n d_X12_roomFault_127 rfl ?_
          refine g_getf d_X12_roomFault_128 f_X12_94 (gm0 t C) rfl ?_
          refine g_icmp_eq (tgt := 144) d_X12_roomFault_131 (by decide) (fun c_131 => ?_) (fun c_131 => ?_)
          · replace h := opos c_131 h
            refine g_iload d_X12_roomFault_144 rfl ?_
            obtain rfl := osome h
            exact g_retI d_X12_roomFault_146 rfl rfl rfl
          · replace h := oneg c_131 h
            refine g_iload_n d_X12_roomFault_134 rfl ?_
            refine g_iconst (v := 5) d_X12_roomFault_135 (by decide) ?_
            refine g_icmp_gt (tgt := 144) d_X12_roomFault_136 (by decide) (fun c_136 => ?_) (fun c_136 => ?_)
            · replace h := opos c_136 h
              refine g_iload d_X12_roomFault_144 rfl ?_
              obtain rfl := osome h
              exact g_retI d_X12_roomFault_146 rfl rfl rfl
            · replace h := oneg c_136 h
              refine g_iload_n d_X12_roomFault_139 rfl ?_
              refine g_iconst (v := 1) d_X12_roomFault_140 (by decide) ?_
              refine g_icmp_le (tgt := 147) d_X12_roomFault_141 (by decide) (fun c_141 => ?_) (fun c_141 => ?_)
              · replace h := opos c_141 h
                refine g_iinc (v := (v1 + 1)) (L' := [some (.ref 0), some (.int (v1 + 1)), some (.int (v2 + r_92)), some (.int (v3 + r_108)), some (.int v4), some (.int ((ra t 5) (Int32.toNatClampNeg v4)))]) d_X12_roomFault_147 rfl rfl rfl ?_
                refine g_iinc (v := (v4 + 1)) (L' := [some (.ref 0), some (.int (v1 + 1)), some (.int (v2 + r_92)), some (.int (v3 + r_108)), some (.int (v4 + 1)), some (.int ((ra t 5) (Int32.toNatClampNeg v4)))]) d_X12_roomFault_150 rfl rfl rfl ?_
                refine g_goto (tgt := 19) d_X12_roomFault_153 (by decide) ?_
                refine g_drop [5] (L1 := [some (.ref 0), some (.int (v1 + 1)), some (.int (v2 + r_92)), some (.int (v3 + r_108)), some (.int (v4 + 1)), none]) rfl ?_
                exact (ih) (v1 + 1) (v2 + r_92) (v3 + r_108) (v4 + 1) t _ h
              · replace h := oneg c_141 h
                refine g_iload d_X12_roomFault_144 rfl ?_
                obtain rfl := osome h
                exact g_retI d_X12_roomFault_146 rfl rfl rfl
      · replace h := opos c_41 h
        refine g_iload_n d_X12_roomFault_44 rfl ?_
        refine g_if_eq (tgt := 63) d_X12_roomFault_45 (by decide) (fun c_45 => ?_) (fun c_45 => ?_)
        · replace h := opos c_45 h
          refine g_iload d_X12_roomFault_63 rfl ?_
          obtain rfl := osome h
          exact g_retI d_X12_roomFault_65 rfl rfl rfl
        · replace h := oneg c_45 h
          refine g_aload_n d_X12_roomFault_48 rfl ?_
          refine g_getf d_X12_roomFault_49 f_X12_94 (gm0 t C) rfl ?_
          refine g_if_lt (tgt := 66) d_X12_roomFault_52 (by decide) (fun c_52 => ?_) (fun c_52 => ?_)
          · replace h := opos c_52 h
            refine g_aload_n d_X12_roomFault_66 rfl ?_
            refine g_iload_n d_X12_roomFault_67 rfl ?_
            obtain ⟨t_68, e_68, h⟩ := olet h
            refine g_putI (w' := (mw t_68, C)) d_X12_roomFault_68 p_X12_94 rfl rfl (gm0 t C) (Nat.le_of_ble_eq_true rfl) (by rw [e_68]; exact sc_13 t C _) ?_
            refine g_aload_n d_X12_roomFault_71 rfl ?_
            refine g_dup d_X12_roomFault_72 rfl ?_
            refine g_getf d_X12_roomFault_73 f_X12_97 (gm0 t_68 C) rfl ?_
            refine g_iconst (v := 1) d_X12_roomFault_76 (by decide) ?_
            refine g_iadd d_X12_roomFault_77 ?_
            obtain ⟨t_78, e_78, h⟩ := olet h
            refine g_putI (w' := (mw t_78, C)) d_X12_roomFault_78 p_X12_97 rfl rfl (gm0 t_68 C) (Nat.le_of_ble_eq_true rfl) (by rw [e_78]; exact sc_14 t_68 C _) ?_
            refine g_iconst (v := 0) d_X12_roomFault_81 (by decide) ?_
            refine g_istore_n (L' := [some (.ref 0), some (.int 0), some (.int v2), some (.int v3), some (.int v4), some (.int ((ra t 5) (Int32.toNatClampNeg v4)))]) d_X12_roomFault_82 rfl rfl ?_
            refine g_goto (tgt := 150) d_X12_roomFault_83 (by decide) ?_
            refine g_iinc (v := (v4 + 1)) (L' := [some (.ref 0), some (.int 0), some (.int v2), some (.int v3), some (.int (v4 + 1)), some (.int ((ra t 5) (Int32.toNatClampNeg v4)))]) d_X12_roomFault_150 rfl rfl rfl ?_
            refine g_goto (tgt := 19) d_X12_roomFault_153 (by decide) ?_
            refine g_drop [5] (L1 := [some (.ref 0), some (.int 0), some (.int v2), some (.int v3), some (.int (v4 + 1)), none]) rfl ?_
            exact (ih) 0 v2 v3 (v4 + 1) t_78 _ h
          · replace h := oneg c_52 h
            refine g_iload_n d_X12_roomFault_55 rfl ?_
            refine g_aload_n d_X12_roomFault_56 rfl ?_
            refine g_getf d_X12_roomFault_57 f_X12_94 (gm0 t C) rfl ?_
            refine g_icmp_ge (tgt := 66) d_X12_roomFault_60 (by decide) (fun c_60 => ?_) (fun c_60 => ?_)
            · replace h := opos c_60 h
              refine g_aload_n d_X12_roomFault_66 rfl ?_
              refine g_iload_n d_X12_roomFault_67 rfl ?_
              obtain ⟨t_68, e_68, h⟩ := olet h
              refine g_putI (w' := (mw t_68, C)) d_X12_roomFault_68 p_X12_94 rfl rfl (gm0 t C) (Nat.le_of_ble_eq_true rfl) (by rw [e_68]; exact sc_13 t C _) ?_
              refine g_aload_n d_X12_roomFault_71 rfl ?_
              refine g_dup d_X12_roomFault_72 rfl ?_
              refine g_getf d_X12_roomFault_73 f_X12_97 (gm0 t_68 C) rfl ?_
              refine g_iconst (v := 1) d_X12_roomFault_76 (by decide) ?_
              refine g_iadd d_X12_roomFault_77 ?_
              obtain ⟨t_78, e_78, h⟩ := olet h
              refine g_putI (w' := (mw t_78, C)) d_X12_roomFault_78 p_X12_97 rfl rfl (gm0 t_68 C) (Nat.le_of_ble_eq_true rfl) (by rw [e_78]; exact sc_14 t_68 C _) ?_
              refine g_iconst (v := 0) d_X12_roomFault_81 (by decide) ?_
              refine g_istore_n (L' := [some (.ref 0), some (.int 0), some (.int v2), some (.int v3), some (.int v4), some (.int ((ra t 5) (Int32.toNatClampNeg v4)))]) d_X12_roomFault_82 rfl rfl ?_
              refine g_goto (tgt := 150) d_X12_roomFault_83 (by decide) ?_
              refine g_iinc (v := (v4 + 1)) (L' := [some (.ref 0), some (.int 0), some (.int v2), some (.int v3), some (.int (v4 + 1)), some (.int ((ra t 5) (Int32.toNatClampNeg v4)))]) d_X12_roomFault_150 rfl rfl rfl ?_
              refine g_goto (tgt := 19) d_X12_roomFault_153 (by decide) ?_
              refine g_drop [5] (L1 := [some (.ref 0), some (.int 0), some (.int v2), some (.int v3), some (.int (v4 + 1)), none]) rfl ?_
              exact (ih) 0 v2 v3 (v4 + 1) t_78 _ h
            · replace h := oneg c_60 h
              refine g_iload d_X12_roomFault_63 rfl ?_
              obtain rfl := osome h
              exact g_retI d_X12_roomFault_65 rfl rfl rfl
theorem c_m_roomFault {E : mEnv} (hE : E.1.stackTraces = false) (C : List mE) (N : Nat) (t : xT)  (r : Int32 × xT) (h : f_roomFault N t = some r) : Rt E M_X12_roomFault 0 [.ref 0] (mw t, C) (some (.int r.1)) (mw r.2, C) := by
  unfold f_roomFault at h
  refine Rt.of hE rfl pn_X12 (Nat.le_of_ble_eq_true rfl) ?_
  refine g_eq (S' := (0, [some (.ref 0), none, none, none, none, none], [], (mw t, C))) rfl ?_
  refine g_aload_n d_X12_roomFault_0 rfl ?_
  refine g_iconst (v := (-1)) d_X12_roomFault_1 (by decide) ?_
  obtain ⟨t_2, e_2, h⟩ := olet h
  refine g_putI (w' := (mw t_2, C)) d_X12_roomFault_2 p_X12_94 rfl rfl (gm0 t C) (Nat.le_of_ble_eq_true rfl) (by rw [e_2]; exact sc_13 t C _) ?_
  refine g_aload_n d_X12_roomFault_5 rfl ?_
  refine g_iconst (v := 0) d_X12_roomFault_6 (by decide) ?_
  obtain ⟨t_7, e_7, h⟩ := olet h
  refine g_putI (w' := (mw t_7, C)) d_X12_roomFault_7 p_X12_97 rfl rfl (gm0 t_2 C) (Nat.le_of_ble_eq_true rfl) (by rw [e_7]; exact sc_14 t_2 C _) ?_
  refine g_iconst (v := 0) d_X12_roomFault_10 (by decide) ?_
  refine g_istore_n (L' := [some (.ref 0), some (.int 0), none, none, none, none]) d_X12_roomFault_11 rfl rfl ?_
  refine g_iconst (v := 0) d_X12_roomFault_12 (by decide) ?_
  refine g_istore_n (L' := [some (.ref 0), some (.int 0), some (.int 0), none, none, none]) d_X12_roomFault_13 rfl rfl ?_
  refine g_iconst (v := 0) d_X12_roomFault_14 (by decide) ?_
  refine g_istore_n (L' := [some (.ref 0), some (.int 0), some (.int 0), some (.int 0), none, none]) d_X12_roomFault_15 rfl rfl ?_
  refine g_iconst (v := 0) d_X12_roomFault_16 (by decide) ?_
  refine g_istore (L' := [some (.ref 0), some (.int 0), some (.int 0), some (.int 0), some (.int 0), none]) d_X12_roomFault_17 rfl rfl ?_
  exact (l_m_roomFault hE C N N) 0 0 0 0 t_7 _ h
def f_fails (t : xT) (a0 : Int32) : Option (Int32 × xT) :=
  Option.bind (some (ws t 9 a0)) fun t_2 =>
  some ((0 : Int32), t_2)
theorem d_X12_fails_0 : decode (mB M_X12_fails) 0 = .ok (.aload_n 0, 1) := by decide +kernel
theorem d_X12_fails_1 : decode (mB M_X12_fails) 1 = .ok (.iload_n 1, 1) := by decide +kernel
theorem d_X12_fails_2 : decode (mB M_X12_fails) 2 = .ok (.putfield 73, 3) := by decide +kernel
theorem d_X12_fails_5 : decode (mB M_X12_fails) 5 = .ok (.iconst 0, 1) := by decide +kernel
theorem d_X12_fails_6 : decode (mB M_X12_fails) 6 = .ok (.ireturn, 1) := by decide +kernel
theorem c_m_fails {E : mEnv} (hE : E.1.stackTraces = false) (C : List mE) (t : xT) (a0 : Int32) (r : Int32 × xT) (h : f_fails t a0 = some r) : Rt E M_X12_fails 0 [.ref 0, .int a0] (mw t, C) (some (.int r.1)) (mw r.2, C) := by
  unfold f_fails at h
  refine Rt.of hE rfl pn_X12 (Nat.le_of_ble_eq_true rfl) ?_
  refine g_eq (S' := (0, [some (.ref 0), some (.int a0)], [], (mw t, C))) rfl ?_
  refine g_aload_n d_X12_fails_0 rfl ?_
  refine g_iload_n d_X12_fails_1 rfl ?_
  obtain ⟨t_2, e_2, h⟩ := olet h
  refine g_putI (w' := (mw t_2, C)) d_X12_fails_2 p_X12_73 rfl rfl (gm0 t C) (Nat.le_of_ble_eq_true rfl) (by rw [e_2]; exact sc_9 t C _) ?_
  refine g_iconst (v := 0) d_X12_fails_5 (by decide) ?_
  obtain rfl := osome h
  exact g_retI d_X12_fails_6 rfl rfl rfl
def f_lays_L (N : Nat) : Nat → Nat → Int32 → Int32 → Int32 → Int32 → xT → Option (Int32 × xT)
  | 0, _, _, _, _, _, _ => none
  | n + 1, p, v1, v2, v3, v4, t =>
    if p = 2 then (if 602 ≤ v2 then (Option.bind (some (wa t 1 (upd (ra t 1) (Int32.toNatClampNeg 0) 1))) fun t_28 =>
        Option.bind (some (wa t_28 1 (upd (ra t_28 1) (Int32.toNatClampNeg 1) (rs t_28 14)))) fun t_38 =>
        Option.bind (some (wa t_38 1 (upd (ra t_38 1) (Int32.toNatClampNeg 2) (rs t_38 13)))) fun t_48 =>
        f_lays_L N n 56 v1 0 0 0 t_48)
      else (if inB v2 602 = true then (Option.bind (some (wa t 1 (upd (ra t 1) (Int32.toNatClampNeg v2) 0))) fun t_15 =>
        f_lays_L N n 2 v1 (v2 + 1) 0 0 t_15) else none))
    else if p = 56 then (if v1 ≤ v4 then (Option.bind (some (ws t 5 0)) fun t_213 =>
        some (v3, t_213))
      else (if inB v4 80 = true then (Option.bind (if ((ra t 5) (Int32.toNatClampNeg v4)) = 47 then (some (v2, v3, t))
          else (Option.bind (if ((ra t 5) (Int32.toNatClampNeg v4)) = 46 then (some (1 : Int32))
              else (if ((ra t 5) (Int32.toNatClampNeg v4)) = 42 then (some (1 : Int32))
                else (if ((ra t 5) (Int32.toNatClampNeg v4)) = 43 then (some (1 : Int32))
                  else (some (0 : Int32))))) fun (r_85 : Int32) =>
            Option.bind (if ((ra t 5) (Int32.toNatClampNeg v4)) = 35 then (some (0 : Int32))
              else (some (1 : Int32))) fun (r_121 : Int32) =>
            Option.bind (if r_85 = 0 then (some (0 : Int32))
              else (some (2 : Int32))) fun (r_131 : Int32) =>
            if inB (10 + v2) 602 = true then (Option.bind (some (wa t 1 (upd (ra t 1) (Int32.toNatClampNeg (10 + v2)) (r_121 + r_131)))) fun t_140 =>
            Option.bind (f_isBoxText ((ra t 5) (Int32.toNatClampNeg v4))) fun r_151 =>
            Option.bind (if r_151 = 0 then (some (0 : Int32))
              else (some (1 : Int32))) fun (r_154 : Int32) =>
            if inB (74 + v2) 602 = true then (Option.bind (some (wa t_140 1 (upd (ra t_140 1) (Int32.toNatClampNeg (74 + v2)) r_154))) fun t_162 =>
            Option.bind (f_isPlayerText ((ra t 5) (Int32.toNatClampNeg v4))) fun r_170 =>
            Option.bind (if r_170 = 0 then (some ((ra t_162 1) (Int32.toNatClampNeg 3)))
              else (some v2)) fun (r_173 : Int32) =>
            Option.bind (some (wa t_162 1 (upd (ra t_162 1) (Int32.toNatClampNeg 3) r_173))) fun t_186 =>
            Option.bind (if ((ra t 5) (Int32.toNatClampNeg v4)) = 35 then (some (0 : Int32))
              else (some (1 : Int32))) fun (r_192 : Int32) =>
            some ((v2 + 1), (v3 + r_192), t_186)) else none) else none)) fun (r_75 : Int32 × Int32 × xT) =>
        f_lays_L N n 56 v1 r_75.1 r_75.2.1 (v4 + 1) r_75.2.2) else none))
    else none
theorem u_lays_2 (N n : Nat) (v1 : Int32) (v2 : Int32) (t : xT) : f_lays_L N (n + 1) 2 v1 v2 0 0 t = (if 602 ≤ v2 then (Option.bind (some (wa t 1 (upd (ra t 1) (Int32.toNatClampNeg 0) 1))) fun t_28 =>
      Option.bind (some (wa t_28 1 (upd (ra t_28 1) (Int32.toNatClampNeg 1) (rs t_28 14)))) fun t_38 =>
      Option.bind (some (wa t_38 1 (upd (ra t_38 1) (Int32.toNatClampNeg 2) (rs t_38 13)))) fun t_48 =>
      f_lays_L N n 56 v1 0 0 0 t_48)
    else (if inB v2 602 = true then (Option.bind (some (wa t 1 (upd (ra t 1) (Int32.toNatClampNeg v2) 0))) fun t_15 =>
      f_lays_L N n 2 v1 (v2 + 1) 0 0 t_15) else none)) := rfl
theorem u_lays_56 (N n : Nat) (v1 : Int32) (v2 : Int32) (v3 : Int32) (v4 : Int32) (t : xT) : f_lays_L N (n + 1) 56 v1 v2 v3 v4 t = (if v1 ≤ v4 then (Option.bind (some (ws t 5 0)) fun t_213 =>
      some (v3, t_213))
    else (if inB v4 80 = true then (Option.bind (if ((ra t 5) (Int32.toNatClampNeg v4)) = 47 then (some (v2, v3, t))
        else (Option.bind (if ((ra t 5) (Int32.toNatClampNeg v4)) = 46 then (some (1 : Int32))
            else (if ((ra t 5) (Int32.toNatClampNeg v4)) = 42 then (some (1 : Int32))
              else (if ((ra t 5) (Int32.toNatClampNeg v4)) = 43 then (some (1 : Int32))
                else (some (0 : Int32))))) fun (r_85 : Int32) =>
          Option.bind (if ((ra t 5) (Int32.toNatClampNeg v4)) = 35 then (some (0 : Int32))
            else (some (1 : Int32))) fun (r_121 : Int32) =>
          Option.bind (if r_85 = 0 then (some (0 : Int32))
            else (some (2 : Int32))) fun (r_131 : Int32) =>
          if inB (10 + v2) 602 = true then (Option.bind (some (wa t 1 (upd (ra t 1) (Int32.toNatClampNeg (10 + v2)) (r_121 + r_131)))) fun t_140 =>
          Option.bind (f_isBoxText ((ra t 5) (Int32.toNatClampNeg v4))) fun r_151 =>
          Option.bind (if r_151 = 0 then (some (0 : Int32))
            else (some (1 : Int32))) fun (r_154 : Int32) =>
          if inB (74 + v2) 602 = true then (Option.bind (some (wa t_140 1 (upd (ra t_140 1) (Int32.toNatClampNeg (74 + v2)) r_154))) fun t_162 =>
          Option.bind (f_isPlayerText ((ra t 5) (Int32.toNatClampNeg v4))) fun r_170 =>
          Option.bind (if r_170 = 0 then (some ((ra t_162 1) (Int32.toNatClampNeg 3)))
            else (some v2)) fun (r_173 : Int32) =>
          Option.bind (some (wa t_162 1 (upd (ra t_162 1) (Int32.toNatClampNeg 3) r_173))) fun t_186 =>
          Option.bind (if ((ra t 5) (Int32.toNatClampNeg v4)) = 35 then (some (0 : Int32))
            else (some (1 : Int32))) fun (r_192 : Int32) =>
          some ((v2 + 1), (v3 + r_192), t_186)) else none) else none)) fun (r_75 : Int32 × Int32 × xT) =>
      f_lays_L N n 56 v1 r_75.1 r_75.2.1 (v4 + 1) r_75.2.2) else none)) := rfl
def f_lays (N : Nat) (t : xT) (a0 : Int32) : Option (Int32 × xT) :=
  f_lays_L N N 2 a0 0 0 0 t
theorem d_X12_lays_0 : decode (mB M_X12_lays) 0 = .ok (.iconst 0, 1) := by decide +kernel
theorem d_X12_lays_1 : decode (mB M_X12_lays) 1 = .ok (.istore_n 2, 1) := by decide +kernel
theorem d_X12_lays_2 : decode (mB M_X12_lays) 2 = .ok (.iload_n 2, 1) := by decide +kernel
theorem d_X12_lays_3 : decode (mB M_X12_lays) 3 = .ok (.sipush 602, 3) := by decide +kernel
theorem d_X12_lays_6 : decode (mB M_X12_lays) 6 = .ok (.if_icmp .ge 16, 3) := by decide +kernel
theorem d_X12_lays_9 : decode (mB M_X12_lays) 9 = .ok (.aload_n 0, 1) := by decide +kernel
theorem d_X12_lays_10 : decode (mB M_X12_lays) 10 = .ok (.getfield 7, 3) := by decide +kernel
theorem d_X12_lays_13 : decode (mB M_X12_lays) 13 = .ok (.iload_n 2, 1) := by decide +kernel
theorem d_X12_lays_14 : decode (mB M_X12_lays) 14 = .ok (.iconst 0, 1) := by decide +kernel
theorem d_X12_lays_15 : decode (mB M_X12_lays) 15 = .ok (.iastore, 1) := by decide +kernel
theorem d_X12_lays_16 : decode (mB M_X12_lays) 16 = .ok (.iinc 2 1, 3) := by decide +kernel
theorem d_X12_lays_19 : decode (mB M_X12_lays) 19 = .ok (.goto (-17), 3) := by decide +kernel
theorem d_X12_lays_22 : decode (mB M_X12_lays) 22 = .ok (.aload_n 0, 1) := by decide +kernel
theorem d_X12_lays_23 : decode (mB M_X12_lays) 23 = .ok (.getfield 7, 3) := by decide +kernel
theorem d_X12_lays_26 : decode (mB M_X12_lays) 26 = .ok (.iconst 0, 1) := by decide +kernel
theorem d_X12_lays_27 : decode (mB M_X12_lays) 27 = .ok (.iconst 1, 1) := by decide +kernel
theorem d_X12_lays_28 : decode (mB M_X12_lays) 28 = .ok (.iastore, 1) := by decide +kernel
theorem d_X12_lays_29 : decode (mB M_X12_lays) 29 = .ok (.aload_n 0, 1) := by decide +kernel
theorem d_X12_lays_30 : decode (mB M_X12_lays) 30 = .ok (.getfield 7, 3) := by decide +kernel
theorem d_X12_lays_33 : decode (mB M_X12_lays) 33 = .ok (.iconst 1, 1) := by decide +kernel
theorem d_X12_lays_34 : decode (mB M_X12_lays) 34 = .ok (.aload_n 0, 1) := by decide +kernel
theorem d_X12_lays_35 : decode (mB M_X12_lays) 35 = .ok (.getfield 97, 3) := by decide +kernel
theorem d_X12_lays_38 : decode (mB M_X12_lays) 38 = .ok (.iastore, 1) := by decide +kernel
theorem d_X12_lays_39 : decode (mB M_X12_lays) 39 = .ok (.aload_n 0, 1) := by decide +kernel
theorem d_X12_lays_40 : decode (mB M_X12_lays) 40 = .ok (.getfield 7, 3) := by decide +kernel
theorem d_X12_lays_43 : decode (mB M_X12_lays) 43 = .ok (.iconst 2, 1) := by decide +kernel
theorem d_X12_lays_44 : decode (mB M_X12_lays) 44 = .ok (.aload_n 0, 1) := by decide +kernel
theorem d_X12_lays_45 : decode (mB M_X12_lays) 45 = .ok (.getfield 94, 3) := by decide +kernel
theorem d_X12_lays_48 : decode (mB M_X12_lays) 48 = .ok (.iastore, 1) := by decide +kernel
theorem d_X12_lays_49 : decode (mB M_X12_lays) 49 = .ok (.iconst 0, 1) := by decide +kernel
theorem d_X12_lays_50 : decode (mB M_X12_lays) 50 = .ok (.istore_n 2, 1) := by decide +kernel
theorem d_X12_lays_51 : decode (mB M_X12_lays) 51 = .ok (.iconst 0, 1) := by decide +kernel
theorem d_X12_lays_52 : decode (mB M_X12_lays) 52 = .ok (.istore_n 3, 1) := by decide +kernel
theorem d_X12_lays_53 : decode (mB M_X12_lays) 53 = .ok (.iconst 0, 1) := by decide +kernel
theorem d_X12_lays_54 : decode (mB M_X12_lays) 54 = .ok (.istore 4, 2) := by decide +kernel
theorem d_X12_lays_56 : decode (mB M_X12_lays) 56 = .ok (.iload 4, 2) := by decide +kernel
theorem d_X12_lays_58 : decode (mB M_X12_lays) 58 = .ok (.iload_n 1, 1) := by decide +kernel
theorem d_X12_lays_59 : decode (mB M_X12_lays) 59 = .ok (.if_icmp .ge 152, 3) := by decide +kernel
theorem d_X12_lays_62 : decode (mB M_X12_lays) 62 = .ok (.aload_n 0, 1) := by decide +kernel
theorem d_X12_lays_63 : decode (mB M_X12_lays) 63 = .ok (.getfield 26, 3) := by decide +kernel
theorem d_X12_lays_66 : decode (mB M_X12_lays) 66 = .ok (.iload 4, 2) := by decide +kernel
theorem d_X12_lays_68 : decode (mB M_X12_lays) 68 = .ok (.iaload, 1) := by decide +kernel
theorem d_X12_lays_69 : decode (mB M_X12_lays) 69 = .ok (.istore 5, 2) := by decide +kernel
theorem d_X12_lays_71 : decode (mB M_X12_lays) 71 = .ok (.iload 5, 2) := by decide +kernel
theorem d_X12_lays_73 : decode (mB M_X12_lays) 73 = .ok (.bipush 47, 2) := by decide +kernel
theorem d_X12_lays_75 : decode (mB M_X12_lays) 75 = .ok (.if_icmp .ne 6, 3) := by decide +kernel
theorem d_X12_lays_78 : decode (mB M_X12_lays) 78 = .ok (.goto 127, 3) := by decide +kernel
theorem d_X12_lays_81 : decode (mB M_X12_lays) 81 = .ok (.iload 5, 2) := by decide +kernel
theorem d_X12_lays_83 : decode (mB M_X12_lays) 83 = .ok (.bipush 46, 2) := by decide +kernel
theorem d_X12_lays_85 : decode (mB M_X12_lays) 85 = .ok (.if_icmp .eq 17, 3) := by decide +kernel
theorem d_X12_lays_88 : decode (mB M_X12_lays) 88 = .ok (.iload 5, 2) := by decide +kernel
theorem d_X12_lays_90 : decode (mB M_X12_lays) 90 = .ok (.bipush 42, 2) := by decide +kernel
theorem d_X12_lays_92 : decode (mB M_X12_lays) 92 = .ok (.if_icmp .eq 10, 3) := by decide +kernel
theorem d_X12_lays_95 : decode (mB M_X12_lays) 95 = .ok (.iload 5, 2) := by decide +kernel
theorem d_X12_lays_97 : decode (mB M_X12_lays) 97 = .ok (.bipush 43, 2) := by decide +kernel
theorem d_X12_lays_99 : decode (mB M_X12_lays) 99 = .ok (.if_icmp .ne 7, 3) := by decide +kernel
theorem d_X12_lays_102 : decode (mB M_X12_lays) 102 = .ok (.iconst 1, 1) := by decide +kernel
theorem d_X12_lays_103 : decode (mB M_X12_lays) 103 = .ok (.goto 4, 3) := by decide +kernel
theorem d_X12_lays_106 : decode (mB M_X12_lays) 106 = .ok (.iconst 0, 1) := by decide +kernel
theorem d_X12_lays_107 : decode (mB M_X12_lays) 107 = .ok (.istore 6, 2) := by decide +kernel
theorem d_X12_lays_109 : decode (mB M_X12_lays) 109 = .ok (.aload_n 0, 1) := by decide +kernel
theorem d_X12_lays_110 : decode (mB M_X12_lays) 110 = .ok (.getfield 7, 3) := by decide +kernel
theorem d_X12_lays_113 : decode (mB M_X12_lays) 113 = .ok (.bipush 10, 2) := by decide +kernel
theorem d_X12_lays_115 : decode (mB M_X12_lays) 115 = .ok (.iload_n 2, 1) := by decide +kernel
theorem d_X12_lays_116 : decode (mB M_X12_lays) 116 = .ok (.iadd, 1) := by decide +kernel
theorem d_X12_lays_117 : decode (mB M_X12_lays) 117 = .ok (.iload 5, 2) := by decide +kernel
theorem d_X12_lays_119 : decode (mB M_X12_lays) 119 = .ok (.bipush 35, 2) := by decide +kernel
theorem d_X12_lays_121 : decode (mB M_X12_lays) 121 = .ok (.if_icmp .ne 7, 3) := by decide +kernel
theorem d_X12_lays_124 : decode (mB M_X12_lays) 124 = .ok (.iconst 0, 1) := by decide +kernel
theorem d_X12_lays_125 : decode (mB M_X12_lays) 125 = .ok (.goto 4, 3) := by decide +kernel
theorem d_X12_lays_128 : decode (mB M_X12_lays) 128 = .ok (.iconst 1, 1) := by decide +kernel
theorem d_X12_lays_129 : decode (mB M_X12_lays) 129 = .ok (.iload 6, 2) := by decide +kernel
theorem d_X12_lays_131 : decode (mB M_X12_lays) 131 = .ok (.ifCond .eq 7, 3) := by decide +kernel
theorem d_X12_lays_134 : decode (mB M_X12_lays) 134 = .ok (.iconst 2, 1) := by decide +kernel
theorem d_X12_lays_135 : decode (mB M_X12_lays) 135 = .ok (.goto 4, 3) := by decide +kernel
theorem d_X12_lays_138 : decode (mB M_X12_lays) 138 = .ok (.iconst 0, 1) := by decide +kernel
theorem d_X12_lays_139 : decode (mB M_X12_lays) 139 = .ok (.iadd, 1) := by decide +kernel
theorem d_X12_lays_140 : decode (mB M_X12_lays) 140 = .ok (.iastore, 1) := by decide +kernel
theorem d_X12_lays_141 : decode (mB M_X12_lays) 141 = .ok (.aload_n 0, 1) := by decide +kernel
theorem d_X12_lays_142 : decode (mB M_X12_lays) 142 = .ok (.getfield 7, 3) := by decide +kernel
theorem d_X12_lays_145 : decode (mB M_X12_lays) 145 = .ok (.bipush 74, 2) := by decide +kernel
theorem d_X12_lays_147 : decode (mB M_X12_lays) 147 = .ok (.iload_n 2, 1) := by decide +kernel
theorem d_X12_lays_148 : decode (mB M_X12_lays) 148 = .ok (.iadd, 1) := by decide +kernel
theorem d_X12_lays_149 : decode (mB M_X12_lays) 149 = .ok (.iload 5, 2) := by decide +kernel
theorem d_X12_lays_151 : decode (mB M_X12_lays) 151 = .ok (.invokestatic 100, 3) := by decide +kernel
theorem d_X12_lays_154 : decode (mB M_X12_lays) 154 = .ok (.ifCond .eq 7, 3) := by decide +kernel
theorem d_X12_lays_157 : decode (mB M_X12_lays) 157 = .ok (.iconst 1, 1) := by decide +kernel
theorem d_X12_lays_158 : decode (mB M_X12_lays) 158 = .ok (.goto 4, 3) := by decide +kernel
theorem d_X12_lays_161 : decode (mB M_X12_lays) 161 = .ok (.iconst 0, 1) := by decide +kernel
theorem d_X12_lays_162 : decode (mB M_X12_lays) 162 = .ok (.iastore, 1) := by decide +kernel
theorem d_X12_lays_163 : decode (mB M_X12_lays) 163 = .ok (.aload_n 0, 1) := by decide +kernel
theorem d_X12_lays_164 : decode (mB M_X12_lays) 164 = .ok (.getfield 7, 3) := by decide +kernel
theorem d_X12_lays_167 : decode (mB M_X12_lays) 167 = .ok (.iconst 3, 1) := by decide +kernel
theorem d_X12_lays_168 : decode (mB M_X12_lays) 168 = .ok (.iload 5, 2) := by decide +kernel
theorem d_X12_lays_170 : decode (mB M_X12_lays) 170 = .ok (.invokestatic 104, 3) := by decide +kernel
theorem d_X12_lays_173 : decode (mB M_X12_lays) 173 = .ok (.ifCond .eq 7, 3) := by decide +kernel
theorem d_X12_lays_176 : decode (mB M_X12_lays) 176 = .ok (.iload_n 2, 1) := by decide +kernel
theorem d_X12_lays_177 : decode (mB M_X12_lays) 177 = .ok (.goto 9, 3) := by decide +kernel
theorem d_X12_lays_180 : decode (mB M_X12_lays) 180 = .ok (.aload_n 0, 1) := by decide +kernel
theorem d_X12_lays_181 : decode (mB M_X12_lays) 181 = .ok (.getfield 7, 3) := by decide +kernel
theorem d_X12_lays_184 : decode (mB M_X12_lays) 184 = .ok (.iconst 3, 1) := by decide +kernel
theorem d_X12_lays_185 : decode (mB M_X12_lays) 185 = .ok (.iaload, 1) := by decide +kernel
theorem d_X12_lays_186 : decode (mB M_X12_lays) 186 = .ok (.iastore, 1) := by decide +kernel
theorem d_X12_lays_187 : decode (mB M_X12_lays) 187 = .ok (.iload_n 3, 1) := by decide +kernel
theorem d_X12_lays_188 : decode (mB M_X12_lays) 188 = .ok (.iload 5, 2) := by decide +kernel
theorem d_X12_lays_190 : decode (mB M_X12_lays) 190 = .ok (.bipush 35, 2) := by decide +kernel
theorem d_X12_lays_192 : decode (mB M_X12_lays) 192 = .ok (.if_icmp .ne 7, 3) := by decide +kernel
theorem d_X12_lays_195 : decode (mB M_X12_lays) 195 = .ok (.iconst 0, 1) := by decide +kernel
theorem d_X12_lays_196 : decode (mB M_X12_lays) 196 = .ok (.goto 4, 3) := by decide +kernel
theorem d_X12_lays_199 : decode (mB M_X12_lays) 199 = .ok (.iconst 1, 1) := by decide +kernel
theorem d_X12_lays_200 : decode (mB M_X12_lays) 200 = .ok (.iadd, 1) := by decide +kernel
theorem d_X12_lays_201 : decode (mB M_X12_lays) 201 = .ok (.istore_n 3, 1) := by decide +kernel
theorem d_X12_lays_202 : decode (mB M_X12_lays) 202 = .ok (.iinc 2 1, 3) := by decide +kernel
theorem d_X12_lays_205 : decode (mB M_X12_lays) 205 = .ok (.iinc 4 1, 3) := by decide +kernel
theorem d_X12_lays_208 : decode (mB M_X12_lays) 208 = .ok (.goto (-152), 3) := by decide +kernel
theorem d_X12_lays_211 : decode (mB M_X12_lays) 211 = .ok (.aload_n 0, 1) := by decide +kernel
theorem d_X12_lays_212 : decode (mB M_X12_lays) 212 = .ok (.iconst 0, 1) := by decide +kernel
theorem d_X12_lays_213 : decode (mB M_X12_lays) 213 = .ok (.putfield 80, 3) := by decide +kernel
theorem d_X12_lays_216 : decode (mB M_X12_lays) 216 = .ok (.iload_n 3, 1) := by decide +kernel
theorem d_X12_lays_217 : decode (mB M_X12_lays) 217 = .ok (.ireturn, 1) := by decide +kernel
theorem l_m_lays {E : mEnv} (hE : E.1.stackTraces = false) (C : List mE) (N : Nat) : ∀ n : Nat, (∀ (v1 : Int32) (v2 : Int32) (t : xT) (r : Int32 × xT), f_lays_L N n 2 v1 v2 0 0 t = some r → Go E M_X12_lays 0 (2, [some (.ref 0), some (.int v1), some (.int v2), none, none, none, none], [], (mw t, C)) (.inr (.inl (some (.int r.1), (mw r.2, C))))) ∧ (∀ (v1 : Int32) (v2 : Int32) (v3 : Int32) (v4 : Int32) (t : xT) (r : Int32 × xT), f_lays_L N n 56 v1 v2 v3 v4 t = some r → Go E M_X12_lays 0 (56, [some (.ref 0), some (.int v1), some (.int v2), some (.int v3), some (.int v4), none, none], [], (mw t, C)) (.inr (.inl (some (.int r.1), (mw r.2, C))))) := by
  intro n
  induction n with
  | zero => exact ⟨(fun v1 v2 t r h => by cases h), (fun v1 v2 v3 v4 t r h => by cases h)⟩
  | succ n ih =>
    refine ⟨?_, ?_⟩
    · intro v1 v2 t r h
      rw [u_lays_2] at h
      refine g_iload_n d_X12_lays_2 rfl ?_
      refine g_sipush (v := 602) d_X12_lays_3 (by decide) ?_
      refine g_icmp_ge (tgt := 22) d_X12_lays_6 (by decide) (fun c_6 => ?_) (fun c_6 => ?_)
      · replace h := opos c_6 h
        refine g_aload_n d_X12_lays_22 rfl ?_
        refine g_getf d_X12_lays_23 f_X12_7 (gm0 t C) rfl ?_
        refine g_iconst (v := 0) d_X12_lays_26 (by decide) ?_
        refine g_iconst (v := 1) d_X12_lays_27 (by decide) ?_
        obtain ⟨t_28, e_28, h⟩ := olet h
        refine g_iast (w' := (mw t_28, C)) d_X12_lays_28 (gm_1 t C) (inB_in (by decide)) (by rw [e_28]; exact st_1 t C _) ?_
        refine g_aload_n d_X12_lays_29 rfl ?_
        refine g_getf d_X12_lays_30 f_X12_7 (gm0 t_28 C) rfl ?_
        refine g_iconst (v := 1) d_X12_lays_33 (by decide) ?_
        refine g_aload_n d_X12_lays_34 rfl ?_
        refine g_getf d_X12_lays_35 f_X12_97 (gm0 t_28 C) rfl ?_
        obtain ⟨t_38, e_38, h⟩ := olet h
        refine g_iast (w' := (mw t_38, C)) d_X12_lays_38 (gm_1 t_28 C) (inB_in (by decide)) (by rw [e_38]; exact st_1 t_28 C _) ?_
        refine g_aload_n d_X12_lays_39 rfl ?_
        refine g_getf d_X12_lays_40 f_X12_7 (gm0 t_38 C) rfl ?_
        refine g_iconst (v := 2) d_X12_lays_43 (by decide) ?_
        refine g_aload_n d_X12_lays_44 rfl ?_
        refine g_getf d_X12_lays_45 f_X12_94 (gm0 t_38 C) rfl ?_
        obtain ⟨t_48, e_48, h⟩ := olet h
        refine g_iast (w' := (mw t_48, C)) d_X12_lays_48 (gm_1 t_38 C) (inB_in (by decide)) (by rw [e_48]; exact st_1 t_38 C _) ?_
        refine g_iconst (v := 0) d_X12_lays_49 (by decide) ?_
        refine g_istore_n (L' := [some (.ref 0), some (.int v1), some (.int 0), none, none, none, none]) d_X12_lays_50 rfl rfl ?_
        refine g_iconst (v := 0) d_X12_lays_51 (by decide) ?_
        refine g_istore_n (L' := [some (.ref 0), some (.int v1), some (.int 0), some (.int 0), none, none, none]) d_X12_lays_52 rfl rfl ?_
        refine g_iconst (v := 0) d_X12_lays_53 (by decide) ?_
        refine g_istore (L' := [some (.ref 0), some (.int v1), some (.int 0), some (.int 0), some (.int 0), none, none]) d_X12_lays_54 rfl rfl ?_
        exact (ih).2 v1 0 0 0 t_48 _ h
      · replace h := oneg c_6 h
        refine g_aload_n d_X12_lays_9 rfl ?_
        refine g_getf d_X12_lays_10 f_X12_7 (gm0 t C) rfl ?_
        refine g_iload_n d_X12_lays_13 rfl ?_
        refine g_iconst (v := 0) d_X12_lays_14 (by decide) ?_
        obtain ⟨i_15, h⟩ := ochk h
        obtain ⟨t_15, e_15, h⟩ := olet h
        refine g_iast (w' := (mw t_15, C)) d_X12_lays_15 (gm_1 t C) (inB_in i_15) (by rw [e_15]; exact st_1 t C _) ?_
        refine g_iinc (v := (v2 + 1)) (L' := [some (.ref 0), some (.int v1), some (.int (v2 + 1)), none, none, none, none]) d_X12_lays_16 rfl rfl rfl ?_
        refine g_goto (tgt := 2) d_X12_lays_19 (by decide) ?_
        exact (ih).1 v1 (v2 + 1) t_15 _ h
    · intro v1 v2 v3 v4 t r h
      rw [u_lays_56] at h
      refine g_iload d_X12_lays_56 rfl ?_
      refine g_iload_n d_X12_lays_58 rfl ?_
      refine g_icmp_ge (tgt := 211) d_X12_lays_59 (by decide) (fun c_59 => ?_) (fun c_59 => ?_)
      · replace h := opos c_59 h
        refine g_aload_n d_X12_lays_211 rfl ?_
        refine g_iconst (v := 0) d_X12_lays_212 (by decide) ?_
        obtain ⟨t_213, e_213, h⟩ := olet h
        refine g_putI (w' := (mw t_213, C)) d_X12_lays_213 p_X12_80 rfl rfl (gm0 t C) (Nat.le_of_ble_eq_true rfl) (by rw [e_213]; exact sc_5 t C _) ?_
        refine g_iload_n d_X12_lays_216 rfl ?_
        obtain rfl := osome h
        exact g_retI d_X12_lays_217 rfl rfl rfl
      · replace h := oneg c_59 h
        refine g_aload_n d_X12_lays_62 rfl ?_
        refine g_getf d_X12_lays_63 f_X12_26 (gm0 t C) rfl ?_
        refine g_iload d_X12_lays_66 rfl ?_
        obtain ⟨i_68, h⟩ := ochk h
        refine g_iald d_X12_lays_68 (gm_5 t C) (inB_in i_68) ?_
        refine g_istore (L' := [some (.ref 0), some (.int v1), some (.int v2), some (.int v3), some (.int v4), some (.int ((ra t 5) (Int32.toNatClampNeg v4))), none]) d_X12_lays_69 rfl rfl ?_
        refine g_iload d_X12_lays_71 rfl ?_
        refine g_bipush (v := 47) d_X12_lays_73 (by decide) ?_
        obtain ⟨r_75, h_75, hh_75⟩ := obind h
        refine Go.trans0 (S1 := (205, [some (.ref 0), some (.int v1), some (.int r_75.1), some (.int r_75.2.1), some (.int v4), none, none], [], (mw r_75.2.2, C))) ?_ ?_
        · replace h := h_75
          clear hh_75
          refine g_icmp_ne (tgt := 81) d_X12_lays_75 (by decide) (fun c_75 => ?_) (fun c_75 => ?_)
          · replace h := oneg c_75 h
            refine g_iload d_X12_lays_81 rfl ?_
            refine g_bipush (v := 46) d_X12_lays_83 (by decide) ?_
            obtain ⟨r_85, h_85, hh_85⟩ := obind h
            refine Go.trans0 (S1 := (107, [some (.ref 0), some (.int v1), some (.int v2), some (.int v3), some (.int v4), some (.int ((ra t 5) (Int32.toNatClampNeg v4))), none], [.int r_85], (mw t, C))) ?_ ?_
            · replace h := h_85
              clear hh_85
              refine g_icmp_eq (tgt := 102) d_X12_lays_85 (by decide) (fun c_85 => ?_) (fun c_85 => ?_)
              · replace h := opos c_85 h
                refine g_iconst (v := 1) d_X12_lays_102 (by decide) ?_
                refine g_goto (tgt := 107) d_X12_lays_103 (by decide) ?_
                obtain rfl := osome h
                exact g_end rfl
              · replace h := oneg c_85 h
                refine g_iload d_X12_lays_88 rfl ?_
                refine g_bipush (v := 42) d_X12_lays_90 (by decide) ?_
                refine g_icmp_eq (tgt := 102) d_X12_lays_92 (by decide) (fun c_92 => ?_) (fun c_92 => ?_)
                · replace h := opos c_92 h
                  refine g_iconst (v := 1) d_X12_lays_102 (by decide) ?_
                  refine g_goto (tgt := 107) d_X12_lays_103 (by decide) ?_
                  obtain rfl := osome h
                  exact g_end rfl
                · replace h := oneg c_92 h
                  refine g_iload d_X12_lays_95 rfl ?_
                  refine g_bipush (v := 43) d_X12_lays_97 (by decide) ?_
                  refine g_icmp_ne (tgt := 106) d_X12_lays_99 (by decide) (fun c_99 => ?_) (fun c_99 => ?_)
                  · replace h := oneg c_99 h
                    refine g_iconst (v := 0) d_X12_lays_106 (by decide) ?_
                    obtain rfl := osome h
                    exact g_end rfl
                  · replace h := opos c_99 h
                    refine g_iconst (v := 1) d_X12_lays_102 (by decide) ?_
                    refine g_goto (tgt := 107) d_X12_lays_103 (by decide) ?_
                    obtain rfl := osome h
                    exact g_end rfl
            replace h := hh_85
            refine g_istore (L' := [some (.ref 0), some (.int v1), some (.int v2), some (.int v3), some (.int v4), some (.int ((ra t 5) (Int32.toNatClampNeg v4))), some (.int r_85)]) d_X12_lays_107 rfl rfl ?_
            refine g_aload_n d_X12_lays_109 rfl ?_
            refine g_getf d_X12_lays_110 f_X12_7 (gm0 t C) rfl ?_
            refine g_bipush (v := 10) d_X12_lays_113 (by decide) ?_
            refine g_iload_n d_X12_lays_115 rfl ?_
            refine g_iadd d_X12_lays_116 ?_
            refine g_iload d_X12_lays_117 rfl ?_
            refine g_bipush (v := 35) d_X12_lays_119 (by decide) ?_
            obtain ⟨r_121, h_121, hh_121⟩ := obind h
            refine Go.trans0 (S1 := (129, [some (.ref 0), some (.int v1), some (.int v2), some (.int v3), some (.int v4), some (.int ((ra t 5) (Int32.toNatClampNeg v4))), some (.int r_85)], [.int r_121, .int (10 + v2), .ref 1], (mw t, C))) ?_ ?_
            · replace h := h_121
              clear hh_121
              refine g_icmp_ne (tgt := 128) d_X12_lays_121 (by decide) (fun c_121 => ?_) (fun c_121 => ?_)
              · replace h := oneg c_121 h
                refine g_iconst (v := 1) d_X12_lays_128 (by decide) ?_
                obtain rfl := osome h
                exact g_end rfl
              · replace h := opos c_121 h
                refine g_iconst (v := 0) d_X12_lays_124 (by decide) ?_
                refine g_goto (tgt := 129) d_X12_lays_125 (by decide) ?_
                obtain rfl := osome h
                exact g_end rfl
            replace h := hh_121
            refine g_iload d_X12_lays_129 rfl ?_
            obtain ⟨r_131, h_131, hh_131⟩ := obind h
            refine Go.trans0 (S1 := (139, [some (.ref 0), some (.int v1), some (.int v2), some (.int v3), some (.int v4), some (.int ((ra t 5) (Int32.toNatClampNeg v4))), none], [.int r_131, .int r_121, .int (10 + v2), .ref 1], (mw t, C))) ?_ ?_
            · replace h := h_131
              clear hh_131
              refine g_if_eq (tgt := 138) d_X12_lays_131 (by decide) (fun c_131 => ?_) (fun c_131 => ?_)
              · replace h := opos c_131 h
                refine g_iconst (v := 0) d_X12_lays_138 (by decide) ?_
                obtain rfl := osome h
                exact g_drop [6] rfl (g_end rfl)
              · replace h := oneg c_131 h
                refine g_iconst (v := 2) d_X12_lays_134 (by decide) ?_
                refine g_goto (tgt := 139) d_X12_lays_135 (by decide) ?_
                obtain rfl := osome h
                exact g_drop [6] rfl (g_end rfl)
            replace h := hh_131
            refine g_iadd d_X12_lays_139 ?_
            obtain ⟨i_140, h⟩ := ochk h
            obtain ⟨t_140, e_140, h⟩ := olet h
            refine g_iast (w' := (mw t_140, C)) d_X12_lays_140 (gm_1 t C) (inB_in i_140) (by rw [e_140]; exact st_1 t C _) ?_
            refine g_aload_n d_X12_lays_141 rfl ?_
            refine g_getf d_X12_lays_142 f_X12_7 (gm0 t_140 C) rfl ?_
            refine g_bipush (v := 74) d_X12_lays_145 (by decide) ?_
            refine g_iload_n d_X12_lays_147 rfl ?_
            refine g_iadd d_X12_lays_148 ?_
            refine g_iload d_X12_lays_149 rfl ?_
            obtain ⟨r_151, h_151, h⟩ := obind h
            refine g_callS (As := [.int ((ra t 5) (Int32.toNatClampNeg v4))]) d_X12_lays_151 o_X12_isBoxText l_X12_100 ⟨Nat.le_of_ble_eq_true rfl, Nat.le_of_ble_eq_true rfl⟩ (c_m_isBoxText hE C t_140 ((ra t 5) (Int32.toNatClampNeg v4)) _ h_151) rfl rfl ?_ (Nat.zero_add _)
            obtain ⟨r_154, h_154, hh_154⟩ := obind h
            refine Go.trans0 (S1 := (162, [some (.ref 0), some (.int v1), some (.int v2), some (.int v3), some (.int v4), some (.int ((ra t 5) (Int32.toNatClampNeg v4))), none], [.int r_154, .int (74 + v2), .ref 1], (mw t_140, C))) ?_ ?_
            · replace h := h_154
              clear hh_154
              refine g_if_eq (tgt := 161) d_X12_lays_154 (by decide) (fun c_154 => ?_) (fun c_154 => ?_)
              · replace h := opos c_154 h
                refine g_iconst (v := 0) d_X12_lays_161 (by decide) ?_
                obtain rfl := osome h
                exact g_end rfl
              · replace h := oneg c_154 h
                refine g_iconst (v := 1) d_X12_lays_157 (by decide) ?_
                refine g_goto (tgt := 162) d_X12_lays_158 (by decide) ?_
                obtain rfl := osome h
                exact g_end rfl
            replace h := hh_154
            obtain ⟨i_162, h⟩ := ochk h
            obtain ⟨t_162, e_162, h⟩ := olet h
            refine g_iast (w' := (mw t_162, C)) d_X12_lays_162 (gm_1 t_140 C) (inB_in i_162) (by rw [e_162]; exact st_1 t_140 C _) ?_
            refine g_aload_n d_X12_lays_163 rfl ?_
            refine g_getf d_X12_lays_164 f_X12_7 (gm0 t_162 C) rfl ?_
            refine g_iconst (v := 3) d_X12_lays_167 (by decide) ?_
            refine g_iload d_X12_lays_168 rfl ?_
            obtain ⟨r_170, h_170, h⟩ := obind h
            refine g_callS (As := [.int ((ra t 5) (Int32.toNatClampNeg v4))]) d_X12_lays_170 o_X12_isPlayerText l_X12_104 ⟨Nat.le_of_ble_eq_true rfl, Nat.le_of_ble_eq_true rfl⟩ (c_m_isPlayerText hE C t_162 ((ra t 5) (Int32.toNatClampNeg v4)) _ h_170) rfl rfl ?_ (Nat.zero_add _)
            obtain ⟨r_173, h_173, hh_173⟩ := obind h
            refine Go.trans0 (S1 := (186, [some (.ref 0), some (.int v1), some (.int v2), some (.int v3), some (.int v4), some (.int ((ra t 5) (Int32.toNatClampNeg v4))), none], [.int r_173, .int 3, .ref 1], (mw t_162, C))) ?_ ?_
            · replace h := h_173
              clear hh_173
              refine g_if_eq (tgt := 180) d_X12_lays_173 (by decide) (fun c_173 => ?_) (fun c_173 => ?_)
              · replace h := opos c_173 h
                refine g_aload_n d_X12_lays_180 rfl ?_
                refine g_getf d_X12_lays_181 f_X12_7 (gm0 t_162 C) rfl ?_
                refine g_iconst (v := 3) d_X12_lays_184 (by decide) ?_
                refine g_iald d_X12_lays_185 (gm_1 t_162 C) (inB_in (by decide)) ?_
                obtain rfl := osome h
                exact g_end rfl
              · replace h := oneg c_173 h
                refine g_iload_n d_X12_lays_176 rfl ?_
                refine g_goto (tgt := 186) d_X12_lays_177 (by decide) ?_
                obtain rfl := osome h
                exact g_end rfl
            replace h := hh_173
            obtain ⟨t_186, e_186, h⟩ := olet h
            refine g_iast (w' := (mw t_186, C)) d_X12_lays_186 (gm_1 t_162 C) (inB_in (by decide)) (by rw [e_186]; exact st_1 t_162 C _) ?_
            refine g_iload_n d_X12_lays_187 rfl ?_
            refine g_iload d_X12_lays_188 rfl ?_
            refine g_bipush (v := 35) d_X12_lays_190 (by decide) ?_
            obtain ⟨r_192, h_192, hh_192⟩ := obind h
            refine Go.trans0 (S1 := (200, [some (.ref 0), some (.int v1), some (.int v2), none, some (.int v4), none, none], [.int r_192, .int v3], (mw t_186, C))) ?_ ?_
            · replace h := h_192
              clear hh_192
              refine g_icmp_ne (tgt := 199) d_X12_lays_192 (by decide) (fun c_192 => ?_) (fun c_192 => ?_)
              · replace h := oneg c_192 h
                refine g_iconst (v := 1) d_X12_lays_199 (by decide) ?_
                obtain rfl := osome h
                exact g_drop [3, 5] rfl (g_end rfl)
              · replace h := opos c_192 h
                refine g_iconst (v := 0) d_X12_lays_195 (by decide) ?_
                refine g_goto (tgt := 200) d_X12_lays_196 (by decide) ?_
                obtain rfl := osome h
                exact g_drop [3, 5] rfl (g_end rfl)
            replace h := hh_192
            refine g_iadd d_X12_lays_200 ?_
            refine g_istore_n (L' := [some (.ref 0), some (.int v1), some (.int v2), some (.int (v3 + r_192)), some (.int v4), none, none]) d_X12_lays_201 rfl rfl ?_
            refine g_iinc (v := (v2 + 1)) (L' := [some (.ref 0), some (.int v1), some (.int (v2 + 1)), some (.int (v3 + r_192)), some (.int v4), none, none]) d_X12_lays_202 rfl rfl rfl ?_
            obtain rfl := osome h
            exact g_end rfl
          · replace h := opos c_75 h
            refine g_goto (tgt := 205) d_X12_lays_78 (by decide) ?_
            obtain rfl := osome h
            exact g_drop [5] rfl (g_end rfl)
        replace h := hh_75
        refine g_iinc (v := (v4 + 1)) (L' := [some (.ref 0), some (.int v1), some (.int r_75.1), some (.int r_75.2.1), some (.int (v4 + 1)), none, none]) d_X12_lays_205 rfl rfl rfl ?_
        refine g_goto (tgt := 56) d_X12_lays_208 (by decide) ?_
        exact (ih).2 v1 r_75.1 r_75.2.1 (v4 + 1) r_75.2.2 _ h
theorem c_m_lays {E : mEnv} (hE : E.1.stackTraces = false) (C : List mE) (N : Nat) (t : xT) (a0 : Int32) (r : Int32 × xT) (h : f_lays N t a0 = some r) : Rt E M_X12_lays 0 [.ref 0, .int a0] (mw t, C) (some (.int r.1)) (mw r.2, C) := by
  unfold f_lays at h
  refine Rt.of hE rfl pn_X12 (Nat.le_of_ble_eq_true rfl) ?_
  refine g_eq (S' := (0, [some (.ref 0), some (.int a0), none, none, none, none, none], [], (mw t, C))) rfl ?_
  refine g_iconst (v := 0) d_X12_lays_0 (by decide) ?_
  refine g_istore_n (L' := [some (.ref 0), some (.int a0), some (.int 0), none, none, none, none]) d_X12_lays_1 rfl rfl ?_
  exact (l_m_lays hE C N N).1 a0 0 t _ h
def f_readRoom_L (N : Nat) : Nat → Int32 → Int32 → Int32 → Int32 → Int32 → xT → Option (Int32 × xT)
  | 0, _, _, _, _, _, _ => none
  | n + 1, v2, v3, v4, v5, v6, t =>
    if v2 ≤ v6 then (Option.bind (f_in (rs t 14) 3 8) fun r_133 =>
      if r_133 = 0 then (Option.bind (f_fails t 1) fun r_169 =>
        some (r_169.1, r_169.2))
      else (Option.bind (f_in (rs t 13) 3 8) fun r_146 =>
        if r_146 = 0 then (Option.bind (f_fails t 1) fun r_169 =>
          some (r_169.1, r_169.2))
        else (if v5 = 0 then (Option.bind (f_fails t 1) fun r_169 =>
            some (r_169.1, r_169.2))
          else (if v3 = 0 then (Option.bind (f_fails t 1) fun r_169 =>
              some (r_169.1, r_169.2))
            else (if v3 ≤ v4 then (Option.bind (f_lays N t v2) fun r_175 =>
                some (r_175.1, r_175.2))
              else (Option.bind (f_fails t 1) fun r_169 =>
                some (r_169.1, r_169.2)))))))
    else (if inB v6 80 = true then (Option.bind (f_isBoxText ((ra t 5) (Int32.toNatClampNeg v6))) fun r_58 =>
      Option.bind (if r_58 = 0 then (some (0 : Int32))
        else (some (1 : Int32))) fun (r_61 : Int32) =>
      Option.bind (if ((ra t 5) (Int32.toNatClampNeg v6)) = 46 then (some (1 : Int32))
        else (if ((ra t 5) (Int32.toNatClampNeg v6)) = 42 then (some (1 : Int32))
          else (if ((ra t 5) (Int32.toNatClampNeg v6)) = 43 then (some (1 : Int32))
            else (some (0 : Int32))))) fun (r_77 : Int32) =>
      Option.bind (f_isPlayerText ((ra t 5) (Int32.toNatClampNeg v6))) fun r_106 =>
      Option.bind (if r_106 = 0 then (some (0 : Int32))
        else (some (1 : Int32))) fun (r_109 : Int32) =>
      f_readRoom_L N n v2 (v3 + r_61) (v4 + r_77) (v5 + r_109) (v6 + 1) t) else none)
theorem u_readRoom_40 (N n : Nat) (v2 : Int32) (v3 : Int32) (v4 : Int32) (v5 : Int32) (v6 : Int32) (t : xT) : f_readRoom_L N (n + 1) v2 v3 v4 v5 v6 t = (if v2 ≤ v6 then (Option.bind (f_in (rs t 14) 3 8) fun r_133 =>
      if r_133 = 0 then (Option.bind (f_fails t 1) fun r_169 =>
        some (r_169.1, r_169.2))
      else (Option.bind (f_in (rs t 13) 3 8) fun r_146 =>
        if r_146 = 0 then (Option.bind (f_fails t 1) fun r_169 =>
          some (r_169.1, r_169.2))
        else (if v5 = 0 then (Option.bind (f_fails t 1) fun r_169 =>
            some (r_169.1, r_169.2))
          else (if v3 = 0 then (Option.bind (f_fails t 1) fun r_169 =>
              some (r_169.1, r_169.2))
            else (if v3 ≤ v4 then (Option.bind (f_lays N t v2) fun r_175 =>
                some (r_175.1, r_175.2))
              else (Option.bind (f_fails t 1) fun r_169 =>
                some (r_169.1, r_169.2)))))))
    else (if inB v6 80 = true then (Option.bind (f_isBoxText ((ra t 5) (Int32.toNatClampNeg v6))) fun r_58 =>
      Option.bind (if r_58 = 0 then (some (0 : Int32))
        else (some (1 : Int32))) fun (r_61 : Int32) =>
      Option.bind (if ((ra t 5) (Int32.toNatClampNeg v6)) = 46 then (some (1 : Int32))
        else (if ((ra t 5) (Int32.toNatClampNeg v6)) = 42 then (some (1 : Int32))
          else (if ((ra t 5) (Int32.toNatClampNeg v6)) = 43 then (some (1 : Int32))
            else (some (0 : Int32))))) fun (r_77 : Int32) =>
      Option.bind (f_isPlayerText ((ra t 5) (Int32.toNatClampNeg v6))) fun r_106 =>
      Option.bind (if r_106 = 0 then (some (0 : Int32))
        else (some (1 : Int32))) fun (r_109 : Int32) =>
      f_readRoom_L N n v2 (v3 + r_61) (v4 + r_77) (v5 + r_109) (v6 + 1) t) else none)) := rfl
def f_readRoom (N : Nat) (t : xT)  : Option (Int32 × xT) :=
  Option.bind (some (ws t 9 0)) fun t_2 =>
  Option.bind (f_roomFault N t_2) fun r_6 =>
  Option.bind (some (ws r_6.2 11 0)) fun t_17 =>
  if r_6.1 < 0 then (f_readRoom_L N N (rs r_6.2 11) 0 0 0 0 t_17)
  else (some (((-100) - r_6.1), t_17))
theorem d_X12_readRoom_0 : decode (mB M_X12_readRoom) 0 = .ok (.aload_n 0, 1) := by decide +kernel
theorem d_X12_readRoom_1 : decode (mB M_X12_readRoom) 1 = .ok (.iconst 0, 1) := by decide +kernel
theorem d_X12_readRoom_2 : decode (mB M_X12_readRoom) 2 = .ok (.putfield 73, 3) := by decide +kernel
theorem d_X12_readRoom_5 : decode (mB M_X12_readRoom) 5 = .ok (.aload_n 0, 1) := by decide +kernel
theorem d_X12_readRoom_6 : decode (mB M_X12_readRoom) 6 = .ok (.invokevirtual 110, 3) := by decide +kernel
theorem d_X12_readRoom_9 : decode (mB M_X12_readRoom) 9 = .ok (.istore_n 1, 1) := by decide +kernel
theorem d_X12_readRoom_10 : decode (mB M_X12_readRoom) 10 = .ok (.aload_n 0, 1) := by decide +kernel
theorem d_X12_readRoom_11 : decode (mB M_X12_readRoom) 11 = .ok (.getfield 91, 3) := by decide +kernel
theorem d_X12_readRoom_14 : decode (mB M_X12_readRoom) 14 = .ok (.istore_n 2, 1) := by decide +kernel
theorem d_X12_readRoom_15 : decode (mB M_X12_readRoom) 15 = .ok (.aload_n 0, 1) := by decide +kernel
theorem d_X12_readRoom_16 : decode (mB M_X12_readRoom) 16 = .ok (.iconst 0, 1) := by decide +kernel
theorem d_X12_readRoom_17 : decode (mB M_X12_readRoom) 17 = .ok (.putfield 91, 3) := by decide +kernel
theorem d_X12_readRoom_20 : decode (mB M_X12_readRoom) 20 = .ok (.iload_n 1, 1) := by decide +kernel
theorem d_X12_readRoom_21 : decode (mB M_X12_readRoom) 21 = .ok (.ifCond .lt 8, 3) := by decide +kernel
theorem d_X12_readRoom_24 : decode (mB M_X12_readRoom) 24 = .ok (.bipush (-100), 2) := by decide +kernel
theorem d_X12_readRoom_26 : decode (mB M_X12_readRoom) 26 = .ok (.iload_n 1, 1) := by decide +kernel
theorem d_X12_readRoom_27 : decode (mB M_X12_readRoom) 27 = .ok (.isub, 1) := by decide +kernel
theorem d_X12_readRoom_28 : decode (mB M_X12_readRoom) 28 = .ok (.ireturn, 1) := by decide +kernel
theorem d_X12_readRoom_29 : decode (mB M_X12_readRoom) 29 = .ok (.iconst 0, 1) := by decide +kernel
theorem d_X12_readRoom_30 : decode (mB M_X12_readRoom) 30 = .ok (.istore_n 3, 1) := by decide +kernel
theorem d_X12_readRoom_31 : decode (mB M_X12_readRoom) 31 = .ok (.iconst 0, 1) := by decide +kernel
theorem d_X12_readRoom_32 : decode (mB M_X12_readRoom) 32 = .ok (.istore 4, 2) := by decide +kernel
theorem d_X12_readRoom_34 : decode (mB M_X12_readRoom) 34 = .ok (.iconst 0, 1) := by decide +kernel
theorem d_X12_readRoom_35 : decode (mB M_X12_readRoom) 35 = .ok (.istore 5, 2) := by decide +kernel
theorem d_X12_readRoom_37 : decode (mB M_X12_readRoom) 37 = .ok (.iconst 0, 1) := by decide +kernel
theorem d_X12_readRoom_38 : decode (mB M_X12_readRoom) 38 = .ok (.istore 6, 2) := by decide +kernel
theorem d_X12_readRoom_40 : decode (mB M_X12_readRoom) 40 = .ok (.iload 6, 2) := by decide +kernel
theorem d_X12_readRoom_42 : decode (mB M_X12_readRoom) 42 = .ok (.iload_n 2, 1) := by decide +kernel
theorem d_X12_readRoom_43 : decode (mB M_X12_readRoom) 43 = .ok (.if_icmp .ge 83, 3) := by decide +kernel
theorem d_X12_readRoom_46 : decode (mB M_X12_readRoom) 46 = .ok (.aload_n 0, 1) := by decide +kernel
theorem d_X12_readRoom_47 : decode (mB M_X12_readRoom) 47 = .ok (.getfield 26, 3) := by decide +kernel
theorem d_X12_readRoom_50 : decode (mB M_X12_readRoom) 50 = .ok (.iload 6, 2) := by decide +kernel
theorem d_X12_readRoom_52 : decode (mB M_X12_readRoom) 52 = .ok (.iaload, 1) := by decide +kernel
theorem d_X12_readRoom_53 : decode (mB M_X12_readRoom) 53 = .ok (.istore 7, 2) := by decide +kernel
theorem d_X12_readRoom_55 : decode (mB M_X12_readRoom) 55 = .ok (.iload_n 3, 1) := by decide +kernel
theorem d_X12_readRoom_56 : decode (mB M_X12_readRoom) 56 = .ok (.iload 7, 2) := by decide +kernel
theorem d_X12_readRoom_58 : decode (mB M_X12_readRoom) 58 = .ok (.invokestatic 100, 3) := by decide +kernel
theorem d_X12_readRoom_61 : decode (mB M_X12_readRoom) 61 = .ok (.ifCond .eq 7, 3) := by decide +kernel
theorem d_X12_readRoom_64 : decode (mB M_X12_readRoom) 64 = .ok (.iconst 1, 1) := by decide +kernel
theorem d_X12_readRoom_65 : decode (mB M_X12_readRoom) 65 = .ok (.goto 4, 3) := by decide +kernel
theorem d_X12_readRoom_68 : decode (mB M_X12_readRoom) 68 = .ok (.iconst 0, 1) := by decide +kernel
theorem d_X12_readRoom_69 : decode (mB M_X12_readRoom) 69 = .ok (.iadd, 1) := by decide +kernel
theorem d_X12_readRoom_70 : decode (mB M_X12_readRoom) 70 = .ok (.istore_n 3, 1) := by decide +kernel
theorem d_X12_readRoom_71 : decode (mB M_X12_readRoom) 71 = .ok (.iload 4, 2) := by decide +kernel
theorem d_X12_readRoom_73 : decode (mB M_X12_readRoom) 73 = .ok (.iload 7, 2) := by decide +kernel
theorem d_X12_readRoom_75 : decode (mB M_X12_readRoom) 75 = .ok (.bipush 46, 2) := by decide +kernel
theorem d_X12_readRoom_77 : decode (mB M_X12_readRoom) 77 = .ok (.if_icmp .eq 17, 3) := by decide +kernel
theorem d_X12_readRoom_80 : decode (mB M_X12_readRoom) 80 = .ok (.iload 7, 2) := by decide +kernel
theorem d_X12_readRoom_82 : decode (mB M_X12_readRoom) 82 = .ok (.bipush 42, 2) := by decide +kernel
theorem d_X12_readRoom_84 : decode (mB M_X12_readRoom) 84 = .ok (.if_icmp .eq 10, 3) := by decide +kernel
theorem d_X12_readRoom_87 : decode (mB M_X12_readRoom) 87 = .ok (.iload 7, 2) := by decide +kernel
theorem d_X12_readRoom_89 : decode (mB M_X12_readRoom) 89 = .ok (.bipush 43, 2) := by decide +kernel
theorem d_X12_readRoom_91 : decode (mB M_X12_readRoom) 91 = .ok (.if_icmp .ne 7, 3) := by decide +kernel
theorem d_X12_readRoom_94 : decode (mB M_X12_readRoom) 94 = .ok (.iconst 1, 1) := by decide +kernel
theorem d_X12_readRoom_95 : decode (mB M_X12_readRoom) 95 = .ok (.goto 4, 3) := by decide +kernel
theorem d_X12_readRoom_98 : decode (mB M_X12_readRoom) 98 = .ok (.iconst 0, 1) := by decide +kernel
theorem d_X12_readRoom_99 : decode (mB M_X12_readRoom) 99 = .ok (.iadd, 1) := by decide +kernel
theorem d_X12_readRoom_100 : decode (mB M_X12_readRoom) 100 = .ok (.istore 4, 2) := by decide +kernel
theorem d_X12_readRoom_102 : decode (mB M_X12_readRoom) 102 = .ok (.iload 5, 2) := by decide +kernel
theorem d_X12_readRoom_104 : decode (mB M_X12_readRoom) 104 = .ok (.iload 7, 2) := by decide +kernel
theorem d_X12_readRoom_106 : decode (mB M_X12_readRoom) 106 = .ok (.invokestatic 104, 3) := by decide +kernel
theorem d_X12_readRoom_109 : decode (mB M_X12_readRoom) 109 = .ok (.ifCond .eq 7, 3) := by decide +kernel
theorem d_X12_readRoom_112 : decode (mB M_X12_readRoom) 112 = .ok (.iconst 1, 1) := by decide +kernel
theorem d_X12_readRoom_113 : decode (mB M_X12_readRoom) 113 = .ok (.goto 4, 3) := by decide +kernel
theorem d_X12_readRoom_116 : decode (mB M_X12_readRoom) 116 = .ok (.iconst 0, 1) := by decide +kernel
theorem d_X12_readRoom_117 : decode (mB M_X12_readRoom) 117 = .ok (.iadd, 1) := by decide +kernel
theorem d_X12_readRoom_118 : decode (mB M_X12_readRoom) 118 = .ok (.istore 5, 2) := by decide +kernel
theorem d_X12_readRoom_120 : decode (mB M_X12_readRoom) 120 = .ok (.iinc 6 1, 3) := by decide +kernel
theorem d_X12_readRoom_123 : decode (mB M_X12_readRoom) 123 = .ok (.goto (-83), 3) := by decide +kernel
theorem d_X12_readRoom_126 : decode (mB M_X12_readRoom) 126 = .ok (.aload_n 0, 1) := by decide +kernel
theorem d_X12_readRoom_127 : decode (mB M_X12_readRoom) 127 = .ok (.getfield 97, 3) := by decide +kernel
theorem d_X12_readRoom_130 : decode (mB M_X12_readRoom) 130 = .ok (.iconst 3, 1) := by decide +kernel
theorem d_X12_readRoom_131 : decode (mB M_X12_readRoom) 131 = .ok (.bipush 8, 2) := by decide +kernel
theorem d_X12_readRoom_133 : decode (mB M_X12_readRoom) 133 = .ok (.invokestatic 76, 3) := by decide +kernel
theorem d_X12_readRoom_136 : decode (mB M_X12_readRoom) 136 = .ok (.ifCond .eq 31, 3) := by decide +kernel
theorem d_X12_readRoom_139 : decode (mB M_X12_readRoom) 139 = .ok (.aload_n 0, 1) := by decide +kernel
theorem d_X12_readRoom_140 : decode (mB M_X12_readRoom) 140 = .ok (.getfield 94, 3) := by decide +kernel
theorem d_X12_readRoom_143 : decode (mB M_X12_readRoom) 143 = .ok (.iconst 3, 1) := by decide +kernel
theorem d_X12_readRoom_144 : decode (mB M_X12_readRoom) 144 = .ok (.bipush 8, 2) := by decide +kernel
theorem d_X12_readRoom_146 : decode (mB M_X12_readRoom) 146 = .ok (.invokestatic 76, 3) := by decide +kernel
theorem d_X12_readRoom_149 : decode (mB M_X12_readRoom) 149 = .ok (.ifCond .eq 18, 3) := by decide +kernel
theorem d_X12_readRoom_152 : decode (mB M_X12_readRoom) 152 = .ok (.iload 5, 2) := by decide +kernel
theorem d_X12_readRoom_154 : decode (mB M_X12_readRoom) 154 = .ok (.ifCond .eq 13, 3) := by decide +kernel
theorem d_X12_readRoom_157 : decode (mB M_X12_readRoom) 157 = .ok (.iload_n 3, 1) := by decide +kernel
theorem d_X12_readRoom_158 : decode (mB M_X12_readRoom) 158 = .ok (.ifCond .eq 9, 3) := by decide +kernel
theorem d_X12_readRoom_161 : decode (mB M_X12_readRoom) 161 = .ok (.iload 4, 2) := by decide +kernel
theorem d_X12_readRoom_163 : decode (mB M_X12_readRoom) 163 = .ok (.iload_n 3, 1) := by decide +kernel
theorem d_X12_readRoom_164 : decode (mB M_X12_readRoom) 164 = .ok (.if_icmp .ge 9, 3) := by decide +kernel
theorem d_X12_readRoom_167 : decode (mB M_X12_readRoom) 167 = .ok (.aload_n 0, 1) := by decide +kernel
theorem d_X12_readRoom_168 : decode (mB M_X12_readRoom) 168 = .ok (.iconst 1, 1) := by decide +kernel
theorem d_X12_readRoom_169 : decode (mB M_X12_readRoom) 169 = .ok (.invokevirtual 114, 3) := by decide +kernel
theorem d_X12_readRoom_172 : decode (mB M_X12_readRoom) 172 = .ok (.ireturn, 1) := by decide +kernel
theorem d_X12_readRoom_173 : decode (mB M_X12_readRoom) 173 = .ok (.aload_n 0, 1) := by decide +kernel
theorem d_X12_readRoom_174 : decode (mB M_X12_readRoom) 174 = .ok (.iload_n 2, 1) := by decide +kernel
theorem d_X12_readRoom_175 : decode (mB M_X12_readRoom) 175 = .ok (.invokevirtual 118, 3) := by decide +kernel
theorem d_X12_readRoom_178 : decode (mB M_X12_readRoom) 178 = .ok (.ireturn, 1) := by decide +kernel
theorem l_m_readRoom {E : mEnv} (hE : E.1.stackTraces = false) (C : List mE) (N : Nat) : ∀ n : Nat, (∀ (v2 : Int32) (v3 : Int32) (v4 : Int32) (v5 : Int32) (v6 : Int32) (t : xT) (r : Int32 × xT), f_readRoom_L N n v2 v3 v4 v5 v6 t = some r → Go E M_X12_readRoom 0 (40, [some (.ref 0), none, some (.int v2), some (.int v3), some (.int v4), some (.int v5), some (.int v6), none], [], (mw t, C)) (.inr (.inl (some (.int r.1), (mw r.2, C))))) := by
  intro n
  induction n with
  | zero => exact fun v2 v3 v4 v5 v6 t r h => by cases h
  | succ n ih =>
    intro v2 v3 v4 v5 v6 t r h
    rw [u_readRoom_40] at h
    refine g_iload d_X12_readRoom_40 rfl ?_
    refine g_iload_n d_X12_readRoom_42 rfl ?_
    refine g_icmp_ge (tgt := 126) d_X12_readRoom_43 (by decide) (fun c_43 => ?_) (fun c_43 => ?_)
    · replace h := opos c_43 h
      refine g_aload_n d_X12_readRoom_126 rfl ?_
      refine g_getf d_X12_readRoom_127 f_X12_97 (gm0 t C) rfl ?_
      refine g_iconst (v := 3) d_X12_readRoom_130 (by decide) ?_
      refine g_bipush (v := 8) d_X12_readRoom_131 (by decide) ?_
      obtain ⟨r_133, h_133, h⟩ := obind h
      refine g_callS (As := [.int (rs t 14), .int 3, .int 8]) d_X12_readRoom_133 o_X12_in l_X12_76 ⟨Nat.le_of_ble_eq_true rfl, Nat.le_of_ble_eq_true rfl⟩ (c_m_in hE C t (rs t 14) 3 8 _ h_133) rfl rfl ?_ (Nat.zero_add _)
      refine g_if_eq (tgt := 167) d_X12_readRoom_136 (by decide) (fun c_136 => ?_) (fun c_136 => ?_)
      · replace h := opos c_136 h
        refine g_aload_n d_X12_readRoom_167 rfl ?_
        refine g_iconst (v := 1) d_X12_readRoom_168 (by decide) ?_
        obtain ⟨r_169, h_169, h⟩ := obind h
        refine g_callV (As := [.int 1]) d_X12_readRoom_169 o_X12_fails l_X12_114 ⟨Nat.le_of_ble_eq_true rfl, Nat.le_of_ble_eq_true rfl⟩ (c_m_fails hE C t 1 _ h_169) (gm0 t C) rfl rfl rfl rfl rfl ?_ (Nat.zero_add _)
        obtain rfl := osome h
        exact g_retI d_X12_readRoom_172 rfl rfl rfl
      · replace h := oneg c_136 h
        refine g_aload_n d_X12_readRoom_139 rfl ?_
        refine g_getf d_X12_readRoom_140 f_X12_94 (gm0 t C) rfl ?_
        refine g_iconst (v := 3) d_X12_readRoom_143 (by decide) ?_
        refine g_bipush (v := 8) d_X12_readRoom_144 (by decide) ?_
        obtain ⟨r_146, h_146, h⟩ := obind h
        refine g_callS (As := [.int (rs t 13), .int 3, .int 8]) d_X12_readRoom_146 o_X12_in l_X12_76 ⟨Nat.le_of_ble_eq_true rfl, Nat.le_of_ble_eq_true rfl⟩ (c_m_in hE C t (rs t 13) 3 8 _ h_146) rfl rfl ?_ (Nat.zero_add _)
        refine g_if_eq (tgt := 167) d_X12_readRoom_149 (by decide) (fun c_149 => ?_) (fun c_149 => ?_)
        · replace h := opos c_149 h
          refine g_aload_n d_X12_readRoom_167 rfl ?_
          refine g_iconst (v := 1) d_X12_readRoom_168 (by decide) ?_
          obtain ⟨r_169, h_169, h⟩ := obind h
          refine g_callV (As := [.int 1]) d_X12_readRoom_169 o_X12_fails l_X12_114 ⟨Nat.le_of_ble_eq_true rfl, Nat.le_of_ble_eq_true rfl⟩ (c_m_fails hE C t 1 _ h_169) (gm0 t C) rfl rfl rfl rfl rfl ?_ (Nat.zero_add _)
          obtain rfl := osome h
          exact g_retI d_X12_readRoom_172 rfl rfl rfl
        · replace h := oneg c_149 h
          refine g_iload d_X12_readRoom_152 rfl ?_
          refine g_if_eq (tgt := 167) d_X12_readRoom_154 (by decide) (fun c_154 => ?_) (fun c_154 => ?_)
          · replace h := opos c_154 h
            refine g_aload_n d_X12_readRoom_167 rfl ?_
            refine g_iconst (v := 1) d_X12_readRoom_168 (by decide) ?_
            obtain ⟨r_169, h_169, h⟩ := obind h
            refine g_callV (As := [.int 1]) d_X12_readRoom_169 o_X12_fails l_X12_114 ⟨Nat.le_of_ble_eq_true rfl, Nat.le_of_ble_eq_true rfl⟩ (c_m_fails hE C t 1 _ h_169) (gm0 t C) rfl rfl rfl rfl rfl ?_ (Nat.zero_add _)
            obtain rfl := osome h
            exact g_retI d_X12_readRoom_172 rfl rfl rfl
          · replace h := oneg c_154 h
            refine g_iload_n d_X12_readRoom_157 rfl ?_
            refine g_if_eq (tgt := 167) d_X12_readRoom_158 (by decide) (fun c_158 => ?_) (fun c_158 => ?_)
            · replace h := opos c_158 h
              refine g_aload_n d_X12_readRoom_167 rfl ?_
              refine g_iconst (v := 1) d_X12_readRoom_168 (by decide) ?_
              obtain ⟨r_169, h_169, h⟩ := obind h
              refine g_callV (As := [.int 1]) d_X12_readRoom_169 o_X12_fails l_X12_114 ⟨Nat.le_of_ble_eq_true rfl, Nat.le_of_ble_eq_true rfl⟩ (c_m_fails hE C t 1 _ h_169) (gm0 t C) rfl rfl rfl rfl rfl ?_ (Nat.zero_add _)
              obtain rfl := osome h
              exact g_retI d_X12_readRoom_172 rfl rfl rfl
            · replace h := oneg c_158 h
              refine g_iload d_X12_readRoom_161 rfl ?_
              refine g_iload_n d_X12_readRoom_163 rfl ?_
              refine g_icmp_ge (tgt := 173) d_X12_readRoom_164 (by decide) (fun c_164 => ?_) (fun c_164 => ?_)
              · replace h := opos c_164 h
                refine g_aload_n d_X12_readRoom_173 rfl ?_
                refine g_iload_n d_X12_readRoom_174 rfl ?_
                obtain ⟨r_175, h_175, h⟩ := obind h
                refine g_callV (As := [.int v2]) d_X12_readRoom_175 o_X12_lays l_X12_118 ⟨Nat.le_of_ble_eq_true rfl, Nat.le_of_ble_eq_true rfl⟩ (c_m_lays hE C N t v2 _ h_175) (gm0 t C) rfl rfl rfl rfl rfl ?_ (Nat.zero_add _)
                obtain rfl := osome h
                exact g_retI d_X12_readRoom_178 rfl rfl rfl
              · replace h := oneg c_164 h
                refine g_aload_n d_X12_readRoom_167 rfl ?_
                refine g_iconst (v := 1) d_X12_readRoom_168 (by decide) ?_
                obtain ⟨r_169, h_169, h⟩ := obind h
                refine g_callV (As := [.int 1]) d_X12_readRoom_169 o_X12_fails l_X12_114 ⟨Nat.le_of_ble_eq_true rfl, Nat.le_of_ble_eq_true rfl⟩ (c_m_fails hE C t 1 _ h_169) (gm0 t C) rfl rfl rfl rfl rfl ?_ (Nat.zero_add _)
                obtain rfl := osome h
                exact g_retI d_X12_readRoom_172 rfl rfl rfl
    · replace h := oneg c_43 h
      refine g_aload_n d_X12_readRoom_46 rfl ?_
      refine g_getf d_X12_readRoom_47 f_X12_26 (gm0 t C) rfl ?_
      refine g_iload d_X12_readRoom_50 rfl ?_
      obtain ⟨i_52, h⟩ := ochk h
      refine g_iald d_X12_readRoom_52 (gm_5 t C) (inB_in i_52) ?_
      refine g_istore (L' := [some (.ref 0), none, some (.int v2), some (.int v3), some (.int v4), some (.int v5), some (.int v6), some (.int ((ra t 5) (Int32.toNatClampNeg v6)))]) d_X12_readRoom_53 rfl rfl ?_
      refine g_iload_n d_X12_readRoom_55 rfl ?_
      refine g_iload d_X12_readRoom_56 rfl ?_
      obtain ⟨r_58, h_58, h⟩ := obind h
      refine g_callS (As := [.int ((ra t 5) (Int32.toNatClampNeg v6))]) d_X12_readRoom_58 o_X12_isBoxText l_X12_100 ⟨Nat.le_of_ble_eq_true rfl, Nat.le_of_ble_eq_true rfl⟩ (c_m_isBoxText hE C t ((ra t 5) (Int32.toNatClampNeg v6)) _ h_58) rfl rfl ?_ (Nat.zero_add _)
      obtain ⟨r_61, h_61, hh_61⟩ := obind h
      refine Go.trans0 (S1 := (69, [some (.ref 0), none, some (.int v2), none, some (.int v4), some (.int v5), some (.int v6), some (.int ((ra t 5) (Int32.toNatClampNeg v6)))], [.int r_61, .int v3], (mw t, C))) ?_ ?_
      · replace h := h_61
        clear hh_61
        refine g_if_eq (tgt := 68) d_X12_readRoom_61 (by decide) (fun c_61 => ?_) (fun c_61 => ?_)
        · replace h := opos c_61 h
          refine g_iconst (v := 0) d_X12_readRoom_68 (by decide) ?_
          obtain rfl := osome h
          exact g_drop [3] rfl (g_end rfl)
        · replace h := oneg c_61 h
          refine g_iconst (v := 1) d_X12_readRoom_64 (by decide) ?_
          refine g_goto (tgt := 69) d_X12_readRoom_65 (by decide) ?_
          obtain rfl := osome h
          exact g_drop [3] rfl (g_end rfl)
      replace h := hh_61
      refine g_iadd d_X12_readRoom_69 ?_
      refine g_istore_n (L' := [some (.ref 0), none, some (.int v2), some (.int (v3 + r_61)), some (.int v4), some (.int v5), some (.int v6), some (.int ((ra t 5) (Int32.toNatClampNeg v6)))]) d_X12_readRoom_70 rfl rfl ?_
      refine g_iload d_X12_readRoom_71 rfl ?_
      refine g_iload d_X12_readRoom_73 rfl ?_
      refine g_bipush (v := 46) d_X12_readRoom_75 (by decide) ?_
      obtain ⟨r_77, h_77, hh_77⟩ := obind h
      refine Go.trans0 (S1 := (99, [some (.ref 0), none, some (.int v2), some (.int (v3 + r_61)), none, some (.int v5), some (.int v6), some (.int ((ra t 5) (Int32.toNatClampNeg v6)))], [.int r_77, .int v4], (mw t, C))) ?_ ?_
      · replace h := h_77
        clear hh_77
        refine g_icmp_eq (tgt := 94) d_X12_readRoom_77 (by decide) (fun c_77 => ?_) (fun c_77 => ?_)
        · replace h := opos c_77 h
          refine g_iconst (v := 1) d_X12_readRoom_94 (by decide) ?_
          refine g_goto (tgt := 99) d_X12_readRoom_95 (by decide) ?_
          obtain rfl := osome h
          exact g_drop [4] rfl (g_end rfl)
        · replace h := oneg c_77 h
          refine g_iload d_X12_readRoom_80 rfl ?_
          refine g_bipush (v := 42) d_X12_readRoom_82 (by decide) ?_
          refine g_icmp_eq (tgt := 94) d_X12_readRoom_84 (by decide) (fun c_84 => ?_) (fun c_84 => ?_)
          · replace h := opos c_84 h
            refine g_iconst (v := 1) d_X12_readRoom_94 (by decide) ?_
            refine g_goto (tgt := 99) d_X12_readRoom_95 (by decide) ?_
            obtain rfl := osome h
            exact g_drop [4] rfl (g_end rfl)
          · replace h := oneg c_84 h
            refine g_iload d_X12_readRoom_87 rfl ?_
            refine g_bipush (v := 43) d_X12_readRoom_89 (by decide) ?_
            refine g_icmp_ne (tgt := 98) d_X12_readRoom_91 (by decide) (fun c_91 => ?_) (fun c_91 => ?_)
            · replace h := oneg c_91 h
              refine g_iconst (v := 0) d_X12_readRoom_98 (by decide) ?_
              obtain rfl := osome h
              exact g_drop [4] rfl (g_end rfl)
            · replace h := opos c_91 h
              refine g_iconst (v := 1) d_X12_readRoom_94 (by decide) ?_
              refine g_goto (tgt := 99) d_X12_readRoom_95 (by decide) ?_
              obtain rfl := osome h
              exact g_drop [4] rfl (g_end rfl)
      replace h := hh_77
      refine g_iadd d_X12_readRoom_99 ?_
      refine g_istore (L' := [some (.ref 0), none, some (.int v2), some (.int (v3 + r_61)), some (.int (v4 + r_77)), some (.int v5), some (.int v6), some (.int ((ra t 5) (Int32.toNatClampNeg v6)))]) d_X12_readRoom_100 rfl rfl ?_
      refine g_iload d_X12_readRoom_102 rfl ?_
      refine g_iload d_X12_readRoom_104 rfl ?_
      obtain ⟨r_106, h_106, h⟩ := obind h
      refine g_callS (As := [.int ((ra t 5) (Int32.toNatClampNeg v6))]) d_X12_readRoom_106 o_X12_isPlayerText l_X12_104 ⟨Nat.le_of_ble_eq_true rfl, Nat.le_of_ble_eq_true rfl⟩ (c_m_isPlayerText hE C t ((ra t 5) (Int32.toNatClampNeg v6)) _ h_106) rfl rfl ?_ (Nat.zero_add _)
      obtain ⟨r_109, h_109, hh_109⟩ := obind h
      refine Go.trans0 (S1 := (117, [some (.ref 0), none, some (.int v2), some (.int (v3 + r_61)), some (.int (v4 + r_77)), none, some (.int v6), none], [.int r_109, .int v5], (mw t, C))) ?_ ?_
      · replace h := h_109
        clear hh_109
        refine g_if_eq (tgt := 116) d_X12_readRoom_109 (by decide) (fun c_109 => ?_) (fun c_109 => ?_)
        · replace h := opos c_109 h
          refine g_iconst (v := 0) d_X12_readRoom_116 (by decide) ?_
          obtain rfl := osome h
          exact g_drop [5, 7] rfl (g_end rfl)
        · replace h := oneg c_109 h
          refine g_iconst (v := 1) d_X12_readRoom_112 (by decide) ?_
          refine g_goto (tgt := 117) d_X12_readRoom_113 (by decide) ?_
          obtain rfl := osome h
          exact g_drop [5, 7] rfl (g_end rfl)
      replace h := hh_109
      refine g_iadd d_X12_readRoom_117 ?_
      refine g_istore (L' := [some (.ref 0), none, some (.int v2), some (.int (v3 + r_61)), some (.int (v4 + r_77)), some (.int (v5 + r_109)), some (.int v6), none]) d_X12_readRoom_118 rfl rfl ?_
      refine g_iinc (v := (v6 + 1)) (L' := [some (.ref 0), none, some (.int v2), some (.int (v3 + r_61)), some (.int (v4 + r_77)), some (.int (v5 + r_109)), some (.int (v6 + 1)), none]) d_X12_readRoom_120 rfl rfl rfl ?_
      refine g_goto (tgt := 40) d_X12_readRoom_123 (by decide) ?_
      exact (ih) v2 (v3 + r_61) (v4 + r_77) (v5 + r_109) (v6 + 1) t _ h
theorem c_m_readRoom {E : mEnv} (hE : E.1.stackTraces = false) (C : List mE) (N : Nat) (t : xT)  (r : Int32 × xT) (h : f_readRoom N t = some r) : Rt E M_X12_readRoom 0 [.ref 0] (mw t, C) (some (.int r.1)) (mw r.2, C) := by
  unfold f_readRoom at h
  refine Rt.of hE rfl pn_X12 (Nat.le_of_ble_eq_true rfl) ?_
  refine g_eq (S' := (0, [some (.ref 0), none, none, none, none, none, none, none], [], (mw t, C))) rfl ?_
  refine g_aload_n d_X12_readRoom_0 rfl ?_
  refine g_iconst (v := 0) d_X12_readRoom_1 (by decide) ?_
  obtain ⟨t_2, e_2, h⟩ := olet h
  refine g_putI (w' := (mw t_2, C)) d_X12_readRoom_2 p_X12_73 rfl rfl (gm0 t C) (Nat.le_of_ble_eq_true rfl) (by rw [e_2]; exact sc_9 t C _) ?_
  refine g_aload_n d_X12_readRoom_5 rfl ?_
  obtain ⟨r_6, h_6, h⟩ := obind h
  refine g_callV (As := []) d_X12_readRoom_6 o_X12_roomFault l_X12_110 ⟨Nat.le_of_ble_eq_true rfl, Nat.le_of_ble_eq_true rfl⟩ (c_m_roomFault hE C N t_2 _ h_6) (gm0 t_2 C) rfl rfl rfl rfl rfl ?_ (Nat.zero_add _)
  refine g_istore_n (L' := [some (.ref 0), some (.int r_6.1), none, none, none, none, none, none]) d_X12_readRoom_9 rfl rfl ?_
  refine g_aload_n d_X12_readRoom_10 rfl ?_
  refine g_getf d_X12_readRoom_11 f_X12_91 (gm0 r_6.2 C) rfl ?_
  refine g_istore_n (L' := [some (.ref 0), some (.int r_6.1), some (.int (rs r_6.2 11)), none, none, none, none, none]) d_X12_readRoom_14 rfl rfl ?_
  refine g_aload_n d_X12_readRoom_15 rfl ?_
  refine g_iconst (v := 0) d_X12_readRoom_16 (by decide) ?_
  obtain ⟨t_17, e_17, h⟩ := olet h
  refine g_putI (w' := (mw t_17, C)) d_X12_readRoom_17 p_X12_91 rfl rfl (gm0 r_6.2 C) (Nat.le_of_ble_eq_true rfl) (by rw [e_17]; exact sc_11 r_6.2 C _) ?_
  refine g_iload_n d_X12_readRoom_20 rfl ?_
  refine g_if_lt (tgt := 29) d_X12_readRoom_21 (by decide) (fun c_21 => ?_) (fun c_21 => ?_)
  · replace h := opos c_21 h
    refine g_iconst (v := 0) d_X12_readRoom_29 (by decide) ?_
    refine g_istore_n (L' := [some (.ref 0), some (.int r_6.1), some (.int (rs r_6.2 11)), some (.int 0), none, none, none, none]) d_X12_readRoom_30 rfl rfl ?_
    refine g_iconst (v := 0) d_X12_readRoom_31 (by decide) ?_
    refine g_istore (L' := [some (.ref 0), some (.int r_6.1), some (.int (rs r_6.2 11)), some (.int 0), some (.int 0), none, none, none]) d_X12_readRoom_32 rfl rfl ?_
    refine g_iconst (v := 0) d_X12_readRoom_34 (by decide) ?_
    refine g_istore (L' := [some (.ref 0), some (.int r_6.1), some (.int (rs r_6.2 11)), some (.int 0), some (.int 0), some (.int 0), none, none]) d_X12_readRoom_35 rfl rfl ?_
    refine g_iconst (v := 0) d_X12_readRoom_37 (by decide) ?_
    refine g_istore (L' := [some (.ref 0), some (.int r_6.1), some (.int (rs r_6.2 11)), some (.int 0), some (.int 0), some (.int 0), some (.int 0), none]) d_X12_readRoom_38 rfl rfl ?_
    refine g_drop [1] (L1 := [some (.ref 0), none, some (.int (rs r_6.2 11)), some (.int 0), some (.int 0), some (.int 0), some (.int 0), none]) rfl ?_
    exact (l_m_readRoom hE C N N) (rs r_6.2 11) 0 0 0 0 t_17 _ h
  · replace h := oneg c_21 h
    refine g_bipush (v := (-100)) d_X12_readRoom_24 (by decide) ?_
    refine g_iload_n d_X12_readRoom_26 rfl ?_
    refine g_isub d_X12_readRoom_27 ?_
    obtain rfl := osome h
    exact g_retI d_X12_readRoom_28 rfl rfl rfl
def f_isOpen (t : xT) (a0 : Int32) : Option (Int32) :=
  Option.bind (if a0 < 0 then (some (0 : Int32))
    else (if inB (10 + a0) 602 = true then (if (((ra t 1) (Int32.toNatClampNeg (10 + a0))) &&& 1) = 1 then (some (1 : Int32))
      else (some (0 : Int32))) else none)) fun (r_1 : Int32) =>
  if r_1 &&& 1 = r_1 then (some r_1) else none
theorem d_X12_isOpen_0 : decode (mB M_X12_isOpen) 0 = .ok (.iload_n 1, 1) := by decide +kernel
theorem d_X12_isOpen_1 : decode (mB M_X12_isOpen) 1 = .ok (.ifCond .lt 22, 3) := by decide +kernel
theorem d_X12_isOpen_4 : decode (mB M_X12_isOpen) 4 = .ok (.aload_n 0, 1) := by decide +kernel
theorem d_X12_isOpen_5 : decode (mB M_X12_isOpen) 5 = .ok (.getfield 7, 3) := by decide +kernel
theorem d_X12_isOpen_8 : decode (mB M_X12_isOpen) 8 = .ok (.bipush 10, 2) := by decide +kernel
theorem d_X12_isOpen_10 : decode (mB M_X12_isOpen) 10 = .ok (.iload_n 1, 1) := by decide +kernel
theorem d_X12_isOpen_11 : decode (mB M_X12_isOpen) 11 = .ok (.iadd, 1) := by decide +kernel
theorem d_X12_isOpen_12 : decode (mB M_X12_isOpen) 12 = .ok (.iaload, 1) := by decide +kernel
theorem d_X12_isOpen_13 : decode (mB M_X12_isOpen) 13 = .ok (.iconst 1, 1) := by decide +kernel
theorem d_X12_isOpen_14 : decode (mB M_X12_isOpen) 14 = .ok (.iand, 1) := by decide +kernel
theorem d_X12_isOpen_15 : decode (mB M_X12_isOpen) 15 = .ok (.iconst 1, 1) := by decide +kernel
theorem d_X12_isOpen_16 : decode (mB M_X12_isOpen) 16 = .ok (.if_icmp .ne 7, 3) := by decide +kernel
theorem d_X12_isOpen_19 : decode (mB M_X12_isOpen) 19 = .ok (.iconst 1, 1) := by decide +kernel
theorem d_X12_isOpen_20 : decode (mB M_X12_isOpen) 20 = .ok (.goto 4, 3) := by decide +kernel
theorem d_X12_isOpen_23 : decode (mB M_X12_isOpen) 23 = .ok (.iconst 0, 1) := by decide +kernel
theorem d_X12_isOpen_24 : decode (mB M_X12_isOpen) 24 = .ok (.ireturn, 1) := by decide +kernel
theorem c_m_isOpen {E : mEnv} (hE : E.1.stackTraces = false) (C : List mE) (t : xT) (a0 : Int32) (r : Int32) (h : f_isOpen t a0 = some r) : Rt E M_X12_isOpen 0 [.ref 0, .int a0] (mw t, C) (some (.int r)) (mw t, C) := by
  unfold f_isOpen at h
  refine Rt.of hE rfl pn_X12 (Nat.le_of_ble_eq_true rfl) ?_
  refine g_eq (S' := (0, [some (.ref 0), some (.int a0)], [], (mw t, C))) rfl ?_
  refine g_iload_n d_X12_isOpen_0 rfl ?_
  obtain ⟨r_1, h_1, hh_1⟩ := obind h
  refine Go.trans0 (S1 := (24, [none, none], [.int r_1], (mw t, C))) ?_ ?_
  · replace h := h_1
    clear hh_1
    refine g_if_lt (tgt := 23) d_X12_isOpen_1 (by decide) (fun c_1 => ?_) (fun c_1 => ?_)
    · replace h := opos c_1 h
      refine g_iconst (v := 0) d_X12_isOpen_23 (by decide) ?_
      obtain rfl := osome h
      exact g_drop [0, 1] rfl (g_end rfl)
    · replace h := oneg c_1 h
      refine g_aload_n d_X12_isOpen_4 rfl ?_
      refine g_getf d_X12_isOpen_5 f_X12_7 (gm0 t C) rfl ?_
      refine g_bipush (v := 10) d_X12_isOpen_8 (by decide) ?_
      refine g_iload_n d_X12_isOpen_10 rfl ?_
      refine g_iadd d_X12_isOpen_11 ?_
      obtain ⟨i_12, h⟩ := ochk h
      refine g_iald d_X12_isOpen_12 (gm_1 t C) (inB_in i_12) ?_
      refine g_iconst (v := 1) d_X12_isOpen_13 (by decide) ?_
      refine g_iand d_X12_isOpen_14 ?_
      refine g_iconst (v := 1) d_X12_isOpen_15 (by decide) ?_
      refine g_icmp_ne (tgt := 23) d_X12_isOpen_16 (by decide) (fun c_16 => ?_) (fun c_16 => ?_)
      · replace h := oneg c_16 h
        refine g_iconst (v := 0) d_X12_isOpen_23 (by decide) ?_
        obtain rfl := osome h
        exact g_drop [0, 1] rfl (g_end rfl)
      · replace h := opos c_16 h
        refine g_iconst (v := 1) d_X12_isOpen_19 (by decide) ?_
        refine g_goto (tgt := 24) d_X12_isOpen_20 (by decide) ?_
        obtain rfl := osome h
        exact g_drop [0, 1] rfl (g_end rfl)
  replace h := hh_1
  obtain ⟨i_24, h⟩ := ochk h
  obtain rfl := osome h
  exact g_retZ d_X12_isOpen_24 rfl i_24 rfl rfl
def f_isBox (t : xT) (a0 : Int32) : Option (Int32) :=
  Option.bind (if a0 < 0 then (some (0 : Int32))
    else (if inB (74 + a0) 602 = true then (if ((ra t 1) (Int32.toNatClampNeg (74 + a0))) = 1 then (some (1 : Int32))
      else (some (0 : Int32))) else none)) fun (r_1 : Int32) =>
  if r_1 &&& 1 = r_1 then (some r_1) else none
theorem d_X12_isBox_0 : decode (mB M_X12_isBox) 0 = .ok (.iload_n 1, 1) := by decide +kernel
theorem d_X12_isBox_1 : decode (mB M_X12_isBox) 1 = .ok (.ifCond .lt 20, 3) := by decide +kernel
theorem d_X12_isBox_4 : decode (mB M_X12_isBox) 4 = .ok (.aload_n 0, 1) := by decide +kernel
theorem d_X12_isBox_5 : decode (mB M_X12_isBox) 5 = .ok (.getfield 7, 3) := by decide +kernel
theorem d_X12_isBox_8 : decode (mB M_X12_isBox) 8 = .ok (.bipush 74, 2) := by decide +kernel
theorem d_X12_isBox_10 : decode (mB M_X12_isBox) 10 = .ok (.iload_n 1, 1) := by decide +kernel
theorem d_X12_isBox_11 : decode (mB M_X12_isBox) 11 = .ok (.iadd, 1) := by decide +kernel
theorem d_X12_isBox_12 : decode (mB M_X12_isBox) 12 = .ok (.iaload, 1) := by decide +kernel
theorem d_X12_isBox_13 : decode (mB M_X12_isBox) 13 = .ok (.iconst 1, 1) := by decide +kernel
theorem d_X12_isBox_14 : decode (mB M_X12_isBox) 14 = .ok (.if_icmp .ne 7, 3) := by decide +kernel
theorem d_X12_isBox_17 : decode (mB M_X12_isBox) 17 = .ok (.iconst 1, 1) := by decide +kernel
theorem d_X12_isBox_18 : decode (mB M_X12_isBox) 18 = .ok (.goto 4, 3) := by decide +kernel
theorem d_X12_isBox_21 : decode (mB M_X12_isBox) 21 = .ok (.iconst 0, 1) := by decide +kernel
theorem d_X12_isBox_22 : decode (mB M_X12_isBox) 22 = .ok (.ireturn, 1) := by decide +kernel
theorem c_m_isBox {E : mEnv} (hE : E.1.stackTraces = false) (C : List mE) (t : xT) (a0 : Int32) (r : Int32) (h : f_isBox t a0 = some r) : Rt E M_X12_isBox 0 [.ref 0, .int a0] (mw t, C) (some (.int r)) (mw t, C) := by
  unfold f_isBox at h
  refine Rt.of hE rfl pn_X12 (Nat.le_of_ble_eq_true rfl) ?_
  refine g_eq (S' := (0, [some (.ref 0), some (.int a0)], [], (mw t, C))) rfl ?_
  refine g_iload_n d_X12_isBox_0 rfl ?_
  obtain ⟨r_1, h_1, hh_1⟩ := obind h
  refine Go.trans0 (S1 := (22, [none, none], [.int r_1], (mw t, C))) ?_ ?_
  · replace h := h_1
    clear hh_1
    refine g_if_lt (tgt := 21) d_X12_isBox_1 (by decide) (fun c_1 => ?_) (fun c_1 => ?_)
    · replace h := opos c_1 h
      refine g_iconst (v := 0) d_X12_isBox_21 (by decide) ?_
      obtain rfl := osome h
      exact g_drop [0, 1] rfl (g_end rfl)
    · replace h := oneg c_1 h
      refine g_aload_n d_X12_isBox_4 rfl ?_
      refine g_getf d_X12_isBox_5 f_X12_7 (gm0 t C) rfl ?_
      refine g_bipush (v := 74) d_X12_isBox_8 (by decide) ?_
      refine g_iload_n d_X12_isBox_10 rfl ?_
      refine g_iadd d_X12_isBox_11 ?_
      obtain ⟨i_12, h⟩ := ochk h
      refine g_iald d_X12_isBox_12 (gm_1 t C) (inB_in i_12) ?_
      refine g_iconst (v := 1) d_X12_isBox_13 (by decide) ?_
      refine g_icmp_ne (tgt := 21) d_X12_isBox_14 (by decide) (fun c_14 => ?_) (fun c_14 => ?_)
      · replace h := oneg c_14 h
        refine g_iconst (v := 0) d_X12_isBox_21 (by decide) ?_
        obtain rfl := osome h
        exact g_drop [0, 1] rfl (g_end rfl)
      · replace h := opos c_14 h
        refine g_iconst (v := 1) d_X12_isBox_17 (by decide) ?_
        refine g_goto (tgt := 22) d_X12_isBox_18 (by decide) ?_
        obtain rfl := osome h
        exact g_drop [0, 1] rfl (g_end rfl)
  replace h := hh_1
  obtain ⟨i_22, h⟩ := ochk h
  obtain rfl := osome h
  exact g_retZ d_X12_isBox_22 rfl i_22 rfl rfl
def f_isGoal (t : xT) (a0 : Int32) : Option (Int32) :=
  if inB (10 + a0) 602 = true then (Option.bind (if (((ra t 1) (Int32.toNatClampNeg (10 + a0))) &&& 2) = 2 then (some (1 : Int32))
    else (some (0 : Int32))) fun (r_12 : Int32) =>
  if r_12 &&& 1 = r_12 then (some r_12) else none) else none
theorem d_X12_isGoal_0 : decode (mB M_X12_isGoal) 0 = .ok (.aload_n 0, 1) := by decide +kernel
theorem d_X12_isGoal_1 : decode (mB M_X12_isGoal) 1 = .ok (.getfield 7, 3) := by decide +kernel
theorem d_X12_isGoal_4 : decode (mB M_X12_isGoal) 4 = .ok (.bipush 10, 2) := by decide +kernel
theorem d_X12_isGoal_6 : decode (mB M_X12_isGoal) 6 = .ok (.iload_n 1, 1) := by decide +kernel
theorem d_X12_isGoal_7 : decode (mB M_X12_isGoal) 7 = .ok (.iadd, 1) := by decide +kernel
theorem d_X12_isGoal_8 : decode (mB M_X12_isGoal) 8 = .ok (.iaload, 1) := by decide +kernel
theorem d_X12_isGoal_9 : decode (mB M_X12_isGoal) 9 = .ok (.iconst 2, 1) := by decide +kernel
theorem d_X12_isGoal_10 : decode (mB M_X12_isGoal) 10 = .ok (.iand, 1) := by decide +kernel
theorem d_X12_isGoal_11 : decode (mB M_X12_isGoal) 11 = .ok (.iconst 2, 1) := by decide +kernel
theorem d_X12_isGoal_12 : decode (mB M_X12_isGoal) 12 = .ok (.if_icmp .ne 7, 3) := by decide +kernel
theorem d_X12_isGoal_15 : decode (mB M_X12_isGoal) 15 = .ok (.iconst 1, 1) := by decide +kernel
theorem d_X12_isGoal_16 : decode (mB M_X12_isGoal) 16 = .ok (.goto 4, 3) := by decide +kernel
theorem d_X12_isGoal_19 : decode (mB M_X12_isGoal) 19 = .ok (.iconst 0, 1) := by decide +kernel
theorem d_X12_isGoal_20 : decode (mB M_X12_isGoal) 20 = .ok (.ireturn, 1) := by decide +kernel
theorem c_m_isGoal {E : mEnv} (hE : E.1.stackTraces = false) (C : List mE) (t : xT) (a0 : Int32) (r : Int32) (h : f_isGoal t a0 = some r) : Rt E M_X12_isGoal 0 [.ref 0, .int a0] (mw t, C) (some (.int r)) (mw t, C) := by
  unfold f_isGoal at h
  refine Rt.of hE rfl pn_X12 (Nat.le_of_ble_eq_true rfl) ?_
  refine g_eq (S' := (0, [some (.ref 0), some (.int a0)], [], (mw t, C))) rfl ?_
  refine g_aload_n d_X12_isGoal_0 rfl ?_
  refine g_getf d_X12_isGoal_1 f_X12_7 (gm0 t C) rfl ?_
  refine g_bipush (v := 10) d_X12_isGoal_4 (by decide) ?_
  refine g_iload_n d_X12_isGoal_6 rfl ?_
  refine g_iadd d_X12_isGoal_7 ?_
  obtain ⟨i_8, h⟩ := ochk h
  refine g_iald d_X12_isGoal_8 (gm_1 t C) (inB_in i_8) ?_
  refine g_iconst (v := 2) d_X12_isGoal_9 (by decide) ?_
  refine g_iand d_X12_isGoal_10 ?_
  refine g_iconst (v := 2) d_X12_isGoal_11 (by decide) ?_
  obtain ⟨r_12, h_12, hh_12⟩ := obind h
  refine Go.trans0 (S1 := (20, [none, none], [.int r_12], (mw t, C))) ?_ ?_
  · replace h := h_12
    clear hh_12
    refine g_icmp_ne (tgt := 19) d_X12_isGoal_12 (by decide) (fun c_12 => ?_) (fun c_12 => ?_)
    · replace h := oneg c_12 h
      refine g_iconst (v := 0) d_X12_isGoal_19 (by decide) ?_
      obtain rfl := osome h
      exact g_drop [0, 1] rfl (g_end rfl)
    · replace h := opos c_12 h
      refine g_iconst (v := 1) d_X12_isGoal_15 (by decide) ?_
      refine g_goto (tgt := 20) d_X12_isGoal_16 (by decide) ?_
      obtain rfl := osome h
      exact g_drop [0, 1] rfl (g_end rfl)
  replace h := hh_12
  obtain ⟨i_20, h⟩ := ochk h
  obtain rfl := osome h
  exact g_retZ d_X12_isGoal_20 rfl i_20 rfl rfl
