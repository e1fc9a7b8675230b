/-! THE STATE of the class: one tuple; cw gives its cells (numbers 100 ..) -/
abbrev GmT : Type := gT × (Int64 × Int32) × (Int64 × Int32) × (Int64 × Int32) × ((Nat → Int64) × Int32) × (Nat → Int32) × Int32
def qG (q : GmT) : gT := q.1
def qN (q : GmT) : Int64 × Int32 := q.2.1
def qS (q : GmT) : Int64 × Int32 := q.2.2.1
def qA (q : GmT) : Int64 × Int32 := q.2.2.2.1
def qL (q : GmT) : (Nat → Int64) × Int32 := q.2.2.2.2.1
def qR (q : GmT) : Nat → Int32 := q.2.2.2.2.2.1
def qC (q : GmT) : Int32 := q.2.2.2.2.2.2
abbrev InT : Type := (Nat → Int32) × Int32
/-- rows, columns, open, goals, boxes, player, width, cellsRead, goalCount, boxCount -/
abbrev RtT : Type := Int32 × Int32 × Int64 × Int64 × Int64 × Int32 × Int32 × Int32 × Int32 × Int32
def rR (q : RtT) : Int32 := q.1
def rC (q : RtT) : Int32 := q.2.1
def rO (q : RtT) : Int64 := q.2.2.1
def rG (q : RtT) : Int64 := q.2.2.2.1
def rB (q : RtT) : Int64 := q.2.2.2.2.1
def rP (q : RtT) : Int32 := q.2.2.2.2.2.1
def rW (q : RtT) : Int32 := q.2.2.2.2.2.2.1
def rN (q : RtT) : Int32 := q.2.2.2.2.2.2.2.1
def rGc (q : RtT) : Int32 := q.2.2.2.2.2.2.2.2.1
def rBc (q : RtT) : Int32 := q.2.2.2.2.2.2.2.2.2
/-- boxes, players, steps, size -/
abbrev HiT : Type := (Nat → Int64) × (Nat → Int32) × (Nat → Int32) × Int32
def hB (q : HiT) : Nat → Int64 := q.1
def hP (q : HiT) : Nat → Int32 := q.2.1
def hS (q : HiT) : Nat → Int32 := q.2.2.1
def hZ (q : HiT) : Int32 := q.2.2.2
/-- boxes, players, parents, pushes, slots, limit, withTables, found, solved, hasGivenUp -/
abbrev SeT : Type := (Nat → Int64) × (Nat → Int32) × (Nat → Int32) × (Nat → Int32) × (Nat → Int32) × Int32 × Bool × Int32 × Int32 × Bool
def sB (q : SeT) : Nat → Int64 := q.1
def sP (q : SeT) : Nat → Int32 := q.2.1
def sF (q : SeT) : Nat → Int32 := q.2.2.1
def sU (q : SeT) : Nat → Int32 := q.2.2.2.1
def sT (q : SeT) : Nat → Int32 := q.2.2.2.2.1
def sM (q : SeT) : Int32 := q.2.2.2.2.2.1
def sW (q : SeT) : Bool := q.2.2.2.2.2.2.1
def sN (q : SeT) : Int32 := q.2.2.2.2.2.2.2.1
def sV (q : SeT) : Int32 := q.2.2.2.2.2.2.2.2.1
def sY (q : SeT) : Bool := q.2.2.2.2.2.2.2.2.2
/-- parts, pushes, positions -/
abbrev SoT : Type := (Nat → Int32) × Int32 × Int32
abbrev cT : Type := InT × RtT × GmT × GmT × HiT × ((Nat → Int64) × Int32) × ((Nat → Int32) × (Nat → Int32)) × SeT × SoT × (Int32 × Int32 × Int32)
def tI (t : cT) : InT := t.1
def tT (t : cT) : RtT := t.2.1
def tG (t : cT) : GmT := t.2.2.1
def tS (t : cT) : GmT := t.2.2.2.1
def tH (t : cT) : HiT := t.2.2.2.2.1
def tL (t : cT) : (Nat → Int64) × Int32 := t.2.2.2.2.2.1
def tM (t : cT) : (Nat → Int32) × (Nat → Int32) := t.2.2.2.2.2.2.1
def tE (t : cT) : SeT := t.2.2.2.2.2.2.2.1
def tO (t : cT) : SoT := t.2.2.2.2.2.2.2.2.1
def tK (t : cT) : Int32 × Int32 × Int32 := t.2.2.2.2.2.2.2.2.2
def wI (t : cT) (x : InT) : cT := (x, tT t, tG t, tS t, tH t, tL t, tM t, tE t, tO t, tK t)
def wT (t : cT) (x : RtT) : cT := (tI t, x, tG t, tS t, tH t, tL t, tM t, tE t, tO t, tK t)
def wG (t : cT) (x : GmT) : cT := (tI t, tT t, x, tS t, tH t, tL t, tM t, tE t, tO t, tK t)
def wS (t : cT) (x : GmT) : cT := (tI t, tT t, tG t, x, tH t, tL t, tM t, tE t, tO t, tK t)
def wH (t : cT) (x : HiT) : cT := (tI t, tT t, tG t, tS t, x, tL t, tM t, tE t, tO t, tK t)
def wL (t : cT) (x : (Nat → Int64) × Int32) : cT := (tI t, tT t, tG t, tS t, tH t, x, tM t, tE t, tO t, tK t)
def wM (t : cT) (x : (Nat → Int32) × (Nat → Int32)) : cT := (tI t, tT t, tG t, tS t, tH t, tL t, x, tE t, tO t, tK t)
def wE (t : cT) (x : SeT) : cT := (tI t, tT t, tG t, tS t, tH t, tL t, tM t, x, tO t, tK t)
def wO (t : cT) (x : SoT) : cT := (tI t, tT t, tG t, tS t, tH t, tL t, tM t, tE t, x, tK t)
def wK (t : cT) (x : Int32 × Int32 × Int32) : cT := (tI t, tT t, tG t, tS t, tH t, tL t, tM t, tE t, tO t, x)
abbrev rcell (q : RtT) : mE := .inr (7, [.int (rR q), .int (rC q), .long (rO q), .long (rG q), .long (rB q), .int (rP q), .int (rW q), .int (rN q), .int (rGc q), .int (rBc q)])
/-- the cells of the class, from number 100 on -/
def cw (t : cT) : List mE := [.inr (11, [.ref 101, .ref 103, .ref 104, .ref 112, .ref 120, .ref 124, .ref 127, .ref 130, .ref 136, .int (tK t).1, .int (tK t).2.1, .int (tK t).2.2]),
  .inr (10, [.ref 102, .int (tI t).2]),
  .inl (2, 80, .inl (tI t).1),
  rcell (tT t),
  .inr (0, [.ref 105, .ref 106, .ref 107, .ref 108, .ref 109, .ref 111, .int (qC (tG t))]),
  gcell (qG (tG t)),
  pcell 105 (qN (tG t)).1 (qN (tG t)).2,
  pcell 105 (qS (tG t)).1 (qS (tG t)).2,
  pcell 105 (qA (tG t)).1 (qA (tG t)).2,
  ycell 110 (qL (tG t)).2,
  lrow 64 (qL (tG t)).1,
  irow 400 (qR (tG t)),
  .inr (0, [.ref 113, .ref 114, .ref 115, .ref 116, .ref 117, .ref 119, .int (qC (tS t))]),
  gcell (qG (tS t)),
  pcell 113 (qN (tS t)).1 (qN (tS t)).2,
  pcell 113 (qS (tS t)).1 (qS (tS t)).2,
  pcell 113 (qA (tS t)).1 (qA (tS t)).2,
  ycell 118 (qL (tS t)).2,
  lrow 64 (qL (tS t)).1,
  irow 400 (qR (tS t)),
  .inr (3, [.ref 121, .ref 122, .ref 123, .int (hZ (tH t))]),
  lrow 9 (hB (tH t)),
  irow 9 (hP (tH t)),
  irow 9 (hS (tH t)),
  .inr (1, [.ref 105, .ref 125]),
  ycell 126 (tL t).2,
  lrow 64 (tL t).1,
  .inr (5, [.ref 105, .ref 128, .ref 129]),
  irow 320 (tM t).1,
  irow 32 (tM t).2,
  .inr (8, [.ref 105, .ref 131, .ref 132, .ref 133, .ref 134, .ref 135, .int (sM (tE t)), .int (bI (sW (tE t))), .int (sN (tE t)), .int (sV (tE t)), .int (bI (sY (tE t)))]),
  lrow 1000 (sB (tE t)),
  irow 1000 (sP (tE t)),
  irow 1000 (sF (tE t)),
  irow 1000 (sU (tE t)),
  irow 2048 (sT (tE t)),
  .inr (9, [.ref 137, .int (tO t).2.1, .int (tO t).2.2]),
  irow 1000 (tO t).1]
def codF (d : Int32) (p : Bool) : Int32 := if p then d + 4 else d
theorem d_X3_clear_0 : decode (mB M_X3_clear) 0 = .ok (.aload_n 0, 1) := by decide +kernel
theorem d_X3_clear_1 : decode (mB M_X3_clear) 1 = .ok (.iconst 0, 1) := by decide +kernel
theorem d_X3_clear_2 : decode (mB M_X3_clear) 2 = .ok (.putfield 22, 3) := by decide +kernel
theorem d_X3_clear_5 : decode (mB M_X3_clear) 5 = .ok (.return_, 1) := by decide +kernel
theorem c_hclear {E : mEnv} (hE : E.1.stackTraces = false) (m : List mE) (t : cT)  : Rt E M_X3_clear 0 [.ref 120] ((m, cw t)) none ((m, cw (wH t (hB (tH t), hP (tH t), hS (tH t), 0)))) := by
  refine Rt.of hE rfl pn_X3 (Nat.le_of_ble_eq_true rfl) ?_
  refine g_eq (S' := (0, [some (.ref 120)], [], (m, cw t))) rfl ?_
  refine g_aload_n d_X3_clear_0 rfl ?_
  refine g_iconst (v := 0) d_X3_clear_1 (by decide) ?_
  refine g_putI (w' := (mset (m, cw t) 120 (.inr (3, [.ref 121, .ref 122, .ref 123, .int 0])))) d_X3_clear_2 p_X3_22 rfl rfl rfl (Nat.le_of_ble_eq_true rfl) (rfl) ?_
  exact g_retV d_X3_clear_5 rfl (rfl)
/-- the begin of a command: what is behind the undoable ones -/
def hBeg (h : HiT) (q : GmT) : HiT := (setLongF 9 (hB h) (hZ h) (qN q).1, setIntF 9 (hP h) (hZ h) (qN q).2, setIntF 9 (hS h) (hZ h) (qC q), hZ h)
theorem d_X3_begin_0 : decode (mB M_X3_begin) 0 = .ok (.aload_n 0, 1) := by decide +kernel
theorem d_X3_begin_1 : decode (mB M_X3_begin) 1 = .ok (.getfield 9, 3) := by decide +kernel
theorem d_X3_begin_4 : decode (mB M_X3_begin) 4 = .ok (.aload_n 0, 1) := by decide +kernel
theorem d_X3_begin_5 : decode (mB M_X3_begin) 5 = .ok (.getfield 22, 3) := by decide +kernel
theorem d_X3_begin_8 : decode (mB M_X3_begin) 8 = .ok (.aload_n 1, 1) := by decide +kernel
theorem d_X3_begin_9 : decode (mB M_X3_begin) 9 = .ok (.getfield 26, 3) := by decide +kernel
theorem d_X3_begin_12 : decode (mB M_X3_begin) 12 = .ok (.getfield 32, 3) := by decide +kernel
theorem d_X3_begin_15 : decode (mB M_X3_begin) 15 = .ok (.invokestatic 37, 3) := by decide +kernel
theorem d_X3_begin_18 : decode (mB M_X3_begin) 18 = .ok (.aload_n 0, 1) := by decide +kernel
theorem d_X3_begin_19 : decode (mB M_X3_begin) 19 = .ok (.getfield 15, 3) := by decide +kernel
theorem d_X3_begin_22 : decode (mB M_X3_begin) 22 = .ok (.aload_n 0, 1) := by decide +kernel
theorem d_X3_begin_23 : decode (mB M_X3_begin) 23 = .ok (.getfield 22, 3) := by decide +kernel
theorem d_X3_begin_26 : decode (mB M_X3_begin) 26 = .ok (.aload_n 1, 1) := by decide +kernel
theorem d_X3_begin_27 : decode (mB M_X3_begin) 27 = .ok (.getfield 26, 3) := by decide +kernel
theorem d_X3_begin_30 : decode (mB M_X3_begin) 30 = .ok (.getfield 41, 3) := by decide +kernel
theorem d_X3_begin_33 : decode (mB M_X3_begin) 33 = .ok (.invokestatic 44, 3) := by decide +kernel
theorem d_X3_begin_36 : decode (mB M_X3_begin) 36 = .ok (.aload_n 0, 1) := by decide +kernel
theorem d_X3_begin_37 : decode (mB M_X3_begin) 37 = .ok (.getfield 19, 3) := by decide +kernel
theorem d_X3_begin_40 : decode (mB M_X3_begin) 40 = .ok (.aload_n 0, 1) := by decide +kernel
theorem d_X3_begin_41 : decode (mB M_X3_begin) 41 = .ok (.getfield 22, 3) := by decide +kernel
theorem d_X3_begin_44 : decode (mB M_X3_begin) 44 = .ok (.aload_n 1, 1) := by decide +kernel
theorem d_X3_begin_45 : decode (mB M_X3_begin) 45 = .ok (.getfield 48, 3) := by decide +kernel
theorem d_X3_begin_48 : decode (mB M_X3_begin) 48 = .ok (.invokestatic 44, 3) := by decide +kernel
theorem d_X3_begin_51 : decode (mB M_X3_begin) 51 = .ok (.return_, 1) := by decide +kernel
theorem c_hbegin {E : mEnv} (hE : E.1.stackTraces = false) (m : List mE) (t : cT)  : Rt E M_X3_begin 0 [.ref 120, .ref 104] ((m, cw t)) none ((m, cw (wH t (hBeg (tH t) (tG t))))) := by
  refine Rt.of hE rfl pn_X3 (Nat.le_of_ble_eq_true rfl) ?_
  refine g_eq (S' := (0, [some (.ref 120), some (.ref 104)], [], (m, cw t))) rfl ?_
  refine g_aload_n d_X3_begin_0 rfl ?_
  refine g_getf d_X3_begin_1 f_X3_9 rfl rfl ?_
  refine g_aload_n d_X3_begin_4 rfl ?_
  refine g_getf d_X3_begin_5 f_X3_22 rfl rfl ?_
  refine g_aload_n d_X3_begin_8 rfl ?_
  refine g_getf d_X3_begin_9 f_X3_26 rfl rfl ?_
  refine g_getf d_X3_begin_12 f_X3_32 rfl rfl ?_
  refine g_callN (As := [.ref 121, .int (hZ (tH t)), .long ((qN (tG t)).1)]) d_X3_begin_15 o_X11_setLong n_X3_37 ⟨Nat.le_of_ble_eq_true rfl, Nat.le_of_ble_eq_true rfl⟩ (c_setLong hE 121 9 (hB (tH t)) (hZ (tH t)) ((qN (tG t)).1) _ (by decide) rfl) rfl rfl ?_ (Nat.zero_add _)
  refine g_aload_n d_X3_begin_18 rfl ?_
  refine g_getf d_X3_begin_19 f_X3_15 ((mget_ne (by decide)).trans rfl) rfl ?_
  refine g_aload_n d_X3_begin_22 rfl ?_
  refine g_getf d_X3_begin_23 f_X3_22 ((mget_ne (by decide)).trans rfl) rfl ?_
  refine g_aload_n d_X3_begin_26 rfl ?_
  refine g_getf d_X3_begin_27 f_X3_26 ((mget_ne (by decide)).trans rfl) rfl ?_
  refine g_getf d_X3_begin_30 f_X3_41 ((mget_ne (by decide)).trans rfl) rfl ?_
  refine g_callN (As := [.ref 122, .int (hZ (tH t)), .int ((qN (tG t)).2)]) d_X3_begin_33 o_X11_setInt n_X3_44 ⟨Nat.le_of_ble_eq_true rfl, Nat.le_of_ble_eq_true rfl⟩ (c_setInt hE 122 9 (hP (tH t)) (hZ (tH t)) ((qN (tG t)).2) _ (by decide) ((mget_ne (by decide)).trans rfl)) rfl rfl ?_ (Nat.zero_add _)
  refine g_aload_n d_X3_begin_36 rfl ?_
  refine g_getf d_X3_begin_37 f_X3_19 ((mget_ne (by decide)).trans ((mget_ne (by decide)).trans rfl)) rfl ?_
  refine g_aload_n d_X3_begin_40 rfl ?_
  refine g_getf d_X3_begin_41 f_X3_22 ((mget_ne (by decide)).trans ((mget_ne (by decide)).trans rfl)) rfl ?_
  refine g_aload_n d_X3_begin_44 rfl ?_
  refine g_getf d_X3_begin_45 f_X3_48 ((mget_ne (by decide)).trans ((mget_ne (by decide)).trans rfl)) rfl ?_
  refine g_callN (As := [.ref 123, .int (hZ (tH t)), .int (qC (tG t))]) d_X3_begin_48 o_X11_setInt n_X3_44 ⟨Nat.le_of_ble_eq_true rfl, Nat.le_of_ble_eq_true rfl⟩ (c_setInt hE 123 9 (hS (tH t)) (hZ (tH t)) (qC (tG t)) _ (by decide) ((mget_ne (by decide)).trans ((mget_ne (by decide)).trans rfl))) rfl rfl ?_ (Nat.zero_add _)
  exact g_retV d_X3_begin_51 rfl (rfl)
theorem d_X0_returnTo_0 : decode (mB M_X0_returnTo) 0 = .ok (.aload_n 0, 1) := by decide +kernel
theorem d_X0_returnTo_1 : decode (mB M_X0_returnTo) 1 = .ok (.getfield 23, 3) := by decide +kernel
theorem d_X0_returnTo_4 : decode (mB M_X0_returnTo) 4 = .ok (.lload_n 1, 1) := by decide +kernel
theorem d_X0_returnTo_5 : decode (mB M_X0_returnTo) 5 = .ok (.iload_n 3, 1) := by decide +kernel
theorem d_X0_returnTo_6 : decode (mB M_X0_returnTo) 6 = .ok (.invokevirtual 61, 3) := by decide +kernel
theorem d_X0_returnTo_9 : decode (mB M_X0_returnTo) 9 = .ok (.aload_n 0, 1) := by decide +kernel
theorem d_X0_returnTo_10 : decode (mB M_X0_returnTo) 10 = .ok (.iload 4, 2) := by decide +kernel
theorem d_X0_returnTo_12 : decode (mB M_X0_returnTo) 12 = .ok (.putfield 44, 3) := by decide +kernel
theorem d_X0_returnTo_15 : decode (mB M_X0_returnTo) 15 = .ok (.return_, 1) := by decide +kernel
def retQ (q : GmT) (b : Int64) (a c : Int32) : GmT := (qG q, (b, a), qS q, qA q, qL q, qR q, c)
theorem c_returnTo {E : mEnv} (hE : E.1.stackTraces = false) (m : List mE) (t : cT) (b : Int64) (a c : Int32) : Rt E M_X0_returnTo 0 [.ref 104, .long b, .int a, .int c] ((m, cw t)) none ((m, cw (wG t (retQ (tG t) b a c)))) := by
  refine Rt.of hE rfl pn_X0 (Nat.le_of_ble_eq_true rfl) ?_
  refine g_eq (S' := (0, [some (.ref 104), some (.long b), none, some (.int a), some (.int c)], [], (m, cw t))) rfl ?_
  refine g_aload_n d_X0_returnTo_0 rfl ?_
  refine g_getf d_X0_returnTo_1 f_X0_23 rfl rfl ?_
  refine g_lload_n d_X0_returnTo_4 rfl ?_
  refine g_iload_n d_X0_returnTo_5 rfl ?_
  refine g_callV (As := [.long b, .int a]) d_X0_returnTo_6 o_X6_put l_X0_61 ⟨Nat.le_of_ble_eq_true rfl, Nat.le_of_ble_eq_true rfl⟩ (c_put hE 106 105 (qN (tG t)).1 b (qN (tG t)).2 a _ rfl) rfl rfl rfl rfl rfl rfl ?_ (Nat.zero_add _)
  refine g_aload_n d_X0_returnTo_9 rfl ?_
  refine g_iload d_X0_returnTo_10 rfl ?_
  refine g_putI (w' := (mset (mset (m, cw t) 106 (.inr (6, [.ref 105, .long b, .int a]))) 104 (.inr (0, [.ref 105, .ref 106, .ref 107, .ref 108, .ref 109, .ref 111, .int c])))) d_X0_returnTo_12 p_X0_44 rfl rfl ((mget_ne (by decide)).trans rfl) (Nat.le_of_ble_eq_true rfl) (rfl) ?_
  exact g_retV d_X0_returnTo_15 rfl (rfl)
def rollQ (h : HiT) (q : GmT) : GmT := retQ q (longAtF 9 (hB h) (hZ h)) (intAtF 9 (hP h) (hZ h)) (intAtF 9 (hS h) (hZ h))
theorem d_X3_rollBack_0 : decode (mB M_X3_rollBack) 0 = .ok (.aload_n 1, 1) := by decide +kernel
theorem d_X3_rollBack_1 : decode (mB M_X3_rollBack) 1 = .ok (.aload_n 0, 1) := by decide +kernel
theorem d_X3_rollBack_2 : decode (mB M_X3_rollBack) 2 = .ok (.getfield 9, 3) := by decide +kernel
theorem d_X3_rollBack_5 : decode (mB M_X3_rollBack) 5 = .ok (.aload_n 0, 1) := by decide +kernel
theorem d_X3_rollBack_6 : decode (mB M_X3_rollBack) 6 = .ok (.getfield 22, 3) := by decide +kernel
theorem d_X3_rollBack_9 : decode (mB M_X3_rollBack) 9 = .ok (.invokestatic 50, 3) := by decide +kernel
theorem d_X3_rollBack_12 : decode (mB M_X3_rollBack) 12 = .ok (.aload_n 0, 1) := by decide +kernel
theorem d_X3_rollBack_13 : decode (mB M_X3_rollBack) 13 = .ok (.getfield 15, 3) := by decide +kernel
theorem d_X3_rollBack_16 : decode (mB M_X3_rollBack) 16 = .ok (.aload_n 0, 1) := by decide +kernel
theorem d_X3_rollBack_17 : decode (mB M_X3_rollBack) 17 = .ok (.getfield 22, 3) := by decide +kernel
theorem d_X3_rollBack_20 : decode (mB M_X3_rollBack) 20 = .ok (.invokestatic 54, 3) := by decide +kernel
theorem d_X3_rollBack_23 : decode (mB M_X3_rollBack) 23 = .ok (.aload_n 0, 1) := by decide +kernel
theorem d_X3_rollBack_24 : decode (mB M_X3_rollBack) 24 = .ok (.getfield 19, 3) := by decide +kernel
theorem d_X3_rollBack_27 : decode (mB M_X3_rollBack) 27 = .ok (.aload_n 0, 1) := by decide +kernel
theorem d_X3_rollBack_28 : decode (mB M_X3_rollBack) 28 = .ok (.getfield 22, 3) := by decide +kernel
theorem d_X3_rollBack_31 : decode (mB M_X3_rollBack) 31 = .ok (.invokestatic 54, 3) := by decide +kernel
theorem d_X3_rollBack_34 : decode (mB M_X3_rollBack) 34 = .ok (.invokevirtual 58, 3) := by decide +kernel
theorem d_X3_rollBack_37 : decode (mB M_X3_rollBack) 37 = .ok (.return_, 1) := by decide +kernel
theorem c_rollBack {E : mEnv} (hE : E.1.stackTraces = false) (m : List mE) (t : cT)  : Rt E M_X3_rollBack 0 [.ref 120, .ref 104] ((m, cw t)) none ((m, cw (wG t (rollQ (tH t) (tG t))))) := by
  refine Rt.of hE rfl pn_X3 (Nat.le_of_ble_eq_true rfl) ?_
  refine g_eq (S' := (0, [some (.ref 120), some (.ref 104)], [], (m, cw t))) rfl ?_
  refine g_aload_n d_X3_rollBack_0 rfl ?_
  refine g_aload_n d_X3_rollBack_1 rfl ?_
  refine g_getf d_X3_rollBack_2 f_X3_9 rfl rfl ?_
  refine g_aload_n d_X3_rollBack_5 rfl ?_
  refine g_getf d_X3_rollBack_6 f_X3_22 rfl rfl ?_
  refine g_callN (As := [.ref 121, .int (hZ (tH t))]) d_X3_rollBack_9 o_X11_longAt n_X3_50 ⟨Nat.le_of_ble_eq_true rfl, Nat.le_of_ble_eq_true rfl⟩ (c_longAt hE 121 9 (hB (tH t)) (hZ (tH t)) _ (by decide) rfl) rfl rfl ?_ (Nat.zero_add _)
  refine g_aload_n d_X3_rollBack_12 rfl ?_
  refine g_getf d_X3_rollBack_13 f_X3_15 rfl rfl ?_
  refine g_aload_n d_X3_rollBack_16 rfl ?_
  refine g_getf d_X3_rollBack_17 f_X3_22 rfl rfl ?_
  refine g_callN (As := [.ref 122, .int (hZ (tH t))]) d_X3_rollBack_20 o_X11_intAt n_X3_54 ⟨Nat.le_of_ble_eq_true rfl, Nat.le_of_ble_eq_true rfl⟩ (c_intAt hE 122 9 (hP (tH t)) (hZ (tH t)) _ (by decide) rfl) rfl rfl ?_ (Nat.zero_add _)
  refine g_aload_n d_X3_rollBack_23 rfl ?_
  refine g_getf d_X3_rollBack_24 f_X3_19 rfl rfl ?_
  refine g_aload_n d_X3_rollBack_27 rfl ?_
  refine g_getf d_X3_rollBack_28 f_X3_22 rfl rfl ?_
  refine g_callN (As := [.ref 123, .int (hZ (tH t))]) d_X3_rollBack_31 o_X11_intAt n_X3_54 ⟨Nat.le_of_ble_eq_true rfl, Nat.le_of_ble_eq_true rfl⟩ (c_intAt hE 123 9 (hS (tH t)) (hZ (tH t)) _ (by decide) rfl) rfl rfl ?_ (Nat.zero_add _)
  refine g_callV (As := [.long (longAtF 9 (hB (tH t)) (hZ (tH t))), .int (intAtF 9 (hP (tH t)) (hZ (tH t))), .int (intAtF 9 (hS (tH t)) (hZ (tH t)))]) d_X3_rollBack_34 o_X0_returnTo l_X3_58 ⟨Nat.le_of_ble_eq_true rfl, Nat.le_of_ble_eq_true rfl⟩ (c_returnTo hE m t (longAtF 9 (hB (tH t)) (hZ (tH t))) (intAtF 9 (hP (tH t)) (hZ (tH t))) (intAtF 9 (hS (tH t)) (hZ (tH t)))) rfl rfl rfl rfl rfl rfl ?_ (Nat.zero_add _)
  exact g_retV d_X3_rollBack_37 rfl (rfl)
def fgtL : Nat → Nat → HiT → HiT
  | 0, _, h => h
  | n + 1, k, h => fgtL n (k + 1) (setLongF 9 (hB h) (nI k) (longAtF 9 (hB h) (nI k + 1)), setIntF 9 (hP h) (nI k) (intAtF 9 (hP h) (nI k + 1)), setIntF 9 (hS h) (nI k) (intAtF 9 (hS h) (nI k + 1)), hZ h)
theorem d_X3_forgetOldest_0 : decode (mB M_X3_forgetOldest) 0 = .ok (.iconst 0, 1) := by decide +kernel
theorem d_X3_forgetOldest_1 : decode (mB M_X3_forgetOldest) 1 = .ok (.istore_n 1, 1) := by decide +kernel
theorem d_X3_forgetOldest_2 : decode (mB M_X3_forgetOldest) 2 = .ok (.iload_n 1, 1) := by decide +kernel
theorem d_X3_forgetOldest_3 : decode (mB M_X3_forgetOldest) 3 = .ok (.bipush 8, 2) := by decide +kernel
theorem d_X3_forgetOldest_5 : decode (mB M_X3_forgetOldest) 5 = .ok (.if_icmp .ge 63, 3) := by decide +kernel
theorem d_X3_forgetOldest_8 : decode (mB M_X3_forgetOldest) 8 = .ok (.aload_n 0, 1) := by decide +kernel
theorem d_X3_forgetOldest_9 : decode (mB M_X3_forgetOldest) 9 = .ok (.getfield 9, 3) := by decide +kernel
theorem d_X3_forgetOldest_12 : decode (mB M_X3_forgetOldest) 12 = .ok (.iload_n 1, 1) := by decide +kernel
theorem d_X3_forgetOldest_13 : decode (mB M_X3_forgetOldest) 13 = .ok (.aload_n 0, 1) := by decide +kernel
theorem d_X3_forgetOldest_14 : decode (mB M_X3_forgetOldest) 14 = .ok (.getfield 9, 3) := by decide +kernel
theorem d_X3_forgetOldest_17 : decode (mB M_X3_forgetOldest) 17 = .ok (.iload_n 1, 1) := by decide +kernel
theorem d_X3_forgetOldest_18 : decode (mB M_X3_forgetOldest) 18 = .ok (.iconst 1, 1) := by decide +kernel
theorem d_X3_forgetOldest_19 : decode (mB M_X3_forgetOldest) 19 = .ok (.iadd, 1) := by decide +kernel
theorem d_X3_forgetOldest_20 : decode (mB M_X3_forgetOldest) 20 = .ok (.invokestatic 50, 3) := by decide +kernel
theorem d_X3_forgetOldest_23 : decode (mB M_X3_forgetOldest) 23 = .ok (.invokestatic 37, 3) := by decide +kernel
theorem d_X3_forgetOldest_26 : decode (mB M_X3_forgetOldest) 26 = .ok (.aload_n 0, 1) := by decide +kernel
theorem d_X3_forgetOldest_27 : decode (mB M_X3_forgetOldest) 27 = .ok (.getfield 15, 3) := by decide +kernel
theorem d_X3_forgetOldest_30 : decode (mB M_X3_forgetOldest) 30 = .ok (.iload_n 1, 1) := by decide +kernel
theorem d_X3_forgetOldest_31 : decode (mB M_X3_forgetOldest) 31 = .ok (.aload_n 0, 1) := by decide +kernel
theorem d_X3_forgetOldest_32 : decode (mB M_X3_forgetOldest) 32 = .ok (.getfield 15, 3) := by decide +kernel
theorem d_X3_forgetOldest_35 : decode (mB M_X3_forgetOldest) 35 = .ok (.iload_n 1, 1) := by decide +kernel
theorem d_X3_forgetOldest_36 : decode (mB M_X3_forgetOldest) 36 = .ok (.iconst 1, 1) := by decide +kernel
theorem d_X3_forgetOldest_37 : decode (mB M_X3_forgetOldest) 37 = .ok (.iadd, 1) := by decide +kernel
theorem d_X3_forgetOldest_38 : decode (mB M_X3_forgetOldest) 38 = .ok (.invokestatic 54, 3) := by decide +kernel
theorem d_X3_forgetOldest_41 : decode (mB M_X3_forgetOldest) 41 = .ok (.invokestatic 44, 3) := by decide +kernel
theorem d_X3_forgetOldest_44 : decode (mB M_X3_forgetOldest) 44 = .ok (.aload_n 0, 1) := by decide +kernel
theorem d_X3_forgetOldest_45 : decode (mB M_X3_forgetOldest) 45 = .ok (.getfield 19, 3) := by decide +kernel
theorem d_X3_forgetOldest_48 : decode (mB M_X3_forgetOldest) 48 = .ok (.iload_n 1, 1) := by decide +kernel
theorem d_X3_forgetOldest_49 : decode (mB M_X3_forgetOldest) 49 = .ok (.aload_n 0, 1) := by decide +kernel
theorem d_X3_forgetOldest_50 : decode (mB M_X3_forgetOldest) 50 = .ok (.getfield 19, 3) := by decide +kernel
theorem d_X3_forgetOldest_53 : decode (mB M_X3_forgetOldest) 53 = .ok (.iload_n 1, 1) := by decide +kernel
theorem d_X3_forgetOldest_54 : decode (mB M_X3_forgetOldest) 54 = .ok (.iconst 1, 1) := by decide +kernel
theorem d_X3_forgetOldest_55 : decode (mB M_X3_forgetOldest) 55 = .ok (.iadd, 1) := by decide +kernel
theorem d_X3_forgetOldest_56 : decode (mB M_X3_forgetOldest) 56 = .ok (.invokestatic 54, 3) := by decide +kernel
theorem d_X3_forgetOldest_59 : decode (mB M_X3_forgetOldest) 59 = .ok (.invokestatic 44, 3) := by decide +kernel
theorem d_X3_forgetOldest_62 : decode (mB M_X3_forgetOldest) 62 = .ok (.iinc 1 1, 3) := by decide +kernel
theorem d_X3_forgetOldest_65 : decode (mB M_X3_forgetOldest) 65 = .ok (.goto (-63), 3) := by decide +kernel
theorem d_X3_forgetOldest_68 : decode (mB M_X3_forgetOldest) 68 = .ok (.return_, 1) := by decide +kernel
theorem l_forget {E : mEnv} (hE : E.1.stackTraces = false) (m : List mE) : ∀ (n : Nat) (k : Nat) (t : cT), k + n = 8 → Go E M_X3_forgetOldest 0 (2, [some (.ref 120), some (.int (nI k))], [], (m, cw t)) (.inr (.inl (none, (m, cw (wH t (fgtL n k (tH t))))))) := by
  intro n
  induction n with
  | zero =>
    intro k t hk
    obtain rfl : k = 8 := by omega
    refine g_iload_n d_X3_forgetOldest_2 rfl ?_
    refine g_bipush (v := 8) d_X3_forgetOldest_3 (by decide) ?_
    refine g_icmp_ge (tgt := 68) d_X3_forgetOldest_5 (by decide) (fun c_5 => ?_) (fun c_5 => absurd c_5 (absurd (nI_le (Nat.le_refl 8) (by decide)) c_5))
    exact g_retV d_X3_forgetOldest_68 rfl (rfl)
  | succ n ih =>
    intro k t hk
    refine g_iload_n d_X3_forgetOldest_2 rfl ?_
    refine g_bipush (v := 8) d_X3_forgetOldest_3 (by decide) ?_
    refine g_icmp_ge (tgt := 68) d_X3_forgetOldest_5 (by decide) (fun c_5 => absurd c_5 (nI_ge (a := k) (b := 8) (by omega) (by decide))) (fun c_5 => ?_)
    refine g_aload_n d_X3_forgetOldest_8 rfl ?_
    refine g_getf d_X3_forgetOldest_9 f_X3_9 rfl rfl ?_
    refine g_iload_n d_X3_forgetOldest_12 rfl ?_
    refine g_aload_n d_X3_forgetOldest_13 rfl ?_
    refine g_getf d_X3_forgetOldest_14 f_X3_9 rfl rfl ?_
    refine g_iload_n d_X3_forgetOldest_17 rfl ?_
    refine g_iconst (v := 1) d_X3_forgetOldest_18 (by decide) ?_
    refine g_iadd d_X3_forgetOldest_19 ?_
    refine g_callN (As := [.ref 121, .int ((nI k) + 1)]) d_X3_forgetOldest_20 o_X11_longAt n_X3_50 ⟨Nat.le_of_ble_eq_true rfl, Nat.le_of_ble_eq_true rfl⟩ (c_longAt hE 121 9 (hB (tH t)) ((nI k) + 1) _ (by decide) rfl) rfl rfl ?_ (Nat.zero_add _)
    refine g_callN (As := [.ref 121, .int (nI k), .long (longAtF 9 (hB (tH t)) ((nI k) + 1))]) d_X3_forgetOldest_23 o_X11_setLong n_X3_37 ⟨Nat.le_of_ble_eq_true rfl, Nat.le_of_ble_eq_true rfl⟩ (c_setLong hE 121 9 (hB (tH t)) (nI k) (longAtF 9 (hB (tH t)) ((nI k) + 1)) _ (by decide) rfl) rfl rfl ?_ (Nat.zero_add _)
    refine g_aload_n d_X3_forgetOldest_26 rfl ?_
    refine g_getf d_X3_forgetOldest_27 f_X3_15 ((mget_ne (by decide)).trans rfl) rfl ?_
    refine g_iload_n d_X3_forgetOldest_30 rfl ?_
    refine g_aload_n d_X3_forgetOldest_31 rfl ?_
    refine g_getf d_X3_forgetOldest_32 f_X3_15 ((mget_ne (by decide)).trans rfl) rfl ?_
    refine g_iload_n d_X3_forgetOldest_35 rfl ?_
    refine g_iconst (v := 1) d_X3_forgetOldest_36 (by decide) ?_
    refine g_iadd d_X3_forgetOldest_37 ?_
    refine g_callN (As := [.ref 122, .int ((nI k) + 1)]) d_X3_forgetOldest_38 o_X11_intAt n_X3_54 ⟨Nat.le_of_ble_eq_true rfl, Nat.le_of_ble_eq_true rfl⟩ (c_intAt hE 122 9 (hP (tH t)) ((nI k) + 1) _ (by decide) ((mget_ne (by decide)).trans rfl)) rfl rfl ?_ (Nat.zero_add _)
    refine g_callN (As := [.ref 122, .int (nI k), .int (intAtF 9 (hP (tH t)) ((nI k) + 1))]) d_X3_forgetOldest_41 o_X11_setInt n_X3_44 ⟨Nat.le_of_ble_eq_true rfl, Nat.le_of_ble_eq_true rfl⟩ (c_setInt hE 122 9 (hP (tH t)) (nI k) (intAtF 9 (hP (tH t)) ((nI k) + 1)) _ (by decide) ((mget_ne (by decide)).trans rfl)) rfl rfl ?_ (Nat.zero_add _)
    refine g_aload_n d_X3_forgetOldest_44 rfl ?_
    refine g_getf d_X3_forgetOldest_45 f_X3_19 ((mget_ne (by decide)).trans ((mget_ne (by decide)).trans rfl)) rfl ?_
    refine g_iload_n d_X3_forgetOldest_48 rfl ?_
    refine g_aload_n d_X3_forgetOldest_49 rfl ?_
    refine g_getf d_X3_forgetOldest_50 f_X3_19 ((mget_ne (by decide)).trans ((mget_ne (by decide)).trans rfl)) rfl ?_
    refine g_iload_n d_X3_forgetOldest_53 rfl ?_
    refine g_iconst (v := 1) d_X3_forgetOldest_54 (by decide) ?_
    refine g_iadd d_X3_forgetOldest_55 ?_
    refine g_callN (As := [.ref 123, .int ((nI k) + 1)]) d_X3_forgetOldest_56 o_X11_intAt n_X3_54 ⟨Nat.le_of_ble_eq_true rfl, Nat.le_of_ble_eq_true rfl⟩ (c_intAt hE 123 9 (hS (tH t)) ((nI k) + 1) _ (by decide) ((mget_ne (by decide)).trans ((mget_ne (by decide)).trans rfl))) rfl rfl ?_ (Nat.zero_add _)
    refine g_callN (As := [.ref 123, .int (nI k), .int (intAtF 9 (hS (tH t)) ((nI k) + 1))]) d_X3_forgetOldest_59 o_X11_setInt n_X3_44 ⟨Nat.le_of_ble_eq_true rfl, Nat.le_of_ble_eq_true rfl⟩ (c_setInt hE 123 9 (hS (tH t)) (nI k) (intAtF 9 (hS (tH t)) ((nI k) + 1)) _ (by decide) ((mget_ne (by decide)).trans ((mget_ne (by decide)).trans rfl))) rfl rfl ?_ (Nat.zero_add _)
    refine g_iinc (v := ((nI k) + 1)) (L' := [some (.ref 120), some (.int ((nI k) + 1))]) d_X3_forgetOldest_62 rfl rfl rfl ?_
    refine g_goto (tgt := 2) d_X3_forgetOldest_65 (by decide) ?_
    refine g_eq (S' := (2, [some (.ref 120), some (.int (nI (k + 1)))], [], (m, cw (wH t (setLongF 9 (hB (tH t)) (nI k) (longAtF 9 (hB (tH t)) (nI k + 1)), setIntF 9 (hP (tH t)) (nI k) (intAtF 9 (hP (tH t)) (nI k + 1)), setIntF 9 (hS (tH t)) (nI k) (intAtF 9 (hS (tH t)) (nI k + 1)), hZ (tH t)))))) (by rw [← nI_1]; rfl) ?_
    exact ih (k + 1) _ (by omega)
theorem c_forget {E : mEnv} (hE : E.1.stackTraces = false) (m : List mE) (t : cT)  : Rt E M_X3_forgetOldest 0 [.ref 120] ((m, cw t)) none ((m, cw (wH t (fgtL 8 0 (tH t))))) := by
  refine Rt.of hE rfl pn_X3 (Nat.le_of_ble_eq_true rfl) ?_
  refine g_eq (S' := (0, [some (.ref 120), none], [], (m, cw t))) rfl ?_
  refine g_iconst (v := 0) d_X3_forgetOldest_0 (by decide) ?_
  refine g_istore_n (L' := [some (.ref 120), some (.int 0)]) d_X3_forgetOldest_1 rfl rfl ?_
  refine g_eq (S' := (2, [some (.ref 120), some (.int (nI 0))], [], (m, cw t))) (rfl) ?_
  exact l_forget hE m 8 0 t (by omega)
def cmtH (h : HiT) : HiT := if 8 ≤ hZ h then fgtL 8 0 h else (hB h, hP h, hS h, hZ h + 1)
theorem d_X3_commit_0 : decode (mB M_X3_commit) 0 = .ok (.aload_n 0, 1) := by decide +kernel
theorem d_X3_commit_1 : decode (mB M_X3_commit) 1 = .ok (.getfield 22, 3) := by decide +kernel
theorem d_X3_commit_4 : decode (mB M_X3_commit) 4 = .ok (.bipush 8, 2) := by decide +kernel
theorem d_X3_commit_6 : decode (mB M_X3_commit) 6 = .ok (.if_icmp .ge 16, 3) := by decide +kernel
theorem d_X3_commit_9 : decode (mB M_X3_commit) 9 = .ok (.aload_n 0, 1) := by decide +kernel
theorem d_X3_commit_10 : decode (mB M_X3_commit) 10 = .ok (.dup, 1) := by decide +kernel
theorem d_X3_commit_11 : decode (mB M_X3_commit) 11 = .ok (.getfield 22, 3) := by decide +kernel
theorem d_X3_commit_14 : decode (mB M_X3_commit) 14 = .ok (.iconst 1, 1) := by decide +kernel
theorem d_X3_commit_15 : decode (mB M_X3_commit) 15 = .ok (.iadd, 1) := by decide +kernel
theorem d_X3_commit_16 : decode (mB M_X3_commit) 16 = .ok (.putfield 22, 3) := by decide +kernel
theorem d_X3_commit_19 : decode (mB M_X3_commit) 19 = .ok (.goto 7, 3) := by decide +kernel
theorem d_X3_commit_22 : decode (mB M_X3_commit) 22 = .ok (.aload_n 0, 1) := by decide +kernel
theorem d_X3_commit_23 : decode (mB M_X3_commit) 23 = .ok (.invokevirtual 62, 3) := by decide +kernel
theorem d_X3_commit_26 : decode (mB M_X3_commit) 26 = .ok (.return_, 1) := by decide +kernel
theorem c_commit {E : mEnv} (hE : E.1.stackTraces = false) (m : List mE) (t : cT)  : Rt E M_X3_commit 0 [.ref 120] ((m, cw t)) none ((m, cw (wH t (cmtH (tH t))))) := by
  refine Rt.of hE rfl pn_X3 (Nat.le_of_ble_eq_true rfl) ?_
  refine g_eq (S' := (0, [some (.ref 120)], [], (m, cw t))) rfl ?_
  refine g_aload_n d_X3_commit_0 rfl ?_
  refine g_getf d_X3_commit_1 f_X3_22 rfl rfl ?_
  refine g_bipush (v := 8) d_X3_commit_4 (by decide) ?_
  refine g_icmp_ge (tgt := 22) d_X3_commit_6 (by decide) (fun c_6 => ?_) (fun c_6 => ?_)
  · refine g_aload_n d_X3_commit_22 rfl ?_
    refine g_callV (As := []) d_X3_commit_23 o_X3_forgetOldest l_X3_62 ⟨Nat.le_of_ble_eq_true rfl, Nat.le_of_ble_eq_true rfl⟩ (c_forget hE m t) rfl rfl rfl rfl rfl rfl ?_ (Nat.zero_add _)
    exact g_retV d_X3_commit_26 rfl (by simp only [cmtH, c_6, ↓reduceIte]; try rfl)
  · refine g_aload_n d_X3_commit_9 rfl ?_
    refine g_dup d_X3_commit_10 rfl ?_
    refine g_getf d_X3_commit_11 f_X3_22 rfl rfl ?_
    refine g_iconst (v := 1) d_X3_commit_14 (by decide) ?_
    refine g_iadd d_X3_commit_15 ?_
    refine g_putI (w' := (mset (m, cw t) 120 (.inr (3, [.ref 121, .ref 122, .ref 123, .int ((hZ (tH t)) + 1)])))) d_X3_commit_16 p_X3_22 rfl rfl rfl (Nat.le_of_ble_eq_true rfl) (rfl) ?_
    refine g_goto (tgt := 26) d_X3_commit_19 (by decide) ?_
    exact g_retV d_X3_commit_26 rfl (by simp only [cmtH, c_6, ↓reduceIte]; try rfl)
def bckH (h : HiT) : HiT := (hB h, hP h, hS h, hZ h - 1)
theorem d_X3_goBack_0 : decode (mB M_X3_goBack) 0 = .ok (.aload_n 0, 1) := by decide +kernel
theorem d_X3_goBack_1 : decode (mB M_X3_goBack) 1 = .ok (.dup, 1) := by decide +kernel
theorem d_X3_goBack_2 : decode (mB M_X3_goBack) 2 = .ok (.getfield 22, 3) := by decide +kernel
theorem d_X3_goBack_5 : decode (mB M_X3_goBack) 5 = .ok (.iconst 1, 1) := by decide +kernel
theorem d_X3_goBack_6 : decode (mB M_X3_goBack) 6 = .ok (.isub, 1) := by decide +kernel
theorem d_X3_goBack_7 : decode (mB M_X3_goBack) 7 = .ok (.putfield 22, 3) := by decide +kernel
theorem d_X3_goBack_10 : decode (mB M_X3_goBack) 10 = .ok (.aload_n 0, 1) := by decide +kernel
theorem d_X3_goBack_11 : decode (mB M_X3_goBack) 11 = .ok (.aload_n 1, 1) := by decide +kernel
theorem d_X3_goBack_12 : decode (mB M_X3_goBack) 12 = .ok (.invokevirtual 65, 3) := by decide +kernel
theorem d_X3_goBack_15 : decode (mB M_X3_goBack) 15 = .ok (.return_, 1) := by decide +kernel
theorem c_goBack {E : mEnv} (hE : E.1.stackTraces = false) (m : List mE) (t : cT)  : Rt E M_X3_goBack 0 [.ref 120, .ref 104] ((m, cw t)) none ((m, cw (wG (wH t (bckH (tH t))) (rollQ (bckH (tH t)) (tG t))))) := by
  refine Rt.of hE rfl pn_X3 (Nat.le_of_ble_eq_true rfl) ?_
  refine g_eq (S' := (0, [some (.ref 120), some (.ref 104)], [], (m, cw t))) rfl ?_
  refine g_aload_n d_X3_goBack_0 rfl ?_
  refine g_dup d_X3_goBack_1 rfl ?_
  refine g_getf d_X3_goBack_2 f_X3_22 rfl rfl ?_
  refine g_iconst (v := 1) d_X3_goBack_5 (by decide) ?_
  refine g_isub d_X3_goBack_6 ?_
  refine g_putI (w' := (mset (m, cw t) 120 (.inr (3, [.ref 121, .ref 122, .ref 123, .int ((hZ (tH t)) - 1)])))) d_X3_goBack_7 p_X3_22 rfl rfl rfl (Nat.le_of_ble_eq_true rfl) (rfl) ?_
  refine g_eq (S' := (10, [some (.ref 120), some (.ref 104)], [], (m, cw (wH t (bckH (tH t)))))) rfl ?_
  refine g_aload_n d_X3_goBack_10 rfl ?_
  refine g_aload_n d_X3_goBack_11 rfl ?_
  refine g_callV (As := [.ref 104]) d_X3_goBack_12 o_X3_rollBack l_X3_65 ⟨Nat.le_of_ble_eq_true rfl, Nat.le_of_ble_eq_true rfl⟩ (c_rollBack hE m (wH t (bckH (tH t)))) rfl rfl rfl rfl rfl rfl ?_ (Nat.zero_add _)
  exact g_retV d_X3_goBack_15 rfl (rfl)
/-- one step made and recorded -/
def mkQ (q : GmT) (d : Int32) : GmT := (qG q, (pMb (qG q) (qN q).1 (qN q).2 d, lowF (pAh (qG q) (qN q).2 d)), qS q, qA q, qL q, setIntF 400 (qR q) (qC q) (codF d (pMp (qG q) (qN q).1 (qN q).2 d)), qC q + 1)
theorem d_X0_makeStep_0 : decode (mB M_X0_makeStep) 0 = .ok (.aload_n 0, 1) := by decide +kernel
theorem d_X0_makeStep_1 : decode (mB M_X0_makeStep) 1 = .ok (.getfield 23, 3) := by decide +kernel
theorem d_X0_makeStep_4 : decode (mB M_X0_makeStep) 4 = .ok (.iload_n 1, 1) := by decide +kernel
theorem d_X0_makeStep_5 : decode (mB M_X0_makeStep) 5 = .ok (.invokevirtual 92, 3) := by decide +kernel
theorem d_X0_makeStep_8 : decode (mB M_X0_makeStep) 8 = .ok (.istore_n 2, 1) := by decide +kernel
theorem d_X0_makeStep_9 : decode (mB M_X0_makeStep) 9 = .ok (.aload_n 0, 1) := by decide +kernel
theorem d_X0_makeStep_10 : decode (mB M_X0_makeStep) 10 = .ok (.getfield 40, 3) := by decide +kernel
theorem d_X0_makeStep_13 : decode (mB M_X0_makeStep) 13 = .ok (.aload_n 0, 1) := by decide +kernel
theorem d_X0_makeStep_14 : decode (mB M_X0_makeStep) 14 = .ok (.getfield 44, 3) := by decide +kernel
theorem d_X0_makeStep_17 : decode (mB M_X0_makeStep) 17 = .ok (.iload_n 1, 1) := by decide +kernel
theorem d_X0_makeStep_18 : decode (mB M_X0_makeStep) 18 = .ok (.iload_n 2, 1) := by decide +kernel
theorem d_X0_makeStep_19 : decode (mB M_X0_makeStep) 19 = .ok (.invokestatic 96, 3) := by decide +kernel
theorem d_X0_makeStep_22 : decode (mB M_X0_makeStep) 22 = .ok (.invokestatic 78, 3) := by decide +kernel
theorem d_X0_makeStep_25 : decode (mB M_X0_makeStep) 25 = .ok (.aload_n 0, 1) := by decide +kernel
theorem d_X0_makeStep_26 : decode (mB M_X0_makeStep) 26 = .ok (.dup, 1) := by decide +kernel
theorem d_X0_makeStep_27 : decode (mB M_X0_makeStep) 27 = .ok (.getfield 44, 3) := by decide +kernel
theorem d_X0_makeStep_30 : decode (mB M_X0_makeStep) 30 = .ok (.iconst 1, 1) := by decide +kernel
theorem d_X0_makeStep_31 : decode (mB M_X0_makeStep) 31 = .ok (.iadd, 1) := by decide +kernel
theorem d_X0_makeStep_32 : decode (mB M_X0_makeStep) 32 = .ok (.putfield 44, 3) := by decide +kernel
theorem d_X0_makeStep_35 : decode (mB M_X0_makeStep) 35 = .ok (.iload_n 2, 1) := by decide +kernel
theorem d_X0_makeStep_36 : decode (mB M_X0_makeStep) 36 = .ok (.ireturn, 1) := by decide +kernel
theorem c_makeStep {E : mEnv} (hE : E.1.stackTraces = false) (m : List mE) (t : cT) (d : Int32) : Rt E M_X0_makeStep 0 [.ref 104, .int d] ((m, cw t)) (some (.int (bI (pMp (qG (tG t)) (qN (tG t)).1 (qN (tG t)).2 d)))) ((m, cw (wG t (mkQ (tG t) d)))) := by
  refine Rt.of hE rfl pn_X0 (Nat.le_of_ble_eq_true rfl) ?_
  refine g_eq (S' := (0, [some (.ref 104), some (.int d), none], [], (m, cw t))) rfl ?_
  refine g_aload_n d_X0_makeStep_0 rfl ?_
  refine g_getf d_X0_makeStep_1 f_X0_23 rfl rfl ?_
  refine g_iload_n d_X0_makeStep_4 rfl ?_
  refine g_callV (As := [.int d]) d_X0_makeStep_5 o_X6_move l_X0_92 ⟨Nat.le_of_ble_eq_true rfl, Nat.le_of_ble_eq_true rfl⟩ (c_move hE 106 105 (qG (tG t)) (qN (tG t)).1 (qN (tG t)).2 _ rfl rfl d (by decide)) rfl rfl rfl rfl rfl rfl ?_ (Nat.zero_add _)
  refine g_istore_n (L' := [some (.ref 104), some (.int d), some (.int (bI (pMp (qG (tG t)) (qN (tG t)).1 (qN (tG t)).2 d)))]) d_X0_makeStep_8 rfl rfl ?_
  refine g_aload_n d_X0_makeStep_9 rfl ?_
  refine g_getf d_X0_makeStep_10 f_X0_40 ((mget_ne (by decide)).trans rfl) rfl ?_
  refine g_aload_n d_X0_makeStep_13 rfl ?_
  refine g_getf d_X0_makeStep_14 f_X0_44 ((mget_ne (by decide)).trans rfl) rfl ?_
  refine g_iload_n d_X0_makeStep_17 rfl ?_
  refine g_iload_n d_X0_makeStep_18 rfl ?_
  refine g_callN (As := [.int d, .int (bI (pMp (qG (tG t)) (qN (tG t)).1 (qN (tG t)).2 d))]) d_X0_makeStep_19 o_X11_codeOf n_X0_96 ⟨Nat.le_of_ble_eq_true rfl, Nat.le_of_ble_eq_true rfl⟩ (c_codeOf hE d (pMp (qG (tG t)) (qN (tG t)).1 (qN (tG t)).2 d) _) rfl rfl ?_ (Nat.zero_add _)
  refine g_callN (As := [.ref 111, .int (qC (tG t)), .int (codF d (pMp (qG (tG t)) (qN (tG t)).1 (qN (tG t)).2 d))]) d_X0_makeStep_22 o_X11_setInt n_X0_78 ⟨Nat.le_of_ble_eq_true rfl, Nat.le_of_ble_eq_true rfl⟩ (c_setInt hE 111 400 (qR (tG t)) (qC (tG t)) (codF d (pMp (qG (tG t)) (qN (tG t)).1 (qN (tG t)).2 d)) _ (by decide) ((mget_ne (by decide)).trans rfl)) rfl rfl ?_ (Nat.zero_add _)
  refine g_aload_n d_X0_makeStep_25 rfl ?_
  refine g_dup d_X0_makeStep_26 rfl ?_
  refine g_getf d_X0_makeStep_27 f_X0_44 ((mget_ne (by decide)).trans ((mget_ne (by decide)).trans rfl)) rfl ?_
  refine g_iconst (v := 1) d_X0_makeStep_30 (by decide) ?_
  refine g_iadd d_X0_makeStep_31 ?_
  refine g_putI (w' := (mset (mset (mset (m, cw t) 106 (.inr (6, [.ref 105, .long (pMb (qG (tG t)) (qN (tG t)).1 (qN (tG t)).2 d), .int (lowF (pAh (qG (tG t)) (qN (tG t)).2 d))]))) 111 (.inl (0, 400, .inl (setIntF 400 (qR (tG t)) (qC (tG t)) (codF d (pMp (qG (tG t)) (qN (tG t)).1 (qN (tG t)).2 d)))))) 104 (.inr (0, [.ref 105, .ref 106, .ref 107, .ref 108, .ref 109, .ref 111, .int ((qC (tG t)) + 1)])))) d_X0_makeStep_32 p_X0_44 rfl rfl ((mget_ne (by decide)).trans ((mget_ne (by decide)).trans rfl)) (Nat.le_of_ble_eq_true rfl) (rfl) ?_
  refine g_iload_n d_X0_makeStep_35 rfl ?_
  exact g_retZ d_X0_makeStep_36 rfl (bI_and _) (rfl) (rfl)
def sgnF (q : GmT) (c : Int32) : Int32 := if hasF (gO (qG q)) c then (if hasF (qN q).1 c then (if hasF (gG (qG q)) c then 42 else 36) else if c = (qN q).2 then (if hasF (gG (qG q)) c then 43 else 64) else if hasF (gG (qG q)) c then 46 else 45) else 35
theorem d_X0_signOf_0 : decode (mB M_X0_signOf) 0 = .ok (.aload_n 0, 1) := by decide +kernel
theorem d_X0_signOf_1 : decode (mB M_X0_signOf) 1 = .ok (.getfield 12, 3) := by decide +kernel
theorem d_X0_signOf_4 : decode (mB M_X0_signOf) 4 = .ok (.getfield 82, 3) := by decide +kernel
theorem d_X0_signOf_7 : decode (mB M_X0_signOf) 7 = .ok (.iload_n 1, 1) := by decide +kernel
theorem d_X0_signOf_8 : decode (mB M_X0_signOf) 8 = .ok (.invokestatic 85, 3) := by decide +kernel
theorem d_X0_signOf_11 : decode (mB M_X0_signOf) 11 = .ok (.istore_n 2, 1) := by decide +kernel
theorem d_X0_signOf_12 : decode (mB M_X0_signOf) 12 = .ok (.aload_n 0, 1) := by decide +kernel
theorem d_X0_signOf_13 : decode (mB M_X0_signOf) 13 = .ok (.getfield 12, 3) := by decide +kernel
theorem d_X0_signOf_16 : decode (mB M_X0_signOf) 16 = .ok (.getfield 89, 3) := by decide +kernel
theorem d_X0_signOf_19 : decode (mB M_X0_signOf) 19 = .ok (.iload_n 1, 1) := by decide +kernel
theorem d_X0_signOf_20 : decode (mB M_X0_signOf) 20 = .ok (.invokestatic 85, 3) := by decide +kernel
theorem d_X0_signOf_23 : decode (mB M_X0_signOf) 23 = .ok (.ifCond .ne 6, 3) := by decide +kernel
theorem d_X0_signOf_26 : decode (mB M_X0_signOf) 26 = .ok (.bipush 35, 2) := by decide +kernel
theorem d_X0_signOf_28 : decode (mB M_X0_signOf) 28 = .ok (.ireturn, 1) := by decide +kernel
theorem d_X0_signOf_29 : decode (mB M_X0_signOf) 29 = .ok (.aload_n 0, 1) := by decide +kernel
theorem d_X0_signOf_30 : decode (mB M_X0_signOf) 30 = .ok (.getfield 23, 3) := by decide +kernel
theorem d_X0_signOf_33 : decode (mB M_X0_signOf) 33 = .ok (.getfield 72, 3) := by decide +kernel
theorem d_X0_signOf_36 : decode (mB M_X0_signOf) 36 = .ok (.iload_n 1, 1) := by decide +kernel
theorem d_X0_signOf_37 : decode (mB M_X0_signOf) 37 = .ok (.invokestatic 85, 3) := by decide +kernel
theorem d_X0_signOf_40 : decode (mB M_X0_signOf) 40 = .ok (.ifCond .eq 15, 3) := by decide +kernel
theorem d_X0_signOf_43 : decode (mB M_X0_signOf) 43 = .ok (.iload_n 2, 1) := by decide +kernel
theorem d_X0_signOf_44 : decode (mB M_X0_signOf) 44 = .ok (.ifCond .eq 8, 3) := by decide +kernel
theorem d_X0_signOf_47 : decode (mB M_X0_signOf) 47 = .ok (.bipush 42, 2) := by decide +kernel
theorem d_X0_signOf_49 : decode (mB M_X0_signOf) 49 = .ok (.goto 5, 3) := by decide +kernel
theorem d_X0_signOf_52 : decode (mB M_X0_signOf) 52 = .ok (.bipush 36, 2) := by decide +kernel
theorem d_X0_signOf_54 : decode (mB M_X0_signOf) 54 = .ok (.ireturn, 1) := by decide +kernel
theorem d_X0_signOf_55 : decode (mB M_X0_signOf) 55 = .ok (.iload_n 1, 1) := by decide +kernel
theorem d_X0_signOf_56 : decode (mB M_X0_signOf) 56 = .ok (.aload_n 0, 1) := by decide +kernel
theorem d_X0_signOf_57 : decode (mB M_X0_signOf) 57 = .ok (.getfield 23, 3) := by decide +kernel
theorem d_X0_signOf_60 : decode (mB M_X0_signOf) 60 = .ok (.getfield 73, 3) := by decide +kernel
theorem d_X0_signOf_63 : decode (mB M_X0_signOf) 63 = .ok (.if_icmp .ne 15, 3) := by decide +kernel
theorem d_X0_signOf_66 : decode (mB M_X0_signOf) 66 = .ok (.iload_n 2, 1) := by decide +kernel
theorem d_X0_signOf_67 : decode (mB M_X0_signOf) 67 = .ok (.ifCond .eq 8, 3) := by decide +kernel
theorem d_X0_signOf_70 : decode (mB M_X0_signOf) 70 = .ok (.bipush 43, 2) := by decide +kernel
theorem d_X0_signOf_72 : decode (mB M_X0_signOf) 72 = .ok (.goto 5, 3) := by decide +kernel
theorem d_X0_signOf_75 : decode (mB M_X0_signOf) 75 = .ok (.bipush 64, 2) := by decide +kernel
theorem d_X0_signOf_77 : decode (mB M_X0_signOf) 77 = .ok (.ireturn, 1) := by decide +kernel
theorem d_X0_signOf_78 : decode (mB M_X0_signOf) 78 = .ok (.iload_n 2, 1) := by decide +kernel
theorem d_X0_signOf_79 : decode (mB M_X0_signOf) 79 = .ok (.ifCond .eq 8, 3) := by decide +kernel
theorem d_X0_signOf_82 : decode (mB M_X0_signOf) 82 = .ok (.bipush 46, 2) := by decide +kernel
theorem d_X0_signOf_84 : decode (mB M_X0_signOf) 84 = .ok (.goto 5, 3) := by decide +kernel
theorem d_X0_signOf_87 : decode (mB M_X0_signOf) 87 = .ok (.bipush 45, 2) := by decide +kernel
theorem d_X0_signOf_89 : decode (mB M_X0_signOf) 89 = .ok (.ireturn, 1) := by decide +kernel
theorem c_signOf {E : mEnv} (hE : E.1.stackTraces = false) (m : List mE) (t : cT) (c : Int32) : Rt E M_X0_signOf 0 [.ref 104, .int c] ((m, cw t)) (some (.int (sgnF (tG t) c))) ((m, cw t)) := by
  refine Rt.of hE rfl pn_X0 (Nat.le_of_ble_eq_true rfl) ?_
  refine g_eq (S' := (0, [some (.ref 104), some (.int c), none], [], (m, cw t))) rfl ?_
  refine g_aload_n d_X0_signOf_0 rfl ?_
  refine g_getf d_X0_signOf_1 f_X0_12 rfl rfl ?_
  refine g_getf d_X0_signOf_4 f_X0_82 rfl rfl ?_
  refine g_iload_n d_X0_signOf_7 rfl ?_
  refine g_callN (As := [.long (gG (qG (tG t))), .int c]) d_X0_signOf_8 o_X11_has n_X0_85 ⟨Nat.le_of_ble_eq_true rfl, Nat.le_of_ble_eq_true rfl⟩ (c_has hE (gG (qG (tG t))) c _) rfl rfl ?_ (Nat.zero_add _)
  refine g_istore_n (L' := [some (.ref 104), some (.int c), some (.int (bI (hasF (gG (qG (tG t))) c)))]) d_X0_signOf_11 rfl rfl ?_
  refine g_aload_n d_X0_signOf_12 rfl ?_
  refine g_getf d_X0_signOf_13 f_X0_12 rfl rfl ?_
  refine g_getf d_X0_signOf_16 f_X0_89 rfl rfl ?_
  refine g_iload_n d_X0_signOf_19 rfl ?_
  refine g_callN (As := [.long (gO (qG (tG t))), .int c]) d_X0_signOf_20 o_X11_has n_X0_85 ⟨Nat.le_of_ble_eq_true rfl, Nat.le_of_ble_eq_true rfl⟩ (c_has hE (gO (qG (tG t))) c _) rfl rfl ?_ (Nat.zero_add _)
  refine g_ifb_ne (tgt := 29) d_X0_signOf_23 (by decide) (fun c_23 => ?_) (fun c_23 => ?_)
  · refine g_aload_n d_X0_signOf_29 rfl ?_
    refine g_getf d_X0_signOf_30 f_X0_23 rfl rfl ?_
    refine g_getf d_X0_signOf_33 f_X0_72 rfl rfl ?_
    refine g_iload_n d_X0_signOf_36 rfl ?_
    refine g_callN (As := [.long ((qN (tG t)).1), .int c]) d_X0_signOf_37 o_X11_has n_X0_85 ⟨Nat.le_of_ble_eq_true rfl, Nat.le_of_ble_eq_true rfl⟩ (c_has hE ((qN (tG t)).1) c _) rfl rfl ?_ (Nat.zero_add _)
    refine g_ifb_eq (tgt := 55) d_X0_signOf_40 (by decide) (fun c_40 => ?_) (fun c_40 => ?_)
    · refine g_iload_n d_X0_signOf_55 rfl ?_
      refine g_aload_n d_X0_signOf_56 rfl ?_
      refine g_getf d_X0_signOf_57 f_X0_23 rfl rfl ?_
      refine g_getf d_X0_signOf_60 f_X0_73 rfl rfl ?_
      refine g_icmp_ne (tgt := 78) d_X0_signOf_63 (by decide) (fun c_63 => ?_) (fun c_63 => ?_)
      · refine g_iload_n d_X0_signOf_78 rfl ?_
        refine g_ifb_eq (tgt := 87) d_X0_signOf_79 (by decide) (fun c_79 => ?_) (fun c_79 => ?_)
        · refine g_bipush (v := 45) d_X0_signOf_87 (by decide) ?_
          exact g_retC d_X0_signOf_89 rfl (by decide) (by simp only [sgnF, c_23, c_40, eq_false c_63, c_79, ↓reduceIte, Bool.false_eq_true]) (rfl)
        · refine g_bipush (v := 46) d_X0_signOf_82 (by decide) ?_
          refine g_goto (tgt := 89) d_X0_signOf_84 (by decide) ?_
          exact g_retC d_X0_signOf_89 rfl (by decide) (by simp only [sgnF, c_23, c_40, eq_false c_63, c_79, ↓reduceIte, Bool.false_eq_true]) (rfl)
      · refine g_iload_n d_X0_signOf_66 rfl ?_
        refine g_ifb_eq (tgt := 75) d_X0_signOf_67 (by decide) (fun c_67 => ?_) (fun c_67 => ?_)
        · refine g_bipush (v := 64) d_X0_signOf_75 (by decide) ?_
          exact g_retC d_X0_signOf_77 rfl (by decide) (by simp only [sgnF, c_23, c_40, eq_true c_63, c_67, ↓reduceIte, Bool.false_eq_true]) (rfl)
        · refine g_bipush (v := 43) d_X0_signOf_70 (by decide) ?_
          refine g_goto (tgt := 77) d_X0_signOf_72 (by decide) ?_
          exact g_retC d_X0_signOf_77 rfl (by decide) (by simp only [sgnF, c_23, c_40, eq_true c_63, c_67, ↓reduceIte, Bool.false_eq_true]) (rfl)
    · refine g_iload_n d_X0_signOf_43 rfl ?_
      refine g_ifb_eq (tgt := 52) d_X0_signOf_44 (by decide) (fun c_44 => ?_) (fun c_44 => ?_)
      · refine g_bipush (v := 36) d_X0_signOf_52 (by decide) ?_
        exact g_retC d_X0_signOf_54 rfl (by decide) (by simp only [sgnF, c_23, c_40, c_44, ↓reduceIte, Bool.false_eq_true]) (rfl)
      · refine g_bipush (v := 42) d_X0_signOf_47 (by decide) ?_
        refine g_goto (tgt := 54) d_X0_signOf_49 (by decide) ?_
        exact g_retC d_X0_signOf_54 rfl (by decide) (by simp only [sgnF, c_23, c_40, c_44, ↓reduceIte, Bool.false_eq_true]) (rfl)
  · refine g_bipush (v := 35) d_X0_signOf_26 (by decide) ?_
    exact g_retC d_X0_signOf_28 rfl (by decide) (by simp only [sgnF, c_23, ↓reduceIte, Bool.false_eq_true]) (rfl)
