theorem g_iconst {E : mEnv} {y : mM} {n pc : Nat} {L : List (Option Value)} {st : List Value} {w : mW} {G : mG} {i : Int} {v : Int32} (d : decode (mB y) pc = .ok (.iconst i, 1)) (hv : Int32.ofInt i = v) (k : Go E y n (pc + 1, L, .int v :: st, w) G) : Go E y n (pc, L, st, w) G := by
  intro ad p e R s m args below meth c A C cells slots QQ hc hs hT H locs ls hw hl
  exact lv_iconst C.1 C.2.1 d hv (k ad p e R s m args below meth c A C cells slots QQ hc hs hT H locs ls hw hl)
theorem g_bipush {E : mEnv} {y : mM} {n pc : Nat} {L : List (Option Value)} {st : List Value} {w : mW} {G : mG} {i : Int} {v : Int32} (d : decode (mB y) pc = .ok (.bipush i, 2)) (hv : (Int8.ofInt i).toInt32 = v) (k : Go E y n (pc + 2, L, .int v :: st, w) G) : Go E y n (pc, L, st, w) G := by
  intro ad p e R s m args below meth c A C cells slots QQ hc hs hT H locs ls hw hl
  exact lv_bipush C.1 C.2.1 d hv (k ad p e R s m args below meth c A C cells slots QQ hc hs hT H locs ls hw hl)
theorem g_sipush {E : mEnv} {y : mM} {n pc : Nat} {L : List (Option Value)} {st : List Value} {w : mW} {G : mG} {i : Int} {v : Int32} (d : decode (mB y) pc = .ok (.sipush i, 3)) (hv : (Int16.ofInt i).toInt32 = v) (k : Go E y n (pc + 3, L, .int v :: st, w) G) : Go E y n (pc, L, st, w) G := by
  intro ad p e R s m args below meth c A C cells slots QQ hc hs hT H locs ls hw hl
  exact lv_sipush C.1 C.2.1 d hv (k ad p e R s m args below meth c A C cells slots QQ hc hs hT H locs ls hw hl)
theorem g_lconst {E : mEnv} {y : mM} {n pc : Nat} {L : List (Option Value)} {st : List Value} {w : mW} {G : mG} {i : Fin 2} {v : Int64} (d : decode (mB y) pc = .ok (.lconst i, 1)) (hv : Int64.ofNat (i : Nat) = v) (k : Go E y n (pc + 1, L, .long v :: st, w) G) : Go E y n (pc, L, st, w) G := by
  intro ad p e R s m args below meth c A C cells slots QQ hc hs hT H locs ls hw hl
  exact lv_lconst C.1 C.2.1 d hv (k ad p e R s m args below meth c A C cells slots QQ hc hs hT H locs ls hw hl)
theorem g_iload_n {E : mEnv} {y : mM} {n pc : Nat} {L : List (Option Value)} {st : List Value} {w : mW} {G : mG} {i : Fin 4} {x : Int32} (d : decode (mB y) pc = .ok (.iload_n i, 1)) (hk : L[(i : Nat)]? = some (some (.int x))) (k : Go E y n (pc + 1, L, .int x :: st, w) G) : Go E y n (pc, L, st, w) G := by
  intro ad p e R s m args below meth c A C cells slots QQ hc hs hT H locs ls hw hl
  exact lv_iload_n C.1 C.2.1 d rfl (hl.2.2.2 _ _ hk) (k ad p e R s m args below meth c A C cells slots QQ hc hs hT H locs ls hw hl)
theorem g_iload {E : mEnv} {y : mM} {n pc : Nat} {L : List (Option Value)} {st : List Value} {w : mW} {G : mG} {i : Nat} {x : Int32} (d : decode (mB y) pc = .ok (.iload i, 2)) (hk : L[i]? = some (some (.int x))) (k : Go E y n (pc + 2, L, .int x :: st, w) G) : Go E y n (pc, L, st, w) G := by
  intro ad p e R s m args below meth c A C cells slots QQ hc hs hT H locs ls hw hl
  exact lv_iload C.1 C.2.1 d (hl.2.2.2 _ _ hk) (k ad p e R s m args below meth c A C cells slots QQ hc hs hT H locs ls hw hl)
theorem g_lload_n {E : mEnv} {y : mM} {n pc : Nat} {L : List (Option Value)} {st : List Value} {w : mW} {G : mG} {i : Fin 4} {x : Int64} (d : decode (mB y) pc = .ok (.lload_n i, 1)) (hk : L[(i : Nat)]? = some (some (.long x))) (k : Go E y n (pc + 1, L, .long x :: st, w) G) : Go E y n (pc, L, st, w) G := by
  intro ad p e R s m args below meth c A C cells slots QQ hc hs hT H locs ls hw hl
  exact lv_lload_n C.1 C.2.1 d rfl (hl.2.2.2 _ _ hk) (k ad p e R s m args below meth c A C cells slots QQ hc hs hT H locs ls hw hl)
theorem g_lload {E : mEnv} {y : mM} {n pc : Nat} {L : List (Option Value)} {st : List Value} {w : mW} {G : mG} {i : Nat} {x : Int64} (d : decode (mB y) pc = .ok (.lload i, 2)) (hk : L[i]? = some (some (.long x))) (k : Go E y n (pc + 2, L, .long x :: st, w) G) : Go E y n (pc, L, st, w) G := by
  intro ad p e R s m args below meth c A C cells slots QQ hc hs hT H locs ls hw hl
  exact lv_lload C.1 C.2.1 d (hl.2.2.2 _ _ hk) (k ad p e R s m args below meth c A C cells slots QQ hc hs hT H locs ls hw hl)
theorem g_aload_n {E : mEnv} {y : mM} {n pc : Nat} {L : List (Option Value)} {st : List Value} {w : mW} {G : mG} {i : Fin 4} {x : Nat} (d : decode (mB y) pc = .ok (.aload_n i, 1)) (hk : L[(i : Nat)]? = some (some (.ref x))) (k : Go E y n (pc + 1, L, .ref x :: st, w) G) : Go E y n (pc, L, st, w) G := by
  intro ad p e R s m args below meth c A C cells slots QQ hc hs hT H locs ls hw hl
  exact lv_aload_n C.1 C.2.1 d rfl (hl.2.2.2 _ _ hk) (k ad p e R s m args below meth c A C cells slots QQ hc hs hT H locs ls hw hl)
theorem g_aload {E : mEnv} {y : mM} {n pc : Nat} {L : List (Option Value)} {st : List Value} {w : mW} {G : mG} {i : Nat} {x : Nat} (d : decode (mB y) pc = .ok (.aload i, 2)) (hk : L[i]? = some (some (.ref x))) (k : Go E y n (pc + 2, L, .ref x :: st, w) G) : Go E y n (pc, L, st, w) G := by
  intro ad p e R s m args below meth c A C cells slots QQ hc hs hT H locs ls hw hl
  exact lv_aload C.1 C.2.1 d (hl.2.2.2 _ _ hk) (k ad p e R s m args below meth c A C cells slots QQ hc hs hT H locs ls hw hl)
theorem g_istore_n {E : mEnv} {y : mM} {n pc : Nat} {L : List (Option Value)} {st : List Value} {w : mW} {G : mG} {i : Fin 4} {x : Int32} {L' : List (Option Value)} (d : decode (mB y) pc = .ok (.istore_n i, 1)) (hn : Nat.ble ((i : Nat) + 1) L.length = true) (h' : mst L (i : Nat) (.int x) = L') (k : Go E y n (pc + 1, L', st, w) G) : Go E y n (pc, L, .int x :: st, w) G := by
  intro ad p e R s m args below meth c A C cells slots QQ hc hs hT H locs ls hw hl
  subst h'
  exact lv_istore_n (lv := mLv ad L) C.1 C.2.1 d rfl hl.has (by have := Nat.le_of_ble_eq_true hn; have : L.length = mL y := hl.2.2.1; omega) rfl (fun ls' h => k ad p e R s m args below meth c A C cells slots QQ hc hs hT H locs ls' hw (hl.store1 rfl h))
theorem g_istore {E : mEnv} {y : mM} {n pc : Nat} {L : List (Option Value)} {st : List Value} {w : mW} {G : mG} {i : Nat} {x : Int32} {L' : List (Option Value)} (d : decode (mB y) pc = .ok (.istore i, 2)) (hn : Nat.ble (i + 1) L.length = true) (h' : mst L i (.int x) = L') (k : Go E y n (pc + 2, L', st, w) G) : Go E y n (pc, L, .int x :: st, w) G := by
  intro ad p e R s m args below meth c A C cells slots QQ hc hs hT H locs ls hw hl
  subst h'
  exact lv_istore (lv := mLv ad L) C.1 C.2.1 d hl.has (by have := Nat.le_of_ble_eq_true hn; have : L.length = mL y := hl.2.2.1; omega) rfl (fun ls' h => k ad p e R s m args below meth c A C cells slots QQ hc hs hT H locs ls' hw (hl.store1 rfl h))
theorem g_astore_n {E : mEnv} {y : mM} {n pc : Nat} {L : List (Option Value)} {st : List Value} {w : mW} {G : mG} {i : Fin 4} {x : Nat} {L' : List (Option Value)} (d : decode (mB y) pc = .ok (.astore_n i, 1)) (hn : Nat.ble ((i : Nat) + 1) L.length = true) (h' : mst L (i : Nat) (.ref x) = L') (k : Go E y n (pc + 1, L', st, w) G) : Go E y n (pc, L, .ref x :: st, w) G := by
  intro ad p e R s m args below meth c A C cells slots QQ hc hs hT H locs ls hw hl
  subst h'
  exact lv_astore_n (lv := mLv ad L) C.1 C.2.1 d rfl hl.has (by have := Nat.le_of_ble_eq_true hn; have : L.length = mL y := hl.2.2.1; omega) rfl (fun ls' h => k ad p e R s m args below meth c A C cells slots QQ hc hs hT H locs ls' hw (hl.store1 rfl h))
theorem g_astore {E : mEnv} {y : mM} {n pc : Nat} {L : List (Option Value)} {st : List Value} {w : mW} {G : mG} {i : Nat} {x : Nat} {L' : List (Option Value)} (d : decode (mB y) pc = .ok (.astore i, 2)) (hn : Nat.ble (i + 1) L.length = true) (h' : mst L i (.ref x) = L') (k : Go E y n (pc + 2, L', st, w) G) : Go E y n (pc, L, .ref x :: st, w) G := by
  intro ad p e R s m args below meth c A C cells slots QQ hc hs hT H locs ls hw hl
  subst h'
  exact lv_astore (lv := mLv ad L) C.1 C.2.1 d hl.has (by have := Nat.le_of_ble_eq_true hn; have : L.length = mL y := hl.2.2.1; omega) rfl (fun ls' h => k ad p e R s m args below meth c A C cells slots QQ hc hs hT H locs ls' hw (hl.store1 rfl h))
theorem g_lstore_n {E : mEnv} {y : mM} {n pc : Nat} {L : List (Option Value)} {st : List Value} {w : mW} {G : mG} {i : Fin 4} {x : Int64} {L' : List (Option Value)} (d : decode (mB y) pc = .ok (.lstore_n i, 1)) (hn : Nat.ble ((i : Nat) + 2) L.length = true) (h' : mst L (i : Nat) (.long x) = L') (k : Go E y n (pc + 1, L', st, w) G) : Go E y n (pc, L, .long x :: st, w) G := by
  intro ad p e R s m args below meth c A C cells slots QQ hc hs hT H locs ls hw hl
  subst h'
  exact lv_lstore_n (lv := mLv ad L) C.1 C.2.1 d rfl hl.has (by have := Nat.le_of_ble_eq_true hn; have : L.length = mL y := hl.2.2.1; omega) rfl (fun ls' h => k ad p e R s m args below meth c A C cells slots QQ hc hs hT H locs ls' hw (hl.store2 rfl h))
theorem g_lstore {E : mEnv} {y : mM} {n pc : Nat} {L : List (Option Value)} {st : List Value} {w : mW} {G : mG} {i : Nat} {x : Int64} {L' : List (Option Value)} (d : decode (mB y) pc = .ok (.lstore i, 2)) (hn : Nat.ble (i + 2) L.length = true) (h' : mst L i (.long x) = L') (k : Go E y n (pc + 2, L', st, w) G) : Go E y n (pc, L, .long x :: st, w) G := by
  intro ad p e R s m args below meth c A C cells slots QQ hc hs hT H locs ls hw hl
  subst h'
  exact lv_lstore (lv := mLv ad L) C.1 C.2.1 d hl.has (by have := Nat.le_of_ble_eq_true hn; have : L.length = mL y := hl.2.2.1; omega) rfl (fun ls' h => k ad p e R s m args below meth c A C cells slots QQ hc hs hT H locs ls' hw (hl.store2 rfl h))
theorem lv_has.mono {ls : Array Slot} {nL : Nat} {l1 l2 : List (Nat × Value)} (h : lv_has ls nL l1) (hs : ∀ q ∈ l2, q ∈ l1) : lv_has ls nL l2 := ⟨h.1, h.2.1, fun q hq => h.2.2 q (hs q hq)⟩
theorem g_iinc {E : mEnv} {y : mM} {n pc : Nat} {L : List (Option Value)} {st : List Value} {w : mW} {G : mG} {i : Nat} {z : Int} {x v : Int32} {L' : List (Option Value)} (d : decode (mB y) pc = .ok (.iinc i z, 3)) (hk : L[i]? = some (some (.int x))) (hv : x + Int32.ofInt z = v) (h' : mst L i (.int v) = L') (k : Go E y n (pc + 3, L', st, w) G) : Go E y n (pc, L, st, w) G := by
  intro ad p e R s m args below meth c A C cells slots QQ hc hs hT H locs ls hw hl
  subst h'
  have hi : i < mL y := by have := (List.getElem?_eq_some_iff.mp hk).1; have : L.length = mL y := hl.2.2.1; omega
  have h0 : lv_has ls (mL y) ((i, .int x) :: mLv ad L) := ⟨hl.1, hl.2.1, fun q hq => by
    rcases List.mem_cons.mp hq with rfl | hq
    · exact hl.2.2.2 _ _ hk
    · exact hl.has.2.2 q hq⟩
  refine lv_iinc (lv := (i, .int x) :: mLv ad L) (k := 0) C.1 C.2.1 d h0 rfl hv hi rfl (fun ls' h => k ad p e R s m args below meth c A C cells slots QQ hc hs hT H locs ls' hw (hl.store1 (v := .int v) rfl (h.mono fun q hq => ?_)))
  rcases List.mem_cons.mp hq with rfl | hq
  · exact List.mem_cons_self
  · refine List.mem_cons_of_mem _ ?_
    obtain ⟨q1, q2⟩ := List.mem_filter.mp hq
    exact List.mem_filter.mpr ⟨List.mem_cons_of_mem _ q1, q2⟩
theorem g_iadd {E : mEnv} {y : mM} {n pc : Nat} {L : List (Option Value)} {st : List Value} {w : mW} {G : mG} {a b : Int32} (d : decode (mB y) pc = .ok (.iadd, 1)) (k : Go E y n (pc + 1, L, .int (a + b) :: st, w) G) : Go E y n (pc, L, .int b :: .int a :: st, w) G := by
  intro ad p e R s m args below meth c A C cells slots QQ hc hs hT H locs ls hw hl
  exact lv_iadd C.1 C.2.1 d (k ad p e R s m args below meth c A C cells slots QQ hc hs hT H locs ls hw hl)
theorem g_isub {E : mEnv} {y : mM} {n pc : Nat} {L : List (Option Value)} {st : List Value} {w : mW} {G : mG} {a b : Int32} (d : decode (mB y) pc = .ok (.isub, 1)) (k : Go E y n (pc + 1, L, .int (a - b) :: st, w) G) : Go E y n (pc, L, .int b :: .int a :: st, w) G := by
  intro ad p e R s m args below meth c A C cells slots QQ hc hs hT H locs ls hw hl
  exact lv_isub C.1 C.2.1 d (k ad p e R s m args below meth c A C cells slots QQ hc hs hT H locs ls hw hl)
theorem g_imul {E : mEnv} {y : mM} {n pc : Nat} {L : List (Option Value)} {st : List Value} {w : mW} {G : mG} {a b : Int32} (d : decode (mB y) pc = .ok (.imul, 1)) (k : Go E y n (pc + 1, L, .int (a * b) :: st, w) G) : Go E y n (pc, L, .int b :: .int a :: st, w) G := by
  intro ad p e R s m args below meth c A C cells slots QQ hc hs hT H locs ls hw hl
  exact lv_imul C.1 C.2.1 d (k ad p e R s m args below meth c A C cells slots QQ hc hs hT H locs ls hw hl)
theorem g_iand {E : mEnv} {y : mM} {n pc : Nat} {L : List (Option Value)} {st : List Value} {w : mW} {G : mG} {a b : Int32} (d : decode (mB y) pc = .ok (.iand, 1)) (k : Go E y n (pc + 1, L, .int (a &&& b) :: st, w) G) : Go E y n (pc, L, .int b :: .int a :: st, w) G := by
  intro ad p e R s m args below meth c A C cells slots QQ hc hs hT H locs ls hw hl
  exact lv_iand C.1 C.2.1 d (k ad p e R s m args below meth c A C cells slots QQ hc hs hT H locs ls hw hl)
theorem g_ior {E : mEnv} {y : mM} {n pc : Nat} {L : List (Option Value)} {st : List Value} {w : mW} {G : mG} {a b : Int32} (d : decode (mB y) pc = .ok (.ior, 1)) (k : Go E y n (pc + 1, L, .int (a ||| b) :: st, w) G) : Go E y n (pc, L, .int b :: .int a :: st, w) G := by
  intro ad p e R s m args below meth c A C cells slots QQ hc hs hT H locs ls hw hl
  exact lv_ior C.1 C.2.1 d (k ad p e R s m args below meth c A C cells slots QQ hc hs hT H locs ls hw hl)
theorem g_ixor {E : mEnv} {y : mM} {n pc : Nat} {L : List (Option Value)} {st : List Value} {w : mW} {G : mG} {a b : Int32} (d : decode (mB y) pc = .ok (.ixor, 1)) (k : Go E y n (pc + 1, L, .int (a ^^^ b) :: st, w) G) : Go E y n (pc, L, .int b :: .int a :: st, w) G := by
  intro ad p e R s m args below meth c A C cells slots QQ hc hs hT H locs ls hw hl
  exact lv_ixor C.1 C.2.1 d (k ad p e R s m args below meth c A C cells slots QQ hc hs hT H locs ls hw hl)
theorem g_ladd {E : mEnv} {y : mM} {n pc : Nat} {L : List (Option Value)} {st : List Value} {w : mW} {G : mG} {a b : Int64} (d : decode (mB y) pc = .ok (.ladd, 1)) (k : Go E y n (pc + 1, L, .long (a + b) :: st, w) G) : Go E y n (pc, L, .long b :: .long a :: st, w) G := by
  intro ad p e R s m args below meth c A C cells slots QQ hc hs hT H locs ls hw hl
  exact lv_ladd C.1 C.2.1 d (k ad p e R s m args below meth c A C cells slots QQ hc hs hT H locs ls hw hl)
theorem g_lsub {E : mEnv} {y : mM} {n pc : Nat} {L : List (Option Value)} {st : List Value} {w : mW} {G : mG} {a b : Int64} (d : decode (mB y) pc = .ok (.lsub, 1)) (k : Go E y n (pc + 1, L, .long (a - b) :: st, w) G) : Go E y n (pc, L, .long b :: .long a :: st, w) G := by
  intro ad p e R s m args below meth c A C cells slots QQ hc hs hT H locs ls hw hl
  exact lv_lsub C.1 C.2.1 d (k ad p e R s m args below meth c A C cells slots QQ hc hs hT H locs ls hw hl)
theorem g_lmul {E : mEnv} {y : mM} {n pc : Nat} {L : List (Option Value)} {st : List Value} {w : mW} {G : mG} {a b : Int64} (d : decode (mB y) pc = .ok (.lmul, 1)) (k : Go E y n (pc + 1, L, .long (a * b) :: st, w) G) : Go E y n (pc, L, .long b :: .long a :: st, w) G := by
  intro ad p e R s m args below meth c A C cells slots QQ hc hs hT H locs ls hw hl
  exact lv_lmul C.1 C.2.1 d (k ad p e R s m args below meth c A C cells slots QQ hc hs hT H locs ls hw hl)
theorem g_land {E : mEnv} {y : mM} {n pc : Nat} {L : List (Option Value)} {st : List Value} {w : mW} {G : mG} {a b : Int64} (d : decode (mB y) pc = .ok (.land, 1)) (k : Go E y n (pc + 1, L, .long (a &&& b) :: st, w) G) : Go E y n (pc, L, .long b :: .long a :: st, w) G := by
  intro ad p e R s m args below meth c A C cells slots QQ hc hs hT H locs ls hw hl
  exact lv_land C.1 C.2.1 d (k ad p e R s m args below meth c A C cells slots QQ hc hs hT H locs ls hw hl)
theorem g_lor {E : mEnv} {y : mM} {n pc : Nat} {L : List (Option Value)} {st : List Value} {w : mW} {G : mG} {a b : Int64} (d : decode (mB y) pc = .ok (.lor, 1)) (k : Go E y n (pc + 1, L, .long (a ||| b) :: st, w) G) : Go E y n (pc, L, .long b :: .long a :: st, w) G := by
  intro ad p e R s m args below meth c A C cells slots QQ hc hs hT H locs ls hw hl
  exact lv_lor C.1 C.2.1 d (k ad p e R s m args below meth c A C cells slots QQ hc hs hT H locs ls hw hl)
theorem g_lxor {E : mEnv} {y : mM} {n pc : Nat} {L : List (Option Value)} {st : List Value} {w : mW} {G : mG} {a b : Int64} (d : decode (mB y) pc = .ok (.lxor, 1)) (k : Go E y n (pc + 1, L, .long (a ^^^ b) :: st, w) G) : Go E y n (pc, L, .long b :: .long a :: st, w) G := by
  intro ad p e R s m args below meth c A C cells slots QQ hc hs hT H locs ls hw hl
  exact lv_lxor C.1 C.2.1 d (k ad p e R s m args below meth c A C cells slots QQ hc hs hT H locs ls hw hl)
theorem g_idiv {E : mEnv} {y : mM} {n pc : Nat} {L : List (Option Value)} {st : List Value} {w : mW} {G : mG} {a b : Int32} (d : decode (mB y) pc = .ok (.idiv, 1)) (hb : ¬ b = 0) (k : Go E y n (pc + 1, L, .int (a / b) :: st, w) G) : Go E y n (pc, L, .int b :: .int a :: st, w) G := by
  intro ad p e R s m args below meth c A C cells slots QQ hc hs hT H locs ls hw hl
  exact lv_idiv C.1 C.2.1 d hb (k ad p e R s m args below meth c A C cells slots QQ hc hs hT H locs ls hw hl)
theorem g_irem {E : mEnv} {y : mM} {n pc : Nat} {L : List (Option Value)} {st : List Value} {w : mW} {G : mG} {a b : Int32} (d : decode (mB y) pc = .ok (.irem, 1)) (hb : ¬ b = 0) (k : Go E y n (pc + 1, L, .int (a - a / b * b) :: st, w) G) : Go E y n (pc, L, .int b :: .int a :: st, w) G := by
  intro ad p e R s m args below meth c A C cells slots QQ hc hs hT H locs ls hw hl
  exact lv_irem C.1 C.2.1 d hb (k ad p e R s m args below meth c A C cells slots QQ hc hs hT H locs ls hw hl)
theorem g_lneg {E : mEnv} {y : mM} {n pc : Nat} {L : List (Option Value)} {st : List Value} {w : mW} {G : mG} {a : Int64} (d : decode (mB y) pc = .ok (.lneg, 1)) (k : Go E y n (pc + 1, L, .long (-a) :: st, w) G) : Go E y n (pc, L, .long a :: st, w) G := by
  intro ad p e R s m args below meth c A C cells slots QQ hc hs hT H locs ls hw hl
  exact lv_lneg C.1 C.2.1 d (k ad p e R s m args below meth c A C cells slots QQ hc hs hT H locs ls hw hl)
theorem g_ineg {E : mEnv} {y : mM} {n pc : Nat} {L : List (Option Value)} {st : List Value} {w : mW} {G : mG} {a : Int32} (d : decode (mB y) pc = .ok (.ineg, 1)) (k : Go E y n (pc + 1, L, .int (-a) :: st, w) G) : Go E y n (pc, L, .int a :: st, w) G := by
  intro ad p e R s m args below meth c A C cells slots QQ hc hs hT H locs ls hw hl
  exact lv_ineg C.1 C.2.1 d (k ad p e R s m args below meth c A C cells slots QQ hc hs hT H locs ls hw hl)
theorem g_ishl {E : mEnv} {y : mM} {n pc : Nat} {L : List (Option Value)} {st : List Value} {w : mW} {G : mG} {a b : Int32} (d : decode (mB y) pc = .ok (.ishl, 1)) (k : Go E y n (pc + 1, L, .int (a <<< (b &&& 31)) :: st, w) G) : Go E y n (pc, L, .int b :: .int a :: st, w) G := by
  intro ad p e R s m args below meth c A C cells slots QQ hc hs hT H locs ls hw hl
  exact lv_ishl C.1 C.2.1 d (k ad p e R s m args below meth c A C cells slots QQ hc hs hT H locs ls hw hl)
theorem g_ishr {E : mEnv} {y : mM} {n pc : Nat} {L : List (Option Value)} {st : List Value} {w : mW} {G : mG} {a b : Int32} (d : decode (mB y) pc = .ok (.ishr, 1)) (k : Go E y n (pc + 1, L, .int (a >>> (b &&& 31)) :: st, w) G) : Go E y n (pc, L, .int b :: .int a :: st, w) G := by
  intro ad p e R s m args below meth c A C cells slots QQ hc hs hT H locs ls hw hl
  exact lv_ishr C.1 C.2.1 d (k ad p e R s m args below meth c A C cells slots QQ hc hs hT H locs ls hw hl)
theorem g_lushr {E : mEnv} {y : mM} {n pc : Nat} {L : List (Option Value)} {st : List Value} {w : mW} {G : mG} {a v : Int64} {b : Int32} (d : decode (mB y) pc = .ok (.lushr, 1)) (hv : (a.toUInt64 >>> (b.toInt64.toUInt64 &&& Int64.toUInt64 63)).toInt64 = v) (k : Go E y n (pc + 1, L, .long v :: st, w) G) : Go E y n (pc, L, .int b :: .long a :: st, w) G := by
  intro ad p e R s m args below meth c A C cells slots QQ hc hs hT H locs ls hw hl
  exact lv_lushr C.1 C.2.1 d hv (k ad p e R s m args below meth c A C cells slots QQ hc hs hT H locs ls hw hl)
theorem g_lshl {E : mEnv} {y : mM} {n pc : Nat} {L : List (Option Value)} {st : List Value} {w : mW} {G : mG} {a v : Int64} {b : Int32} (d : decode (mB y) pc = .ok (.lshl, 1)) (hv : a <<< (b.toInt64 &&& 63) = v) (k : Go E y n (pc + 1, L, .long v :: st, w) G) : Go E y n (pc, L, .int b :: .long a :: st, w) G := by
  intro ad p e R s m args below meth c A C cells slots QQ hc hs hT H locs ls hw hl
  exact lv_lshl C.1 C.2.1 d hv (k ad p e R s m args below meth c A C cells slots QQ hc hs hT H locs ls hw hl)
theorem g_lshr {E : mEnv} {y : mM} {n pc : Nat} {L : List (Option Value)} {st : List Value} {w : mW} {G : mG} {a v : Int64} {b : Int32} (d : decode (mB y) pc = .ok (.lshr, 1)) (hv : a >>> (b.toInt64 &&& 63) = v) (k : Go E y n (pc + 1, L, .long v :: st, w) G) : Go E y n (pc, L, .int b :: .long a :: st, w) G := by
  intro ad p e R s m args below meth c A C cells slots QQ hc hs hT H locs ls hw hl
  exact lv_lshr C.1 C.2.1 d hv (k ad p e R s m args below meth c A C cells slots QQ hc hs hT H locs ls hw hl)
theorem g_i2l {E : mEnv} {y : mM} {n pc : Nat} {L : List (Option Value)} {st : List Value} {w : mW} {G : mG} {a : Int32} (d : decode (mB y) pc = .ok (.i2l, 1)) (k : Go E y n (pc + 1, L, .long a.toInt64 :: st, w) G) : Go E y n (pc, L, .int a :: st, w) G := by
  intro ad p e R s m args below meth c A C cells slots QQ hc hs hT H locs ls hw hl
  exact lv_i2l C.1 C.2.1 d rfl (k ad p e R s m args below meth c A C cells slots QQ hc hs hT H locs ls hw hl)
theorem g_l2i {E : mEnv} {y : mM} {n pc : Nat} {L : List (Option Value)} {st : List Value} {w : mW} {G : mG} {a : Int64} (d : decode (mB y) pc = .ok (.l2i, 1)) (k : Go E y n (pc + 1, L, .int a.toInt32 :: st, w) G) : Go E y n (pc, L, .long a :: st, w) G := by
  intro ad p e R s m args below meth c A C cells slots QQ hc hs hT H locs ls hw hl
  exact lv_l2i C.1 C.2.1 d rfl (k ad p e R s m args below meth c A C cells slots QQ hc hs hT H locs ls hw hl)
theorem g_i2c {E : mEnv} {y : mM} {n pc : Nat} {L : List (Option Value)} {st : List Value} {w : mW} {G : mG} {a : Int32} (d : decode (mB y) pc = .ok (.i2c, 1)) (k : Go E y n (pc + 1, L, .int (a.toUInt32 % 65536).toInt32 :: st, w) G) : Go E y n (pc, L, .int a :: st, w) G := by
  intro ad p e R s m args below meth c A C cells slots QQ hc hs hT H locs ls hw hl
  exact lv_i2c C.1 C.2.1 d rfl (k ad p e R s m args below meth c A C cells slots QQ hc hs hT H locs ls hw hl)
theorem g_lcmp {E : mEnv} {y : mM} {n pc : Nat} {L : List (Option Value)} {st : List Value} {w : mW} {G : mG} {a b : Int64} (d : decode (mB y) pc = .ok (.lcmp, 1)) (k : Go E y n (pc + 1, L, .int (lg_cmp a b) :: st, w) G) : Go E y n (pc, L, .long b :: .long a :: st, w) G := by
  intro ad p e R s m args below meth c A C cells slots QQ hc hs hT H locs ls hw hl
  exact W.lcmp C.1 C.2.1 d (k ad p e R s m args below meth c A C cells slots QQ hc hs hT H locs ls hw hl)
theorem g_dup {E : mEnv} {y : mM} {n pc : Nat} {L : List (Option Value)} {st : List Value} {w : mW} {G : mG} {v : Value} (d : decode (mB y) pc = .ok (.dup, 1)) (hv : v.category = 1) (k : Go E y n (pc + 1, L, v :: v :: st, w) G) : Go E y n (pc, L, v :: st, w) G := by
  intro ad p e R s m args below meth c A C cells slots QQ hc hs hT H locs ls hw hl
  exact lv_dup C.1 C.2.1 d ((mcV_cat ad v).trans hv) (k ad p e R s m args below meth c A C cells slots QQ hc hs hT H locs ls hw hl)
theorem g_pop {E : mEnv} {y : mM} {n pc : Nat} {L : List (Option Value)} {st : List Value} {w : mW} {G : mG} {v : Value} (d : decode (mB y) pc = .ok (.pop, 1)) (hv : v.category = 1) (k : Go E y n (pc + 1, L, st, w) G) : Go E y n (pc, L, v :: st, w) G := by
  intro ad p e R s m args below meth c A C cells slots QQ hc hs hT H locs ls hw hl
  exact lv_pop C.1 C.2.1 d ((mcV_cat ad v).trans hv) (k ad p e R s m args below meth c A C cells slots QQ hc hs hT H locs ls hw hl)
theorem g_dup2_11 {E : mEnv} {y : mM} {n pc : Nat} {L : List (Option Value)} {st : List Value} {w : mW} {G : mG} {u v : Value} (d : decode (mB y) pc = .ok (.dup2, 1)) (hu : u.category = 1) (hv : v.category = 1) (k : Go E y n (pc + 1, L, u :: v :: u :: v :: st, w) G) : Go E y n (pc, L, u :: v :: st, w) G := by
  intro ad p e R s m args below meth c A C cells slots QQ hc hs hT H locs ls hw hl
  exact lv_dup2_11 C.1 C.2.1 d ((mcV_cat ad u).trans hu) ((mcV_cat ad v).trans hv) (k ad p e R s m args below meth c A C cells slots QQ hc hs hT H locs ls hw hl)
theorem g_if_eq {E : mEnv} {y : mM} {n pc : Nat} {L : List (Option Value)} {st : List Value} {w : mW} {G : mG} {x : Int32} {off : Int} {tgt : Nat} (d : decode (mB y) pc = .ok (.ifCond .eq off, 3)) (ht : (pc : Int) + off = (tgt : Int)) (kt : x = 0 → Go E y n (tgt, L, st, w) G) (kf : ¬ x = 0 → Go E y n (pc + 3, L, st, w) G) : Go E y n (pc, L, .int x :: st, w) G := by
  intro ad p e R s m args below meth c A C cells slots QQ hc hs hT H locs ls hw hl
  exact lv_if_eq C.1 C.2.1 d ht (fun h => kt h ad p e R s m args below meth c A C cells slots QQ hc hs hT H locs ls hw hl) (fun h => kf h ad p e R s m args below meth c A C cells slots QQ hc hs hT H locs ls hw hl)
theorem g_if_ne {E : mEnv} {y : mM} {n pc : Nat} {L : List (Option Value)} {st : List Value} {w : mW} {G : mG} {x : Int32} {off : Int} {tgt : Nat} (d : decode (mB y) pc = .ok (.ifCond .ne off, 3)) (ht : (pc : Int) + off = (tgt : Int)) (kt : ¬ x = 0 → Go E y n (tgt, L, st, w) G) (kf : x = 0 → Go E y n (pc + 3, L, st, w) G) : Go E y n (pc, L, .int x :: st, w) G := by
  intro ad p e R s m args below meth c A C cells slots QQ hc hs hT H locs ls hw hl
  exact lv_if_ne C.1 C.2.1 d ht (fun h => kt h ad p e R s m args below meth c A C cells slots QQ hc hs hT H locs ls hw hl) (fun h => kf h ad p e R s m args below meth c A C cells slots QQ hc hs hT H locs ls hw hl)
theorem g_if_lt {E : mEnv} {y : mM} {n pc : Nat} {L : List (Option Value)} {st : List Value} {w : mW} {G : mG} {x : Int32} {off : Int} {tgt : Nat} (d : decode (mB y) pc = .ok (.ifCond .lt off, 3)) (ht : (pc : Int) + off = (tgt : Int)) (kt : x < 0 → Go E y n (tgt, L, st, w) G) (kf : ¬ x < 0 → Go E y n (pc + 3, L, st, w) G) : Go E y n (pc, L, .int x :: st, w) G := by
  intro ad p e R s m args below meth c A C cells slots QQ hc hs hT H locs ls hw hl
  exact lv_if_lt C.1 C.2.1 d ht (fun h => kt h ad p e R s m args below meth c A C cells slots QQ hc hs hT H locs ls hw hl) (fun h => kf h ad p e R s m args below meth c A C cells slots QQ hc hs hT H locs ls hw hl)
theorem g_if_ge {E : mEnv} {y : mM} {n pc : Nat} {L : List (Option Value)} {st : List Value} {w : mW} {G : mG} {x : Int32} {off : Int} {tgt : Nat} (d : decode (mB y) pc = .ok (.ifCond .ge off, 3)) (ht : (pc : Int) + off = (tgt : Int)) (kt : 0 ≤ x → Go E y n (tgt, L, st, w) G) (kf : ¬ 0 ≤ x → Go E y n (pc + 3, L, st, w) G) : Go E y n (pc, L, .int x :: st, w) G := by
  intro ad p e R s m args below meth c A C cells slots QQ hc hs hT H locs ls hw hl
  exact lv_if_ge C.1 C.2.1 d ht (fun h => kt h ad p e R s m args below meth c A C cells slots QQ hc hs hT H locs ls hw hl) (fun h => kf h ad p e R s m args below meth c A C cells slots QQ hc hs hT H locs ls hw hl)
theorem g_if_gt {E : mEnv} {y : mM} {n pc : Nat} {L : List (Option Value)} {st : List Value} {w : mW} {G : mG} {x : Int32} {off : Int} {tgt : Nat} (d : decode (mB y) pc = .ok (.ifCond .gt off, 3)) (ht : (pc : Int) + off = (tgt : Int)) (kt : 0 < x → Go E y n (tgt, L, st, w) G) (kf : ¬ 0 < x → Go E y n (pc + 3, L, st, w) G) : Go E y n (pc, L, .int x :: st, w) G := by
  intro ad p e R s m args below meth c A C cells slots QQ hc hs hT H locs ls hw hl
  exact lv_if_gt C.1 C.2.1 d ht (fun h => kt h ad p e R s m args below meth c A C cells slots QQ hc hs hT H locs ls hw hl) (fun h => kf h ad p e R s m args below meth c A C cells slots QQ hc hs hT H locs ls hw hl)
theorem g_if_le {E : mEnv} {y : mM} {n pc : Nat} {L : List (Option Value)} {st : List Value} {w : mW} {G : mG} {x : Int32} {off : Int} {tgt : Nat} (d : decode (mB y) pc = .ok (.ifCond .le off, 3)) (ht : (pc : Int) + off = (tgt : Int)) (kt : x ≤ 0 → Go E y n (tgt, L, st, w) G) (kf : ¬ x ≤ 0 → Go E y n (pc + 3, L, st, w) G) : Go E y n (pc, L, .int x :: st, w) G := by
  intro ad p e R s m args below meth c A C cells slots QQ hc hs hT H locs ls hw hl
  exact lv_if_le C.1 C.2.1 d ht (fun h => kt h ad p e R s m args below meth c A C cells slots QQ hc hs hT H locs ls hw hl) (fun h => kf h ad p e R s m args below meth c A C cells slots QQ hc hs hT H locs ls hw hl)
theorem g_icmp_eq {E : mEnv} {y : mM} {n pc : Nat} {L : List (Option Value)} {st : List Value} {w : mW} {G : mG} {a b : Int32} {off : Int} {tgt : Nat} (d : decode (mB y) pc = .ok (.if_icmp .eq off, 3)) (ht : (pc : Int) + off = (tgt : Int)) (kt : a = b → Go E y n (tgt, L, st, w) G) (kf : ¬ a = b → Go E y n (pc + 3, L, st, w) G) : Go E y n (pc, L, .int b :: .int a :: st, w) G := by
  intro ad p e R s m args below meth c A C cells slots QQ hc hs hT H locs ls hw hl
  exact lv_icmp_eq C.1 C.2.1 d ht (fun h => kt h ad p e R s m args below meth c A C cells slots QQ hc hs hT H locs ls hw hl) (fun h => kf h ad p e R s m args below meth c A C cells slots QQ hc hs hT H locs ls hw hl)
theorem g_icmp_ne {E : mEnv} {y : mM} {n pc : Nat} {L : List (Option Value)} {st : List Value} {w : mW} {G : mG} {a b : Int32} {off : Int} {tgt : Nat} (d : decode (mB y) pc = .ok (.if_icmp .ne off, 3)) (ht : (pc : Int) + off = (tgt : Int)) (kt : ¬ a = b → Go E y n (tgt, L, st, w) G) (kf : a = b → Go E y n (pc + 3, L, st, w) G) : Go E y n (pc, L, .int b :: .int a :: st, w) G := by
  intro ad p e R s m args below meth c A C cells slots QQ hc hs hT H locs ls hw hl
  exact lv_icmp_ne C.1 C.2.1 d ht (fun h => kt h ad p e R s m args below meth c A C cells slots QQ hc hs hT H locs ls hw hl) (fun h => kf h ad p e R s m args below meth c A C cells slots QQ hc hs hT H locs ls hw hl)
theorem g_icmp_lt {E : mEnv} {y : mM} {n pc : Nat} {L : List (Option Value)} {st : List Value} {w : mW} {G : mG} {a b : Int32} {off : Int} {tgt : Nat} (d : decode (mB y) pc = .ok (.if_icmp .lt off, 3)) (ht : (pc : Int) + off = (tgt : Int)) (kt : a < b → Go E y n (tgt, L, st, w) G) (kf : ¬ a < b → Go E y n (pc + 3, L, st, w) G) : Go E y n (pc, L, .int b :: .int a :: st, w) G := by
  intro ad p e R s m args below meth c A C cells slots QQ hc hs hT H locs ls hw hl
  exact lv_icmp_lt C.1 C.2.1 d ht (fun h => kt h ad p e R s m args below meth c A C cells slots QQ hc hs hT H locs ls hw hl) (fun h => kf h ad p e R s m args below meth c A C cells slots QQ hc hs hT H locs ls hw hl)
theorem g_icmp_ge {E : mEnv} {y : mM} {n pc : Nat} {L : List (Option Value)} {st : List Value} {w : mW} {G : mG} {a b : Int32} {off : Int} {tgt : Nat} (d : decode (mB y) pc = .ok (.if_icmp .ge off, 3)) (ht : (pc : Int) + off = (tgt : Int)) (kt : b ≤ a → Go E y n (tgt, L, st, w) G) (kf : ¬ b ≤ a → Go E y n (pc + 3, L, st, w) G) : Go E y n (pc, L, .int b :: .int a :: st, w) G := by
  intro ad p e R s m args below meth c A C cells slots QQ hc hs hT H locs ls hw hl
  exact lv_icmp_ge C.1 C.2.1 d ht (fun h => kt h ad p e R s m args below meth c A C cells slots QQ hc hs hT H locs ls hw hl) (fun h => kf h ad p e R s m args below meth c A C cells slots QQ hc hs hT H locs ls hw hl)
theorem g_icmp_gt {E : mEnv} {y : mM} {n pc : Nat} {L : List (Option Value)} {st : List Value} {w : mW} {G : mG} {a b : Int32} {off : Int} {tgt : Nat} (d : decode (mB y) pc = .ok (.if_icmp .gt off, 3)) (ht : (pc : Int) + off = (tgt : Int)) (kt : b < a → Go E y n (tgt, L, st, w) G) (kf : ¬ b < a → Go E y n (pc + 3, L, st, w) G) : Go E y n (pc, L, .int b :: .int a :: st, w) G := by
  intro ad p e R s m args below meth c A C cells slots QQ hc hs hT H locs ls hw hl
  exact lv_icmp_gt C.1 C.2.1 d ht (fun h => kt h ad p e R s m args below meth c A C cells slots QQ hc hs hT H locs ls hw hl) (fun h => kf h ad p e R s m args below meth c A C cells slots QQ hc hs hT H locs ls hw hl)
theorem g_icmp_le {E : mEnv} {y : mM} {n pc : Nat} {L : List (Option Value)} {st : List Value} {w : mW} {G : mG} {a b : Int32} {off : Int} {tgt : Nat} (d : decode (mB y) pc = .ok (.if_icmp .le off, 3)) (ht : (pc : Int) + off = (tgt : Int)) (kt : a ≤ b → Go E y n (tgt, L, st, w) G) (kf : ¬ a ≤ b → Go E y n (pc + 3, L, st, w) G) : Go E y n (pc, L, .int b :: .int a :: st, w) G := by
  intro ad p e R s m args below meth c A C cells slots QQ hc hs hT H locs ls hw hl
  exact lv_icmp_le C.1 C.2.1 d ht (fun h => kt h ad p e R s m args below meth c A C cells slots QQ hc hs hT H locs ls hw hl) (fun h => kf h ad p e R s m args below meth c A C cells slots QQ hc hs hT H locs ls hw hl)
theorem g_goto {E : mEnv} {y : mM} {n pc : Nat} {L : List (Option Value)} {st : List Value} {w : mW} {G : mG} {off : Int} {tgt : Nat} (d : decode (mB y) pc = .ok (.goto off, 3)) (ht : (pc : Int) + off = (tgt : Int)) (k : Go E y n (tgt, L, st, w) G) : Go E y n (pc, L, st, w) G := by
  intro ad p e R s m args below meth c A C cells slots QQ hc hs hT H locs ls hw hl
  exact lv_goto C.1 C.2.1 d ht (k ad p e R s m args below meth c A C cells slots QQ hc hs hT H locs ls hw hl)
theorem g_tabOut {E : mEnv} {y : mM} {n pc : Nat} {L : List (Option Value)} {st : List Value} {w : mW} {G : mG} {dflt lo hi : Int} {offs : Array Int} {len : Nat} {x : Int32} {tgt : Nat} (d : decode (mB y) pc = .ok (.tableswitch dflt lo hi offs, len)) (h : x.toInt < lo ∨ hi < x.toInt) (ht : (pc : Int) + dflt = (tgt : Int)) (k : Go E y n (tgt, L, st, w) G) : Go E y n (pc, L, .int x :: st, w) G := by
  intro ad p e R s m args below meth c A C cells slots QQ hc hs hT H locs ls hw hl
  exact lv_tableOut C.1 C.2.1 d h ht (k ad p e R s m args below meth c A C cells slots QQ hc hs hT H locs ls hw hl)
theorem g_tabIn {E : mEnv} {y : mM} {n pc : Nat} {L : List (Option Value)} {st : List Value} {w : mW} {G : mG} {dflt lo hi off : Int} {offs : Array Int} {len : Nat} {x : Int32} {tgt : Nat} (d : decode (mB y) pc = .ok (.tableswitch dflt lo hi offs, len)) (h1 : ¬ x.toInt < lo) (h2 : ¬ hi < x.toInt) (ho : offs[(x.toInt - lo).toNat]? = some off) (ht : (pc : Int) + off = (tgt : Int)) (k : Go E y n (tgt, L, st, w) G) : Go E y n (pc, L, .int x :: st, w) G := by
  intro ad p e R s m args below meth c A C cells slots QQ hc hs hT H locs ls hw hl
  exact lv_tableIn C.1 C.2.1 d h1 h2 ho ht (k ad p e R s m args below meth c A C cells slots QQ hc hs hT H locs ls hw hl)
theorem g_lookup {E : mEnv} {y : mM} {n pc : Nat} {L : List (Option Value)} {st : List Value} {w : mW} {G : mG} {dflt off : Int} {ps : Array (Int × Int)} {len : Nat} {x : Int32} {tgt : Nat} (d : decode (mB y) pc = .ok (.lookupswitch dflt ps, len)) (hp : (ps.toList.zip (ps.toList.drop 1)).all (fun (a, next) => a.1 < next.1) = true) (ho : Op.lookupswitch.offset ps.toList dflt x.toInt = off) (ht : (pc : Int) + off = (tgt : Int)) (k : Go E y n (tgt, L, st, w) G) : Go E y n (pc, L, .int x :: st, w) G := by
  intro ad p e R s m args below meth c A C cells slots QQ hc hs hT H locs ls hw hl
  exact lv_lookup C.1 C.2.1 d hp ho ht (k ad p e R s m args below meth c A C cells slots QQ hc hs hT H locs ls hw hl)
theorem va_strEv {own : String} {k a : Nat} {args : Array Value} {U : State} (h : (Term.string own k).eval #[] U none [] U = some (.ref a)) : (Term.string own k).eval args U none [] U = some (.ref a) := by
  rw [← h]
  exact Term.string_eval_of_vm (args := args) (args' := #[]) rfl
theorem g_ldc2 {E : mEnv} {y : mM} {n pc : Nat} {L : List (Option Value)} {st : List Value} {w : mW} {G : mG} {ix : Nat} {v : Int64} (d : decode (mB y) pc = .ok (.ldc2_w ix, 3)) (hw' : Cond.constantLong (mN y).cls ix v ∈ mTBL) (k : Go E y n (pc + 3, L, .long v :: st, w) G) : Go E y n (pc, L, st, w) G := by
  intro ad p e R s m args below meth c A C cells slots QQ hc hs hT H locs ls hw hl
  exact lv_ldc2 C.1 C.2.1 C.2.2.2.2.1 (C.2.2.2.2.2.1 _ hw') d (k ad p e R s m args below meth c A C cells slots QQ hc hs hT H locs ls hw hl)
/-- the field k of the class ci, by the place ix of the pool of own -/
def mFld (own : String) (ix ci k : Nat) : Prop := ∃ (C : String) (T : u_T) (N : Nat), vwCl[ci]? = some (C, T, N) ∧ k < N ∧ (∀ wd ∈ u_ws C T N, wd ∈ mTBL) ∧ Cond.fieldLink own ix (T k).1 (T k).2.1 (T k).2.2.1 ∈ mTBL
def mPut (own : String) (ix ci k : Nat) (ty : FieldType) : Prop := ∃ (C : String) (T : u_T) (N : Nat) (t0 : Nat → FieldType), vwCl[ci]? = some (C, T, N) ∧ k < N ∧ (∀ wd ∈ u_ws C T N, wd ∈ mTBL) ∧ Cond.fieldLink own ix (T k).1 (T k).2.1 (T k).2.2.1 ∈ mTBL ∧ (∀ k, k < N → parseFieldDescriptor (T k).2.2.1 = some (t0 k)) ∧ (∀ a, a < N → ∀ b, b < N → a ≠ b → (T a).2.1 ≠ (T b).2.1) ∧ (T k).2.2.2 = false ∧ parseFieldDescriptor (T k).2.2.1 = some ty
theorem g_getf {E : mEnv} {y : mM} {n pc : Nat} {L : List (Option Value)} {st : List Value} {w : mW} {G : mG} {ix ci k0 r : Nat} {fs : List Value} {v : Value} (d : decode (mB y) pc = .ok (.getfield ix, 3)) (hf : mFld (mN y).cls ix ci k0) (hm : mget w r = some (.inr (ci, fs))) (hv : fs[k0]? = some v) (k : Go E y n (pc + 3, L, v :: st, w) G) : Go E y n (pc, L, .ref r :: st, w) G := by
  intro ad p e R s m args below meth c A C cells slots QQ hc hs hT H locs ls hw hl
  obtain ⟨CN, T, N, h1, h2, h3, h4⟩ := hf
  obtain ⟨q0, hq, -⟩ := mcW_at E.2.2.1 ad hm
  exact va_get C.1 C.2.1 C.2.2.2.2.2.1 h3 C.2.2.2.2.1 C.2.2.2.2.2.2.2.2.2.2.1.1 hw.1 q0 hq h1 k0 h2 (C.2.2.2.2.2.1 _ h4) (fun _ h => h) (v := mcV ad v) (by rw [List.getElem?_map, hv]; rfl) d (k ad p e R s m args below meth c A C cells slots QQ hc hs hT H locs ls hw hl)
theorem mWd_put {E : mEnv} {ad : Nat → Nat} {s : State} {A : Nat → Prop} {w : mW} {H1 : Heap} {locs1 : List Loc} {r q0 : Nat} {c c' : mE} (h : ∀ c' : mE, (mcW E.2.2.1 ad w).set q0 (ad r, mcE E.2.2.1 ad c') = mcW E.2.2.1 ad (mset w r c')) (h1 : va_P E.2.1 vwCl ((mcW E.2.2.1 ad w).set q0 (ad r, mcE E.2.2.1 ad c')) H1) (h2 : va_D A ((mcW E.2.2.1 ad w).set q0 (ad r, mcE E.2.2.1 ad c'))) (h3 : va_S A s.heap H1 locs1) : mWd E ad s A (mset w r c') H1 locs1 := by
  rw [h] at h1 h2
  exact ⟨h1, h2, h3⟩
theorem g_putI {E : mEnv} {y : mM} {n pc : Nat} {L : List (Option Value)} {st : List Value} {w : mW} {G : mG} {ix ci k0 r : Nat} {fs : List Value} {x : Int32} {ty : FieldType} {w' : mW} (d : decode (mB y) pc = .ok (.putfield ix, 3)) (hf : mPut (mN y).cls ix ci k0 ty) (hn : narrow ty (.int x) = .int x) (hfit : fits ty (.int x) = true) (hm : mget w r = some (.inr (ci, fs))) (hlen : k0 < fs.length) (hw' : mset w r (.inr (ci, fs.set k0 (.int x))) = w') (k : Go E y n (pc + 3, L, st, w') G) : Go E y n (pc, L, .int x :: .ref r :: st, w) G := by
  intro ad p e R s m args below meth c A C cells slots QQ hc hs hT H locs ls hw hl
  subst hw'
  obtain ⟨CN, T, N, t0, h1, h2, h3, h4, h5, h6, h7, h8⟩ := hf
  obtain ⟨q0, hq, hset⟩ := mcW_at E.2.2.1 ad hm
  refine va_put C.1 C.2.1 C.2.2.2.2.2.1 h3 t0 h5 h6 C.2.2.2.2.1 C.2.2.2.2.2.2.2.2.2.2.1.1 hw.1 hw.2.1 hw.2.2 q0 hq h1 k0 h2 (C.2.2.2.2.2.1 _ h4) (fun _ h => h) h7 h8 hn hfit (by rw [List.length_map]; exact hlen) d (fun H1 locs1 g1 g2 g3 => k ad p e R s m args below meth c A C cells slots QQ hc hs hT H1 locs1 ls (mWd_put (c := .inr (ci, fs)) (c' := .inr (ci, fs.set k0 (.int x))) hset ?_ ?_ g3) hl)
  · have e : mcE E.2.2.1 ad (.inr (ci, fs.set k0 (.int x))) = .inr (ci, (fs.map (mcV ad)).set k0 (.int x)) := by simp [mcE, List.map_set, mcV]
    rw [e]; exact g1
  · have e : mcE E.2.2.1 ad (.inr (ci, fs.set k0 (.int x))) = .inr (ci, (fs.map (mcV ad)).set k0 (.int x)) := by simp [mcE, List.map_set, mcV]
    rw [e]; exact g2
theorem g_putL {E : mEnv} {y : mM} {n pc : Nat} {L : List (Option Value)} {st : List Value} {w : mW} {G : mG} {ix ci k0 r : Nat} {fs : List Value} {x : Int64} {ty : FieldType} {w' : mW} (d : decode (mB y) pc = .ok (.putfield ix, 3)) (hf : mPut (mN y).cls ix ci k0 ty) (hn : narrow ty (.long x) = .long x) (hfit : fits ty (.long x) = true) (hm : mget w r = some (.inr (ci, fs))) (hlen : k0 < fs.length) (hw' : mset w r (.inr (ci, fs.set k0 (.long x))) = w') (k : Go E y n (pc + 3, L, st, w') G) : Go E y n (pc, L, .long x :: .ref r :: st, w) G := by
  intro ad p e R s m args below meth c A C cells slots QQ hc hs hT H locs ls hw hl
  subst hw'
  obtain ⟨CN, T, N, t0, h1, h2, h3, h4, h5, h6, h7, h8⟩ := hf
  obtain ⟨q0, hq, hset⟩ := mcW_at E.2.2.1 ad hm
  refine va_put C.1 C.2.1 C.2.2.2.2.2.1 h3 t0 h5 h6 C.2.2.2.2.1 C.2.2.2.2.2.2.2.2.2.2.1.1 hw.1 hw.2.1 hw.2.2 q0 hq h1 k0 h2 (C.2.2.2.2.2.1 _ h4) (fun _ h => h) h7 h8 hn hfit (by rw [List.length_map]; exact hlen) d (fun H1 locs1 g1 g2 g3 => k ad p e R s m args below meth c A C cells slots QQ hc hs hT H1 locs1 ls (mWd_put (c := .inr (ci, fs)) (c' := .inr (ci, fs.set k0 (.long x))) hset ?_ ?_ g3) hl)
  · have e : mcE E.2.2.1 ad (.inr (ci, fs.set k0 (.long x))) = .inr (ci, (fs.map (mcV ad)).set k0 (.long x)) := by simp [mcE, List.map_set, mcV]
    rw [e]; exact g1
  · have e : mcE E.2.2.1 ad (.inr (ci, fs.set k0 (.long x))) = .inr (ci, (fs.map (mcV ad)).set k0 (.long x)) := by simp [mcE, List.map_set, mcV]
    rw [e]; exact g2
theorem g_iald {E : mEnv} {y : mM} {n pc : Nat} {L : List (Option Value)} {st : List Value} {w : mW} {G : mG} {r len : Nat} {f : Nat → Int32} {i : Int32} (d : decode (mB y) pc = .ok (.iaload, 1)) (hm : mget w r = some (.inl (0, len, .inl f))) (hin : vp_in i len) (k : Go E y n (pc + 1, L, .int (f i.toNatClampNeg) :: st, w) G) : Go E y n (pc, L, .int i :: .ref r :: st, w) G := by
  intro ad p e R s m args below meth c A C cells slots QQ hc hs hT H locs ls hw hl
  obtain ⟨q0, hq, -⟩ := mcW_at E.2.2.1 ad hm
  exact va_iald C.1 C.2.1 C.2.2.2.2.2.2.2.2.2.2.1.1 hw.1 q0 0 hq rfl hin d (k ad p e R s m args below meth c A C cells slots QQ hc hs hT H locs ls hw hl)
theorem g_lald {E : mEnv} {y : mM} {n pc : Nat} {L : List (Option Value)} {st : List Value} {w : mW} {G : mG} {r len : Nat} {f : Nat → Int64} {i : Int32} (d : decode (mB y) pc = .ok (.laload, 1)) (hm : mget w r = some (.inl (1, len, .inr (.inl f)))) (hin : vp_in i len) (k : Go E y n (pc + 1, L, .long (f i.toNatClampNeg) :: st, w) G) : Go E y n (pc, L, .int i :: .ref r :: st, w) G := by
  intro ad p e R s m args below meth c A C cells slots QQ hc hs hT H locs ls hw hl
  obtain ⟨q0, hq, -⟩ := mcW_at E.2.2.1 ad hm
  exact va_lald C.1 C.2.1 C.2.2.2.2.2.2.2.2.2.2.1.1 hw.1 q0 1 hq rfl hin d (k ad p e R s m args below meth c A C cells slots QQ hc hs hT H locs ls hw hl)
theorem g_cald {E : mEnv} {y : mM} {n pc : Nat} {L : List (Option Value)} {st : List Value} {w : mW} {G : mG} {r len : Nat} {f : Nat → Int32} {i : Int32} (d : decode (mB y) pc = .ok (.caload, 1)) (hm : mget w r = some (.inl (2, len, .inl f))) (hin : vp_in i len) (k : Go E y n (pc + 1, L, .int (f i.toNatClampNeg) :: st, w) G) : Go E y n (pc, L, .int i :: .ref r :: st, w) G := by
  intro ad p e R s m args below meth c A C cells slots QQ hc hs hT H locs ls hw hl
  obtain ⟨q0, hq, -⟩ := mcW_at E.2.2.1 ad hm
  exact va_cald C.1 C.2.1 C.2.2.2.2.2.2.2.2.2.2.1.1 hw.1 q0 2 hq rfl hin d (k ad p e R s m args below meth c A C cells slots QQ hc hs hT H locs ls hw hl)
theorem g_zald {E : mEnv} {y : mM} {n pc : Nat} {L : List (Option Value)} {st : List Value} {w : mW} {G : mG} {r len : Nat} {f : Nat → Int32} {i : Int32} (d : decode (mB y) pc = .ok (.baload, 1)) (hm : mget w r = some (.inl (3, len, .inl f))) (hin : vp_in i len) (k : Go E y n (pc + 1, L, .int (f i.toNatClampNeg) :: st, w) G) : Go E y n (pc, L, .int i :: .ref r :: st, w) G := by
  intro ad p e R s m args below meth c A C cells slots QQ hc hs hT H locs ls hw hl
  obtain ⟨q0, hq, -⟩ := mcW_at E.2.2.1 ad hm
  exact va_zald C.1 C.2.1 C.2.2.2.2.2.2.2.2.2.2.1.1 hw.1 q0 3 hq rfl hin d (k ad p e R s m args below meth c A C cells slots QQ hc hs hT H locs ls hw hl)
theorem g_iast {E : mEnv} {y : mM} {n pc : Nat} {L : List (Option Value)} {st : List Value} {w : mW} {G : mG} {r len : Nat} {f : Nat → Int32} {i : Int32} {x : Int32} {w' : mW} (d : decode (mB y) pc = .ok (.iastore, 1)) (hm : mget w r = some (.inl (0, len, .inl f))) (hin : vp_in i len) (hw' : mset w r (.inl (0, len, .inl (upd f i.toNatClampNeg x))) = w') (k : Go E y n (pc + 1, L, st, w') G) : Go E y n (pc, L, .int x :: .int i :: .ref r :: st, w) G := by
  intro ad p e R s m args below meth c A C cells slots QQ hc hs hT H locs ls hw hl
  subst hw'
  obtain ⟨q0, hq, hset⟩ := mcW_at E.2.2.1 ad hm
  exact va_iast C.1 C.2.1 C.2.2.2.2.2.2.2.2.2.2.1.1 hw.1 hw.2.1 hw.2.2 q0 0 hq rfl hin d (fun H1 locs1 g1 g2 g3 => k ad p e R s m args below meth c A C cells slots QQ hc hs hT H1 locs1 ls (mWd_put (c := .inl (0, len, .inl f)) (c' := .inl (0, len, .inl (upd f i.toNatClampNeg x))) hset g1 g2 g3) hl)
theorem g_last {E : mEnv} {y : mM} {n pc : Nat} {L : List (Option Value)} {st : List Value} {w : mW} {G : mG} {r len : Nat} {f : Nat → Int64} {i : Int32} {x : Int64} {w' : mW} (d : decode (mB y) pc = .ok (.lastore, 1)) (hm : mget w r = some (.inl (1, len, .inr (.inl f)))) (hin : vp_in i len) (hw' : mset w r (.inl (1, len, .inr (.inl (vp_updL f i.toNatClampNeg x)))) = w') (k : Go E y n (pc + 1, L, st, w') G) : Go E y n (pc, L, .long x :: .int i :: .ref r :: st, w) G := by
  intro ad p e R s m args below meth c A C cells slots QQ hc hs hT H locs ls hw hl
  subst hw'
  obtain ⟨q0, hq, hset⟩ := mcW_at E.2.2.1 ad hm
  exact va_last C.1 C.2.1 C.2.2.2.2.2.2.2.2.2.2.1.1 hw.1 hw.2.1 hw.2.2 q0 1 hq rfl hin d (fun H1 locs1 g1 g2 g3 => k ad p e R s m args below meth c A C cells slots QQ hc hs hT H1 locs1 ls (mWd_put (c := .inl (1, len, .inr (.inl f))) (c' := .inl (1, len, .inr (.inl (vp_updL f i.toNatClampNeg x)))) hset g1 g2 g3) hl)
theorem g_cast {E : mEnv} {y : mM} {n pc : Nat} {L : List (Option Value)} {st : List Value} {w : mW} {G : mG} {r len : Nat} {f : Nat → Int32} {i : Int32} {x : Int32} {w' : mW} (d : decode (mB y) pc = .ok (.castore, 1)) (hm : mget w r = some (.inl (2, len, .inl f))) (hin : vp_in i len) (hw' : mset w r (.inl (2, len, .inl (upd f i.toNatClampNeg (vp_nar .char x)))) = w') (k : Go E y n (pc + 1, L, st, w') G) : Go E y n (pc, L, .int x :: .int i :: .ref r :: st, w) G := by
  intro ad p e R s m args below meth c A C cells slots QQ hc hs hT H locs ls hw hl
  subst hw'
  obtain ⟨q0, hq, hset⟩ := mcW_at E.2.2.1 ad hm
  exact va_cast C.1 C.2.1 C.2.2.2.2.2.2.2.2.2.2.1.1 hw.1 hw.2.1 hw.2.2 q0 2 hq rfl hin d (fun H1 locs1 g1 g2 g3 => k ad p e R s m args below meth c A C cells slots QQ hc hs hT H1 locs1 ls (mWd_put (c := .inl (2, len, .inl f)) (c' := .inl (2, len, .inl (upd f i.toNatClampNeg (vp_nar .char x)))) hset g1 g2 g3) hl)
theorem g_zast {E : mEnv} {y : mM} {n pc : Nat} {L : List (Option Value)} {st : List Value} {w : mW} {G : mG} {r len : Nat} {f : Nat → Int32} {i : Int32} {x : Int32} {w' : mW} (d : decode (mB y) pc = .ok (.bastore, 1)) (hm : mget w r = some (.inl (3, len, .inl f))) (hin : vp_in i len) (hw' : mset w r (.inl (3, len, .inl (upd f i.toNatClampNeg (vp_nar .boolean x)))) = w') (k : Go E y n (pc + 1, L, st, w') G) : Go E y n (pc, L, .int x :: .int i :: .ref r :: st, w) G := by
  intro ad p e R s m args below meth c A C cells slots QQ hc hs hT H locs ls hw hl
  subst hw'
  obtain ⟨q0, hq, hset⟩ := mcW_at E.2.2.1 ad hm
  exact va_zast C.1 C.2.1 C.2.2.2.2.2.2.2.2.2.2.1.1 hw.1 hw.2.1 hw.2.2 q0 3 hq rfl hin d (fun H1 locs1 g1 g2 g3 => k ad p e R s m args below meth c A C cells slots QQ hc hs hT H1 locs1 ls (mWd_put (c := .inl (3, len, .inl f)) (c' := .inl (3, len, .inl (upd f i.toNatClampNeg (vp_nar .boolean x)))) hset g1 g2 g3) hl)
theorem g_alen {E : mEnv} {y : mM} {n pc : Nat} {L : List (Option Value)} {st : List Value} {w : mW} {G : mG} {r t : Nat} {x : vp_A} {v : Int32} (d : decode (mB y) pc = .ok (.arraylength, 1)) (hm : mget w r = some (.inl (t, x))) (ht : t < 4) (hv : Int32.ofNat x.1 = v) (k : Go E y n (pc + 1, L, .int v :: st, w) G) : Go E y n (pc, L, .ref r :: st, w) G := by
  intro ad p e R s m args below meth c A C cells slots QQ hc hs hT H locs ls hw hl
  obtain ⟨q0, hq, -⟩ := mcW_at E.2.2.1 ad hm
  have ht' : ∃ ty, (mTy E.2.2.1)[t]? = some (E.2.2.1 t, ty) := by
    match t, ht with
    | 0, _ => exact ⟨_, rfl⟩
    | 1, _ => exact ⟨_, rfl⟩
    | 2, _ => exact ⟨_, rfl⟩
    | 3, _ => exact ⟨_, rfl⟩
  obtain ⟨ty, hty⟩ := ht'
  exact va_alen C.1 C.2.1 C.2.2.2.2.2.2.2.2.2.2.1.1 hw.1 q0 t hq hty hv d (k ad p e R s m args below meth c A C cells slots QQ hc hs hT H locs ls hw hl)
theorem g_ret {E : mEnv} {y : mM} {n pc : Nat} {L : List (Option Value)} {st : List Value} {w : mW} {i : Instr} {v : Option Value} (d : decode (mB y) pc = .ok (i, 1)) (hr : mRet i (mT y) v) (hst : st = v.toList) : Go E y n (pc, L, st, w) (.inr (.inl (v, w))) := by
  intro ad p e R s m args below meth c A C cells slots QQ hc hs hT H locs ls hw hl
  subst hst
  exact W.widen (by omega) (by omega) (hT H locs ls pc i hw d hr)
theorem g_end {E : mEnv} {y : mM} {n pc : Nat} {L : List (Option Value)} {st : List Value} {w : mW} {S : mS} (hS : (pc, L, st, w) = S) : Go E y n (pc, L, st, w) (.inl S) := by
  subst hS
  intro ad p e R s m args below meth c A C cells slots QQ hc hs hT H locs ls hw hl
  exact W.widen (by omega) (by omega) (hT H locs ls hw hl)
theorem g_throw {E : mEnv} {y : mM} {n pc : Nat} {L : List (Option Value)} {st : List Value} {w : mW} {X : String} (ht : mThr y pc X) (hcat : Nat.ble ((st.map fun v => v.category).sum) 8 = true) : Go E y (n + 1) (pc, L, st, w) (.inr (.inr (X, w))) := by
  intro ad p e R s m args below meth c A C cells slots QQ hc hs hT H locs ls hw hl
  exact hT.1 H locs ls pc _ cells slots hw hl.1 ht (by rw [mcV_cats]; exact Nat.le_of_ble_eq_true hcat) (by omega) (by omega)
theorem Go.widen {E : mEnv} {y : mM} {n n' : Nat} {S : mS} {G : mG} (h : Go E y n S G) (hn : n ≤ n') : Go E y n' S G := by
  intro ad p e R s m args below meth c A C cells slots QQ hc hs hT
  refine h ad p e R s m args below meth c A C cells slots QQ (by omega) (by omega) ?_
  match G, hT with
  | .inl S1, hT => intro H locs ls hw hl; exact W.widen (by omega) (by omega) (hT H locs ls hw hl)
  | .inr (.inl (v, w)), hT => intro H locs ls pc i hw hd hr; exact W.widen (by omega) (by omega) (hT H locs ls pc i hw hd hr)
  | .inr (.inr (X, w)), hT => exact ⟨fun H locs ls pc st c1 s1 hw h1 h2 h3 h4 h5 => hT.1 H locs ls pc st c1 s1 hw h1 h2 h3 (by omega) (by omega), fun H locs ls pc st q ce hw h1 h2 h3 => vx_widen (by omega) (by omega) (hT.2 H locs ls pc st q ce hw h1 h2 h3)⟩
theorem Go.trans {E : mEnv} {y : mM} {n1 n2 : Nat} {S S1 : mS} {G : mG} (h1 : Go E y n1 S (.inl S1)) (h2 : Go E y n2 S1 G) : Go E y (n1 + n2) S G := by
  intro ad p e R s m args below meth c A C cells slots QQ hc hs hT
  refine h1 ad p e R s m args below meth c A C cells slots QQ (by omega) (by omega) ?_
  refine h2 ad p e R s m args below meth c A C (cells + n1) (slots + 6 * n1) QQ (by omega) (by omega) ?_
  rw [show cells + n1 + n2 = cells + (n1 + n2) by omega, show slots + 6 * n1 + 6 * n2 = slots + 6 * (n1 + n2) by omega]
  exact hT
theorem Go.trans0 {E : mEnv} {y : mM} {n : Nat} {S S1 : mS} {G : mG} (h1 : Go E y 0 S (.inl S1)) (h2 : Go E y n S1 G) : Go E y n S G := by
  have := h1.trans h2
  rwa [Nat.zero_add] at this
/-! String constants -/
theorem g_ldcS {E : mEnv} {y : mM} {n pc : Nat} {L : List (Option Value)} {st : List Value} {w : mW} {G : mG} {ix j : Nat} {text : String} {byt : List Int32} (d : decode (mB y) pc = .ok (.ldc ix, 2)) (hq : ((mN y).cls, ix, j, byt) ∈ mSC) (ht : ((mN y).cls, ix, text) ∈ mStrs) (k : Go E y n (pc + 2, L, .ref (1000 + j) :: st, w) G) : Go E y n (pc, L, st, w) G := by
  intro ad p e R s m args below meth c A C cells slots QQ hc hs hT H locs ls hw hl
  have h1 := (C.2.2.2.2.2.2.2.2.2.2.2.2.1.1 _ hq).1
  have h2 := C.2.2.2.2.2.2.2.2.2.2.1.2.2.1 _ ht
  refine va_ldcS C.1 C.2.1 C.2.2.2.2.1 h2 d ?_
  have h3 := k ad p e R s m args below meth c A C cells slots QQ hc hs hT H locs ls hw hl
  rw [← h1]
  exact h3
theorem g_ldcSW {E : mEnv} {y : mM} {n pc : Nat} {L : List (Option Value)} {st : List Value} {w : mW} {G : mG} {ix j : Nat} {text : String} {byt : List Int32} (d : decode (mB y) pc = .ok (.ldc_w ix, 3)) (hq : ((mN y).cls, ix, j, byt) ∈ mSC) (ht : ((mN y).cls, ix, text) ∈ mStrs) (k : Go E y n (pc + 3, L, .ref (1000 + j) :: st, w) G) : Go E y n (pc, L, st, w) G := by
  intro ad p e R s m args below meth c A C cells slots QQ hc hs hT H locs ls hw hl
  have h1 := (C.2.2.2.2.2.2.2.2.2.2.2.2.1.1 _ hq).1
  have h2 := C.2.2.2.2.2.2.2.2.2.2.1.2.2.1 _ ht
  have h3 := k ad p e R s m args below meth c A C cells slots QQ hc hs hT H locs ls hw hl
  intro T hT0 X
  obtain ⟨t, a1, b1⟩ := h3 T hT0 X
  refine ⟨t, X.ldcStringW C.1 (text := text) C.2.2.2.2.1 h2.1 (va_strEv h2.2) (g := F0 m pc ls _) rfl (by rw [C.2.1]; exact d) t ?_, b1⟩
  have e9 : mcV ad (.ref (1000 + j)) = .ref (E.2.2.2.1 (mN y).cls ix) := by show Value.ref (ad (1000 + j)) = _; rw [h1]
  have e8 : (((pc + 3, L, Value.ref (1000 + j) :: st, w) : mS).2.2.1).map (mcV ad) = .ref (E.2.2.2.1 (mN y).cls ix) :: st.map (mcV ad) := by
    show mcV ad (.ref (1000 + j)) :: st.map (mcV ad) = _
    rw [e9]
  rw [e8] at a1
  exact a1
theorem mStr (E : mEnv) {A : Nat → Prop} {U : State} {H : Heap} (h : mSt E A U H) {q : String × Nat × Nat × List Int32} (hq : q ∈ mSC) : va_O "java/lang/String" (E.2.2.2.1 q.1 q.2.1) A U H ∧ va_OF "java/lang/String" "coder" "B" (.int 0) (E.2.2.2.1 q.1 q.2.1) A U H ∧ va_OF "java/lang/String" "value" "[B" (.ref (E.2.2.2.2.1 q.1 q.2.1)) (E.2.2.2.1 q.1 q.2.1) A U H ∧ va_T .byte (E.2.2.2.2.1 q.1 q.2.1) q.2.2.2.length (fun j => .int (q.2.2.2.getD j 0)) A U H := by
  obtain ⟨-, -, -, -, -, -, -, -, h9, -⟩ := h
  have h1 := (h9 q hq).1 0 (by decide)
  exact h1
/-- value and coder of a String constant -/
theorem g_sval {E : mEnv} {y : mM} {n pc : Nat} {L : List (Option Value)} {st : List Value} {w : mW} {G : mG} {ix : Nat} {q : String × Nat × Nat × List Int32} (d : decode (mB y) pc = .ok (.getfield ix, 3)) (hf : Cond.fieldLink (mN y).cls ix "java/lang/String" "value" "[B" ∈ mTBL) (hq : q ∈ mSC) {r : Nat} (hr : r = 1000 + q.2.2.1) {r' : Nat} (hr' : r' = 1100 + q.2.2.1) (k : Go E y n (pc + 3, L, .ref r' :: st, w) G) : Go E y n (pc, L, .ref r :: st, w) G := by
  intro ad p e R s m args below meth c A C cells slots QQ hc hs hT H locs ls hw hl
  subst hr; subst hr'
  have had := C.2.2.2.2.2.2.2.2.2.2.2.2.1.1 _ hq
  have hz := mStr E C.2.2.2.2.2.2.2.2.2.2.1 hq
  have h3 : W p E.1 e R s m args below meth c H locs cells slots QQ (F0 m (pc + 3) ls (.ref (ad (1100 + q.2.2.1)) :: st.map (mcV ad))) := k ad p e R s m args below meth c A C cells slots QQ hc hs hT H locs ls hw hl
  show W p E.1 e R s m args below meth c H locs cells slots QQ (F0 m pc ls (.ref (ad (1000 + q.2.2.1)) :: st.map (mcV ad)))
  rw [had.1]
  rw [had.2] at h3
  exact vk_getf C.1 C.2.1 hz.2.2.1 hw.2.2 C.2.2.2.2.1 (C.2.2.2.2.2.1 _ hf) (fun _ h => h) d h3
theorem g_scod {E : mEnv} {y : mM} {n pc : Nat} {L : List (Option Value)} {st : List Value} {w : mW} {G : mG} {ix : Nat} {q : String × Nat × Nat × List Int32} (d : decode (mB y) pc = .ok (.getfield ix, 3)) (hf : Cond.fieldLink (mN y).cls ix "java/lang/String" "coder" "B" ∈ mTBL) (hq : q ∈ mSC) {r : Nat} (hr : r = 1000 + q.2.2.1) (k : Go E y n (pc + 3, L, .int 0 :: st, w) G) : Go E y n (pc, L, .ref r :: st, w) G := by
  intro ad p e R s m args below meth c A C cells slots QQ hc hs hT H locs ls hw hl
  subst hr
  have had := C.2.2.2.2.2.2.2.2.2.2.2.2.1.1 _ hq
  have hz := mStr E C.2.2.2.2.2.2.2.2.2.2.1 hq
  show W p E.1 e R s m args below meth c H locs cells slots QQ (F0 m pc ls (.ref (ad (1000 + q.2.2.1)) :: st.map (mcV ad)))
  rw [had.1]
  exact vk_getf C.1 C.2.1 hz.2.1 hw.2.2 C.2.2.2.2.1 (C.2.2.2.2.2.1 _ hf) (fun _ h => h) d (k ad p e R s m args below meth c A C cells slots QQ hc hs hT H locs ls hw hl)
theorem g_scomp {E : mEnv} {y : mM} {n pc : Nat} {L : List (Option Value)} {st : List Value} {w : mW} {G : mG} {ix : Nat} (d : decode (mB y) pc = .ok (.getstatic ix, 3)) (hf : Cond.fieldLink (mN y).cls ix "java/lang/String" "COMPACT_STRINGS" "Z" ∈ mTBL) (k : Go E y n (pc + 3, L, .int 1 :: st, w) G) : Go E y n (pc, L, st, w) G := by
  intro ad p e R s m args below meth c A C cells slots QQ hc hs hT H locs ls hw hl
  obtain ⟨-, -, -, -, -, -, -, -, -, h10, -⟩ := C.2.2.2.2.2.2.2.2.2.2.1
  exact va_gets C.1 C.2.1 h10 hw.2.2 C.2.2.2.2.1 (C.2.2.2.2.2.1 _ hf) (fun _ h => h) d (k ad p e R s m args below meth c A C cells slots QQ hc hs hT H locs ls hw hl)
def mFm (E : mEnv) : Value := match E.2.2.2.2.2 with
  | none => .null
  | some _ => .ref 1300
theorem g_sfmt {E : mEnv} {y : mM} {n pc : Nat} {L : List (Option Value)} {st : List Value} {w : mW} {G : mG} {ix : Nat} (d : decode (mB y) pc = .ok (.getstatic ix, 3)) (hf : Cond.fieldLink (mN y).cls ix "jdk/internal/util/Preconditions" "SIOOBE_FORMATTER" "Ljava/util/function/BiFunction;" ∈ mTBL) (k : Go E y n (pc + 3, L, mFm E :: st, w) G) : Go E y n (pc, L, st, w) G := by
  intro ad p e R s m args below meth c A C cells slots QQ hc hs hT H locs ls hw hl
  obtain ⟨-, -, -, -, -, -, -, -, -, -, h11⟩ := C.2.2.2.2.2.2.2.2.2.2.1
  have had := C.2.2.2.2.2.2.2.2.2.2.2.2.1.2
  have e9 : mcV ad (mFm E) = va_rf E.2.2.2.2.2 := by
    unfold mFm
    cases hF : E.2.2.2.2.2 with
    | none => rfl
    | some f => show Value.ref (ad 1300) = Value.ref f; rw [had f hF]
  have h3 : W p E.1 e R s m args below meth c H locs cells slots QQ (F0 m (pc + 3) ls (mcV ad (mFm E) :: st.map (mcV ad))) := k ad p e R s m args below meth c A C cells slots QQ hc hs hT H locs ls hw hl
  rw [e9] at h3
  exact va_gets C.1 C.2.1 h11 hw.2.2 C.2.2.2.2.1 (C.2.2.2.2.2.1 _ hf) (fun _ h => h) d h3
theorem g_sald {E : mEnv} {y : mM} {n pc : Nat} {L : List (Option Value)} {st : List Value} {w : mW} {G : mG} {i : Int32} {q : String × Nat × Nat × List Int32} (d : decode (mB y) pc = .ok (.baload, 1)) (hq : q ∈ mSC) {r : Nat} (hr : r = 1100 + q.2.2.1) (hin : vp_in i q.2.2.2.length) (k : Go E y n (pc + 1, L, .int (q.2.2.2.getD i.toNatClampNeg 0) :: st, w) G) : Go E y n (pc, L, .int i :: .ref r :: st, w) G := by
  intro ad p e R s m args below meth c A C cells slots QQ hc hs hT H locs ls hw hl
  subst hr
  have had := C.2.2.2.2.2.2.2.2.2.2.2.2.1.1 _ hq
  have hz := mStr E C.2.2.2.2.2.2.2.2.2.2.1 hq
  show W p E.1 e R s m args below meth c H locs cells slots QQ (F0 m pc ls (.int i :: .ref (ad (1100 + q.2.2.1)) :: st.map (mcV ad)))
  rw [had.2]
  exact va_tb C.1 C.2.1 hz.2.2.2 hw.2.2 hin rfl d (k ad p e R s m args below meth c A C cells slots QQ hc hs hT H locs ls hw hl)
theorem g_slen {E : mEnv} {y : mM} {n pc : Nat} {L : List (Option Value)} {st : List Value} {w : mW} {G : mG} {v : Int32} {q : String × Nat × Nat × List Int32} (d : decode (mB y) pc = .ok (.arraylength, 1)) (hq : q ∈ mSC) {r : Nat} (hr : r = 1100 + q.2.2.1) (hv : Int32.ofNat q.2.2.2.length = v) (k : Go E y n (pc + 1, L, .int v :: st, w) G) : Go E y n (pc, L, .ref r :: st, w) G := by
  intro ad p e R s m args below meth c A C cells slots QQ hc hs hT H locs ls hw hl
  subst hr
  have had := C.2.2.2.2.2.2.2.2.2.2.2.2.1.1 _ hq
  have hz := mStr E C.2.2.2.2.2.2.2.2.2.2.1 hq
  show W p E.1 e R s m args below meth c H locs cells slots QQ (F0 m pc ls (.ref (ad (1100 + q.2.2.1)) :: st.map (mcV ad)))
  rw [had.2]
  exact va_tlen C.1 C.2.1 hz.2.2.2 hw.2.2 hv d (k ad p e R s m args below meth c A C cells slots QQ hc hs hT H locs ls hw hl)
theorem g_i2b {E : mEnv} {y : mM} {n pc : Nat} {L : List (Option Value)} {st : List Value} {w : mW} {G : mG} {a : Int32} (d : decode (mB y) pc = .ok (.i2b, 1)) (k : Go E y n (pc + 1, L, .int a.toInt8.toInt32 :: st, w) G) : Go E y n (pc, L, .int a :: st, w) G := by
  intro ad p e R s m args below meth c A C cells slots QQ hc hs hT H locs ls hw hl
  exact lv_i2b C.1 C.2.1 d rfl (k ad p e R s m args below meth c A C cells slots QQ hc hs hT H locs ls hw hl)
theorem g_mmax {E : mEnv} {y : mM} {n pc : Nat} {L : List (Option Value)} {st : List Value} {w : mW} {G : mG} {a b : Int32} {ix : Nat} (d : decode (mB y) pc = .ok (.invokestatic ix, 3)) (h1 : Cond.methodLink (mN y).cls ix Lib.Math.max.name ∈ mTBL) (h2 : Cond.static Lib.Math.max.name ∈ mTBL) (h3 : Cond.initialized "java/lang/Math" ∈ mTBL) (h4 : Cond.code Lib.Math.max.name Lib.Math.max.code 2 (some .int) ∈ mTBL) (hfr : 1 ≤ mFr y) (hlo : 21 ≤ mLo y) (hcat : Nat.ble ((st.map fun v => v.category).sum) 8 = true) (k : Go E y n (pc + 3, L, .int (if a < b then b else a) :: st, w) G) : Go E y n (pc, L, .int b :: .int a :: st, w) G := by
  intro ad p e R s m args below meth c A C cells slots QQ hc hs hT H locs ls hw hl
  have hcat' : ((st.map (mcV ad)).map fun v => v.category).sum ≤ 8 := by rw [mcV_cats]; exact Nat.le_of_ble_eq_true hcat
  exact va_mmax C.1 C.2.1 (C.2.2.2.1.trans hl.1.symm) C.2.2.2.2.1 (C.2.2.2.2.2.1 _ h1) (C.2.2.2.2.2.1 _ h2) (C.2.2.2.2.2.1 _ h3) (C.2.2.2.2.2.1 _ h4) (Nat.le_trans hfr C.2.2.2.2.2.2.2.1) (Nat.le_trans (Nat.add_le_add_right hcat' 13) (Nat.le_trans hlo C.2.2.2.2.2.2.2.2.1)) (by omega) (by omega) d (k ad p e R s m args below meth c A C cells slots QQ hc hs hT H locs ls hw hl)
theorem g_mmin {E : mEnv} {y : mM} {n pc : Nat} {L : List (Option Value)} {st : List Value} {w : mW} {G : mG} {a b : Int32} {ix : Nat} (d : decode (mB y) pc = .ok (.invokestatic ix, 3)) (h1 : Cond.methodLink (mN y).cls ix Lib.Math.min.name ∈ mTBL) (h2 : Cond.static Lib.Math.min.name ∈ mTBL) (h3 : Cond.initialized "java/lang/Math" ∈ mTBL) (h4 : Cond.code Lib.Math.min.name Lib.Math.min.code 2 (some .int) ∈ mTBL) (hfr : 1 ≤ mFr y) (hlo : 21 ≤ mLo y) (hcat : Nat.ble ((st.map fun v => v.category).sum) 8 = true) (k : Go E y n (pc + 3, L, .int (if b < a then b else a) :: st, w) G) : Go E y n (pc, L, .int b :: .int a :: st, w) G := by
  intro ad p e R s m args below meth c A C cells slots QQ hc hs hT H locs ls hw hl
  have hcat' : ((st.map (mcV ad)).map fun v => v.category).sum ≤ 8 := by rw [mcV_cats]; exact Nat.le_of_ble_eq_true hcat
  exact va_mmin C.1 C.2.1 (C.2.2.2.1.trans hl.1.symm) C.2.2.2.2.1 (C.2.2.2.2.2.1 _ h1) (C.2.2.2.2.2.1 _ h2) (C.2.2.2.2.2.1 _ h3) (C.2.2.2.2.2.1 _ h4) (Nat.le_trans hfr C.2.2.2.2.2.2.2.1) (Nat.le_trans (Nat.add_le_add_right hcat' 13) (Nat.le_trans hlo C.2.2.2.2.2.2.2.2.1)) (by omega) (by omega) d (k ad p e R s m args below meth c A C cells slots QQ hc hs hT H locs ls hw hl)
