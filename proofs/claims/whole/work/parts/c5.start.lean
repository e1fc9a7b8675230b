/-! THE START: what the statement gives of it (printed by gen/pc5.py) -/
def aS (args : Array Value) (s : State) (own : String) (k : Nat) : Addr := match (Term.string own k).eval args s none [] s with
  | some (.ref a) => a
  | _ => 0
def aV (args : Array Value) (s : State) (own : String) (k : Nat) : Addr := match (Term.field (Term.string own k) "java/lang/String" "value" "[B").eval args s none [] s with
  | some (.ref a) => a
  | _ => 0
def aF (args : Array Value) (s : State) : Option Nat := match (Term.static "jdk/internal/util/Preconditions" "SIOOBE_FORMATTER" "Ljava/util/function/BiFunction;").eval args s none [] s with
  | some (.ref a) => some a
  | _ => none
section START
variable {args : Array Value} {s : State}
theorem st_nar (hgv : (Jvm.Cond.and given_1 narrow_1).before args s = true) {i : Nat} {w : Cond} (h : (flatC (Jvm.Cond.and given_1 narrow_1))[i]? = some w) : w.before args s = true := flat_of_before _ hgv _ (List.mem_of_getElem? h)
theorem st_R {own tx : String} {k : Nat} (h1 : (Cond.stringRef own k tx).before args s = true) (h2 : (Cond.exactly (Term.string own k) "java/lang/String").before args s = true) : vk_R own k tx (aS args s own k) s := by
  obtain ⟨a, _, _, _, q1, _⟩ := Cond.exactly_spec (args := args) (first := s) (o := none) (s := s) (idx := []) (t := Term.string own k) (cls := "java/lang/String") h2
  have e : aS args s own k = a := by unfold aS; rw [q1]
  rw [e]; exact vk_R.of h1 q1
theorem st_S {own : String} {k : Nat} {byt : List Int32} {A : Nat → Prop} (hN : byt.length < 2 ^ 31) (hex : (Cond.exactly (Term.string own k) "java/lang/String").before args s = true) (hco : (Cond.eq (.field (Term.string own k) "java/lang/String" "coder" "B") (.int 0)).before args s = true) (har : (Cond.arrayOf (.field (Term.string own k) "java/lang/String" "value" "[B") .byte).before args s = true) (hle : (Cond.eq (.length (.field (Term.string own k) "java/lang/String" "value" "[B")) (.int (Int32.ofNat byt.length))).before args s = true)
    (hel : ∀ j : Nat, j < byt.length → (Cond.eq (.elem (.field (Term.string own k) "java/lang/String" "value" "[B") (.int (Int32.ofNat j))) (.int (byt.getD j 0))).before args s = true) (hA : ∀ a : Nat, a < s.heap.size → ¬ A a) : vk_S 1 [byt.length] [byt] (fun _ => aS args s own k) (fun _ => aV args s own k) A s s.heap := by
  refine ⟨fun i hi => ?_, fun i j hi hj _ => by omega⟩
  obtain rfl : i = 0 := by omega
  obtain ⟨a, c, cA, kA, q1, q2, q3, q4, q5, q6, -⟩ := Cond.exactly_spec (args := args) (first := s) (o := none) (s := s) (idx := []) (t := Term.string own k) (cls := "java/lang/String") hex
  obtain ⟨t, ht, hT⟩ := va_Tof (f := fun j => .int (byt.getD j 0)) (A := A) hN har (va_eqt hle) (fun j hj => va_eqt (hel j hj)) hA
  have e1 : aS args s own k = a := by unfold aS; rw [q1]
  have e2 : aV args s own k = t := by unfold aV; rw [ht]
  show va_O "java/lang/String" (aS args s own k) A s s.heap ∧ va_OF "java/lang/String" "coder" "B" (.int 0) (aS args s own k) A s s.heap ∧ va_OF "java/lang/String" "value" "[B" (.ref (aV args s own k)) (aS args s own k) A s s.heap ∧ va_T .byte (aV args s own k) byt.length (fun j => .int (byt.getD j 0)) A s s.heap
  rw [e1, e2]
  exact ⟨⟨cA, q3, q5, by rw [q6]; exact q2, hA a (Array.getElem?_eq_some_iff.mp q3).1⟩, vk_OFof q1 (va_eqt hco) hA, vk_OFof q1 ht hA, hT⟩
theorem st_nest (hts : ∀ w ∈ lw_tbl, w.before args s = true) : ∀ q ∈ mNest, va_Nw (.methodLinkNest q.1 q.2.1 q.2.2.1 q.2.2.2) s :=
  List.forall_mem_cons.mpr ⟨va_Nw.of rfl (hts _ (tb_3 _ (List.mem_of_getElem? (i := 99) rfl))), List.forall_mem_cons.mpr ⟨va_Nw.of rfl (hts _ (tb_3 _ (List.mem_of_getElem? (i := 133) rfl))), List.forall_mem_cons.mpr ⟨va_Nw.of rfl (hts _ (tb_3 _ (List.mem_of_getElem? (i := 138) rfl))), List.forall_mem_cons.mpr ⟨va_Nw.of rfl (hts _ (tb_3 _ (List.mem_of_getElem? (i := 205) rfl))), List.forall_mem_cons.mpr ⟨va_Nw.of rfl (hts _ (tb_3 _ (List.mem_of_getElem? (i := 220) rfl))), List.forall_mem_cons.mpr ⟨va_Nw.of rfl (hts _ (tb_4 _ (List.mem_of_getElem? (i := 18) rfl))), List.forall_mem_cons.mpr ⟨va_Nw.of rfl (hts _ (tb_4 _ (List.mem_of_getElem? (i := 21) rfl))), List.forall_mem_cons.mpr ⟨va_Nw.of rfl (hts _ (tb_4 _ (List.mem_of_getElem? (i := 101) rfl))), List.forall_mem_cons.mpr ⟨va_Nw.of rfl (hts _ (tb_4 _ (List.mem_of_getElem? (i := 106) rfl))), List.forall_mem_cons.mpr ⟨va_Nw.of rfl (hts _ (tb_4 _ (List.mem_of_getElem? (i := 109) rfl))), List.forall_mem_cons.mpr ⟨va_Nw.of rfl (hts _ (tb_4 _ (List.mem_of_getElem? (i := 116) rfl))), List.forall_mem_cons.mpr ⟨va_Nw.of rfl (hts _ (tb_4 _ (List.mem_of_getElem? (i := 139) rfl))), List.forall_mem_cons.mpr ⟨va_Nw.of rfl (hts _ (tb_4 _ (List.mem_of_getElem? (i := 161) rfl))), List.forall_mem_cons.mpr ⟨va_Nw.of rfl (hts _ (tb_4 _ (List.mem_of_getElem? (i := 170) rfl))), List.forall_mem_cons.mpr ⟨va_Nw.of rfl (hts _ (tb_4 _ (List.mem_of_getElem? (i := 173) rfl))), List.forall_mem_cons.mpr ⟨va_Nw.of rfl (hts _ (tb_4 _ (List.mem_of_getElem? (i := 204) rfl))), List.forall_mem_cons.mpr ⟨va_Nw.of rfl (hts _ (tb_4 _ (List.mem_of_getElem? (i := 229) rfl))), List.forall_mem_cons.mpr ⟨va_Nw.of rfl (hts _ (tb_4 _ (List.mem_of_getElem? (i := 230) rfl))), List.forall_mem_cons.mpr ⟨va_Nw.of rfl (hts _ (tb_4 _ (List.mem_of_getElem? (i := 239) rfl))), List.forall_mem_cons.mpr ⟨va_Nw.of rfl (hts _ (tb_5 _ (List.mem_of_getElem? (i := 2) rfl))), List.forall_mem_cons.mpr ⟨va_Nw.of rfl (hts _ (tb_5 _ (List.mem_of_getElem? (i := 11) rfl))), List.forall_mem_cons.mpr ⟨va_Nw.of rfl (hts _ (tb_5 _ (List.mem_of_getElem? (i := 12) rfl))), List.forall_mem_cons.mpr ⟨va_Nw.of rfl (hts _ (tb_5 _ (List.mem_of_getElem? (i := 37) rfl))), List.forall_mem_cons.mpr ⟨va_Nw.of rfl (hts _ (tb_5 _ (List.mem_of_getElem? (i := 60) rfl))), List.forall_mem_cons.mpr ⟨va_Nw.of rfl (hts _ (tb_5 _ (List.mem_of_getElem? (i := 66) rfl))), List.forall_mem_cons.mpr ⟨va_Nw.of rfl (hts _ (tb_5 _ (List.mem_of_getElem? (i := 176) rfl))), List.forall_mem_cons.mpr ⟨va_Nw.of rfl (hts _ (tb_5 _ (List.mem_of_getElem? (i := 178) rfl))), List.forall_mem_cons.mpr ⟨va_Nw.of rfl (hts _ (tb_5 _ (List.mem_of_getElem? (i := 188) rfl))), List.forall_mem_cons.mpr ⟨va_Nw.of rfl (hts _ (tb_5 _ (List.mem_of_getElem? (i := 189) rfl))), List.forall_mem_cons.mpr ⟨va_Nw.of rfl (hts _ (tb_5 _ (List.mem_of_getElem? (i := 190) rfl))), List.forall_mem_cons.mpr ⟨va_Nw.of rfl (hts _ (tb_5 _ (List.mem_of_getElem? (i := 196) rfl))), List.forall_mem_cons.mpr ⟨va_Nw.of rfl (hts _ (tb_5 _ (List.mem_of_getElem? (i := 198) rfl))), List.forall_mem_cons.mpr ⟨va_Nw.of rfl (hts _ (tb_5 _ (List.mem_of_getElem? (i := 204) rfl))), List.forall_mem_cons.mpr ⟨va_Nw.of rfl (hts _ (tb_5 _ (List.mem_of_getElem? (i := 223) rfl))), List.forall_mem_cons.mpr ⟨va_Nw.of rfl (hts _ (tb_5 _ (List.mem_of_getElem? (i := 236) rfl))), List.forall_mem_cons.mpr ⟨va_Nw.of rfl (hts _ (tb_6 _ (List.mem_of_getElem? (i := 52) rfl))), fun _ h => absurd h List.not_mem_nil⟩⟩⟩⟩⟩⟩⟩⟩⟩⟩⟩⟩⟩⟩⟩⟩⟩⟩⟩⟩⟩⟩⟩⟩⟩⟩⟩⟩⟩⟩⟩⟩⟩⟩⟩⟩
theorem st_str_0 (hts : ∀ w ∈ lw_tbl, w.before args s = true) (hgv : (Jvm.Cond.and given_1 narrow_1).before args s = true) : vk_R "PusherRoom" 86 "the character's code is not from 32 to 126" (aS args s "PusherRoom" 86) s := st_R (hts _ (tb_2 _ (List.mem_of_getElem? (i := 177) rfl))) (st_nar hgv (i := 119) (by decide +kernel))
theorem st_str_1 (hts : ∀ w ∈ lw_tbl, w.before args s = true) (hgv : (Jvm.Cond.and given_1 narrow_1).before args s = true) : vk_R "PusherRoom" 96 "the input is full" (aS args s "PusherRoom" 96) s := st_R (hts _ (tb_2 _ (List.mem_of_getElem? (i := 213) rfl))) (st_nar hgv (i := 165) (by decide +kernel))
theorem st_str_2 (hts : ∀ w ∈ lw_tbl, w.before args s = true) (hgv : (Jvm.Cond.and given_1 narrow_1).before args s = true) : vk_R "PusherRoom$RoomText" 60 "#-.$*@+" (aS args s "PusherRoom$RoomText" 60) s := st_R (hts _ (tb_3 _ (List.mem_of_getElem? (i := 12) rfl))) (st_nar hgv (i := 186) (by decide +kernel))
theorem st_str_3 (hts : ∀ w ∈ lw_tbl, w.before args s = true) (hgv : (Jvm.Cond.and given_1 narrow_1).before args s = true) : vk_R "PusherRoom" 117 "the size, the player, the boxes or the goals are not those of a room" (aS args s "PusherRoom" 117) s := st_R (hts _ (tb_3 _ (List.mem_of_getElem? (i := 118) rfl))) (st_nar hgv (i := 197) (by decide +kernel))
theorem st_str_4 (hts : ∀ w ∈ lw_tbl, w.before args s = true) (hgv : (Jvm.Cond.and given_1 narrow_1).before args s = true) : vk_R "PusherRoom" 379 "there is no room" (aS args s "PusherRoom" 379) s := st_R (hts _ (tb_3 _ (List.mem_of_getElem? (i := 180) rfl))) (st_nar hgv (i := 269) (by decide +kernel))
theorem st_str_5 (hts : ∀ w ∈ lw_tbl, w.before args s = true) (hgv : (Jvm.Cond.and given_1 narrow_1).before args s = true) : vk_R "PusherRoom" 148 "there is no such cell" (aS args s "PusherRoom" 148) s := st_R (hts _ (tb_3 _ (List.mem_of_getElem? (i := 194) rfl))) (st_nar hgv (i := 289) (by decide +kernel))
theorem st_str_6 (hts : ∀ w ∈ lw_tbl, w.before args s = true) (hgv : (Jvm.Cond.and given_1 narrow_1).before args s = true) : vk_R "PusherRoom" 187 "there is no such set" (aS args s "PusherRoom" 187) s := st_R (hts _ (tb_4 _ (List.mem_of_getElem? (i := 6) rfl))) (st_nar hgv (i := 314) (by decide +kernel))
theorem st_str_7 (hts : ∀ w ∈ lw_tbl, w.before args s = true) (hgv : (Jvm.Cond.and given_1 narrow_1).before args s = true) : vk_R "PusherRoom" 219 "there is no such count" (aS args s "PusherRoom" 219) s := st_R (hts _ (tb_4 _ (List.mem_of_getElem? (i := 50) rfl))) (st_nar hgv (i := 338) (by decide +kernel))
theorem st_str_8 (hts : ∀ w ∈ lw_tbl, w.before args s = true) (hgv : (Jvm.Cond.and given_1 narrow_1).before args s = true) : vk_R "PusherRoom" 225 "there is no such open cell" (aS args s "PusherRoom" 225) s := st_R (hts _ (tb_4 _ (List.mem_of_getElem? (i := 60) rfl))) (st_nar hgv (i := 364) (by decide +kernel))
theorem st_str_9 (hts : ∀ w ∈ lw_tbl, w.before args s = true) (hgv : (Jvm.Cond.and given_1 narrow_1).before args s = true) : vk_R "PusherRoom" 227 "there is no such goal" (aS args s "PusherRoom" 227) s := st_R (hts _ (tb_4 _ (List.mem_of_getElem? (i := 61) rfl))) (st_nar hgv (i := 394) (by decide +kernel))
theorem st_str_10 (hts : ∀ w ∈ lw_tbl, w.before args s = true) (hgv : (Jvm.Cond.and given_1 narrow_1).before args s = true) : vk_R "PusherRoom" 239 "there is no distance" (aS args s "PusherRoom" 239) s := st_R (hts _ (tb_4 _ (List.mem_of_getElem? (i := 79) rfl))) (st_nar hgv (i := 419) (by decide +kernel))
theorem st_str_11 (hts : ∀ w ∈ lw_tbl, w.before args s = true) (hgv : (Jvm.Cond.and given_1 narrow_1).before args s = true) : vk_R "PusherRoom" 245 "there is no bound" (aS args s "PusherRoom" 245) s := st_R (hts _ (tb_4 _ (List.mem_of_getElem? (i := 121) rfl))) (st_nar hgv (i := 443) (by decide +kernel))
theorem st_str_12 (hts : ∀ w ∈ lw_tbl, w.before args s = true) (hgv : (Jvm.Cond.and given_1 narrow_1).before args s = true) : vk_R "PusherRoom" 250 "the room is not stuck" (aS args s "PusherRoom" 250) s := st_R (hts _ (tb_4 _ (List.mem_of_getElem? (i := 134) rfl))) (st_nar hgv (i := 464) (by decide +kernel))
theorem st_str_13 (hts : ∀ w ∈ lw_tbl, w.before args s = true) (hgv : (Jvm.Cond.and given_1 narrow_1).before args s = true) : vk_R "PusherRoom" 259 "there is no such goal room or place" (aS args s "PusherRoom" 259) s := st_R (hts _ (tb_4 _ (List.mem_of_getElem? (i := 150) rfl))) (st_nar hgv (i := 489) (by decide +kernel))
theorem st_str_14 (hts : ∀ w ∈ lw_tbl, w.before args s = true) (hgv : (Jvm.Cond.and given_1 narrow_1).before args s = true) : vk_R "PusherRoom" 381 "there is no such direction" (aS args s "PusherRoom" 381) s := st_R (hts _ (tb_4 _ (List.mem_of_getElem? (i := 185) rfl))) (st_nar hgv (i := 528) (by decide +kernel))
theorem st_str_15 (hts : ∀ w ∈ lw_tbl, w.before args s = true) (hgv : (Jvm.Cond.and given_1 narrow_1).before args s = true) : vk_R "PusherRoom" 274 "400 steps were recorded" (aS args s "PusherRoom" 274) s := st_R (hts _ (tb_4 _ (List.mem_of_getElem? (i := 186) rfl))) (st_nar hgv (i := 558) (by decide +kernel))
theorem st_str_16 (hts : ∀ w ∈ lw_tbl, w.before args s = true) (hgv : (Jvm.Cond.and given_1 narrow_1).before args s = true) : vk_R "PusherRoom" 290 "the step is refused" (aS args s "PusherRoom" 290) s := st_R (hts _ (tb_4 _ (List.mem_of_getElem? (i := 218) rfl))) (st_nar hgv (i := 585) (by decide +kernel))
theorem st_str_17 (hts : ∀ w ∈ lw_tbl, w.before args s = true) (hgv : (Jvm.Cond.and given_1 narrow_1).before args s = true) : vk_R "PusherRoom" 383 "there is no box on such a cell" (aS args s "PusherRoom" 383) s := st_R (hts _ (tb_5 _ (List.mem_of_getElem? (i := 28) rfl))) (st_nar hgv (i := 608) (by decide +kernel))
theorem st_str_18 (hts : ∀ w ∈ lw_tbl, w.before args s = true) (hgv : (Jvm.Cond.and given_1 narrow_1).before args s = true) : vk_R "PusherRoom" 389 "the push is refused" (aS args s "PusherRoom" 389) s := st_R (hts _ (tb_5 _ (List.mem_of_getElem? (i := 43) rfl))) (st_nar hgv (i := 642) (by decide +kernel))
theorem st_str_19 (hts : ∀ w ∈ lw_tbl, w.before args s = true) (hgv : (Jvm.Cond.and given_1 narrow_1).before args s = true) : vk_R "PusherRoom" 391 "more than 400 steps would be recorded" (aS args s "PusherRoom" 391) s := st_R (hts _ (tb_5 _ (List.mem_of_getElem? (i := 78) rfl))) (st_nar hgv (i := 665) (by decide +kernel))
theorem st_str_20 (hts : ∀ w ∈ lw_tbl, w.before args s = true) (hgv : (Jvm.Cond.and given_1 narrow_1).before args s = true) : vk_R "PusherRoom$TextInput" 23 "urdlURDL" (aS args s "PusherRoom$TextInput" 23) s := st_R (hts _ (tb_5 _ (List.mem_of_getElem? (i := 110) rfl))) (st_nar hgv (i := 706) (by decide +kernel))
theorem st_str_21 (hts : ∀ w ∈ lw_tbl, w.before args s = true) (hgv : (Jvm.Cond.and given_1 narrow_1).before args s = true) : vk_R "PusherRoom" 417 "urdlURDL" (aS args s "PusherRoom" 417) s := st_R (hts _ (tb_5 _ (List.mem_of_getElem? (i := 120) rfl))) (st_nar hgv (i := 718) (by decide +kernel))
theorem st_str_22 (hts : ∀ w ∈ lw_tbl, w.before args s = true) (hgv : (Jvm.Cond.and given_1 narrow_1).before args s = true) : vk_R "PusherRoom" 324 "a step is refused" (aS args s "PusherRoom" 324) s := st_R (hts _ (tb_5 _ (List.mem_of_getElem? (i := 136) rfl))) (st_nar hgv (i := 731) (by decide +kernel))
theorem st_str_23 (hts : ∀ w ∈ lw_tbl, w.before args s = true) (hgv : (Jvm.Cond.and given_1 narrow_1).before args s = true) : vk_R "PusherRoom" 326 "no step of a text was refused" (aS args s "PusherRoom" 326) s := st_R (hts _ (tb_5 _ (List.mem_of_getElem? (i := 144) rfl))) (st_nar hgv (i := 752) (by decide +kernel))
theorem st_str_24 (hts : ∀ w ∈ lw_tbl, w.before args s = true) (hgv : (Jvm.Cond.and given_1 narrow_1).before args s = true) : vk_R "PusherRoom" 328 "nothing was refused" (aS args s "PusherRoom" 328) s := st_R (hts _ (tb_5 _ (List.mem_of_getElem? (i := 152) rfl))) (st_nar hgv (i := 785) (by decide +kernel))
theorem st_str_25 (hts : ∀ w ∈ lw_tbl, w.before args s = true) (hgv : (Jvm.Cond.and given_1 narrow_1).before args s = true) : vk_R "PusherRoom" 393 "the limit is not from 1 to 1000" (aS args s "PusherRoom" 393) s := st_R (hts _ (tb_5 _ (List.mem_of_getElem? (i := 171) rfl))) (st_nar hgv (i := 808) (by decide +kernel))
theorem st_str_26 (hts : ∀ w ∈ lw_tbl, w.before args s = true) (hgv : (Jvm.Cond.and given_1 narrow_1).before args s = true) : vk_R "PusherRoom" 403 "the search gives up" (aS args s "PusherRoom" 403) s := st_R (hts _ (tb_5 _ (List.mem_of_getElem? (i := 206) rfl))) (st_nar hgv (i := 843) (by decide +kernel))
theorem st_str_27 (hts : ∀ w ∈ lw_tbl, w.before args s = true) (hgv : (Jvm.Cond.and given_1 narrow_1).before args s = true) : vk_R "PusherRoom" 408 "there is no solution" (aS args s "PusherRoom" 408) s := st_R (hts _ (tb_5 _ (List.mem_of_getElem? (i := 207) rfl))) (st_nar hgv (i := 866) (by decide +kernel))
theorem st_str_28 (hts : ∀ w ∈ lw_tbl, w.before args s = true) (hgv : (Jvm.Cond.and given_1 narrow_1).before args s = true) : vk_R "PusherRoom" 342 "there is no such part of a solution" (aS args s "PusherRoom" 342) s := st_R (hts _ (tb_5 _ (List.mem_of_getElem? (i := 231) rfl))) (st_nar hgv (i := 890) (by decide +kernel))
theorem st_str_29 (hts : ∀ w ∈ lw_tbl, w.before args s = true) (hgv : (Jvm.Cond.and given_1 narrow_1).before args s = true) : vk_R "PusherRoom" 353 "there is no such step" (aS args s "PusherRoom" 353) s := st_R (hts _ (tb_6 _ (List.mem_of_getElem? (i := 15) rfl))) (st_nar hgv (i := 929) (by decide +kernel))
theorem st_str_30 (hts : ∀ w ∈ lw_tbl, w.before args s = true) (hgv : (Jvm.Cond.and given_1 narrow_1).before args s = true) : vk_R "PusherRoom" 369 "no command can be undone" (aS args s "PusherRoom" 369) s := st_R (hts _ (tb_6 _ (List.mem_of_getElem? (i := 65) rfl))) (st_nar hgv (i := 954) (by decide +kernel))
theorem st_str_31 (hts : ∀ w ∈ lw_tbl, w.before args s = true) (hgv : (Jvm.Cond.and given_1 narrow_1).before args s = true) : vk_R "PusherRoom" 377 "no snapshot was saved" (aS args s "PusherRoom" 377) s := st_R (hts _ (tb_6 _ (List.mem_of_getElem? (i := 93) rfl))) (st_nar hgv (i := 982) (by decide +kernel))
theorem st_strs (hts : ∀ w ∈ lw_tbl, w.before args s = true) (hgv : (Jvm.Cond.and given_1 narrow_1).before args s = true) : ∀ q ∈ mStrs, vk_R q.1 q.2.1 q.2.2 (aS args s q.1 q.2.1) s :=
  List.forall_mem_cons.mpr ⟨st_str_0 hts hgv, List.forall_mem_cons.mpr ⟨st_str_1 hts hgv, List.forall_mem_cons.mpr ⟨st_str_2 hts hgv, List.forall_mem_cons.mpr ⟨st_str_3 hts hgv, List.forall_mem_cons.mpr ⟨st_str_4 hts hgv, List.forall_mem_cons.mpr ⟨st_str_5 hts hgv, List.forall_mem_cons.mpr ⟨st_str_6 hts hgv, List.forall_mem_cons.mpr ⟨st_str_7 hts hgv, List.forall_mem_cons.mpr ⟨st_str_8 hts hgv, List.forall_mem_cons.mpr ⟨st_str_9 hts hgv, List.forall_mem_cons.mpr ⟨st_str_10 hts hgv, List.forall_mem_cons.mpr ⟨st_str_11 hts hgv, List.forall_mem_cons.mpr ⟨st_str_12 hts hgv, List.forall_mem_cons.mpr ⟨st_str_13 hts hgv, List.forall_mem_cons.mpr ⟨st_str_14 hts hgv, List.forall_mem_cons.mpr ⟨st_str_15 hts hgv, List.forall_mem_cons.mpr ⟨st_str_16 hts hgv, List.forall_mem_cons.mpr ⟨st_str_17 hts hgv, List.forall_mem_cons.mpr ⟨st_str_18 hts hgv, List.forall_mem_cons.mpr ⟨st_str_19 hts hgv, List.forall_mem_cons.mpr ⟨st_str_20 hts hgv, List.forall_mem_cons.mpr ⟨st_str_21 hts hgv, List.forall_mem_cons.mpr ⟨st_str_22 hts hgv, List.forall_mem_cons.mpr ⟨st_str_23 hts hgv, List.forall_mem_cons.mpr ⟨st_str_24 hts hgv, List.forall_mem_cons.mpr ⟨st_str_25 hts hgv, List.forall_mem_cons.mpr ⟨st_str_26 hts hgv, List.forall_mem_cons.mpr ⟨st_str_27 hts hgv, List.forall_mem_cons.mpr ⟨st_str_28 hts hgv, List.forall_mem_cons.mpr ⟨st_str_29 hts hgv, List.forall_mem_cons.mpr ⟨st_str_30 hts hgv, List.forall_mem_cons.mpr ⟨st_str_31 hts hgv, fun _ h => absurd h List.not_mem_nil⟩⟩⟩⟩⟩⟩⟩⟩⟩⟩⟩⟩⟩⟩⟩⟩⟩⟩⟩⟩⟩⟩⟩⟩⟩⟩⟩⟩⟩⟩⟩⟩
theorem st_ncs (hgv : (Jvm.Cond.and given_1 narrow_1).before args s = true) : ∀ q ∈ mNcs, va_Nc q.1 q.2 s :=
  List.forall_mem_cons.mpr ⟨va_Nc.of (args := args) (st_nar hgv (i := 25) (by decide +kernel)), List.forall_mem_cons.mpr ⟨va_Nc.of (args := args) (st_nar hgv (i := 43) (by decide +kernel)), List.forall_mem_cons.mpr ⟨va_Nc.of (args := args) (st_nar hgv (i := 80) (by decide +kernel)), List.forall_mem_cons.mpr ⟨va_Nc.of (args := args) (st_nar hgv (i := 116) (by decide +kernel)), List.forall_mem_cons.mpr ⟨va_Nc.of (args := args) (st_nar hgv (i := 98) (by decide +kernel)), List.forall_mem_cons.mpr ⟨va_Nc.of (args := args) (st_nar hgv (i := 60) (by decide +kernel)), List.forall_mem_cons.mpr ⟨va_Nc.of (args := args) (st_nar hgv (i := 42) (by decide +kernel)), List.forall_mem_cons.mpr ⟨va_Nc.of (args := args) (st_nar hgv (i := 78) (by decide +kernel)), List.forall_mem_cons.mpr ⟨va_Nc.of (args := args) (st_nar hgv (i := 114) (by decide +kernel)), List.forall_mem_cons.mpr ⟨va_Nc.of (args := args) (st_nar hgv (i := 96) (by decide +kernel)), List.forall_mem_cons.mpr ⟨va_Nc.of (args := args) (st_nar hgv (i := 61) (by decide +kernel)), List.forall_mem_cons.mpr ⟨va_Nc.of (args := args) (st_nar hgv (i := 24) (by decide +kernel)), List.forall_mem_cons.mpr ⟨va_Nc.of (args := args) (st_nar hgv (i := 79) (by decide +kernel)), List.forall_mem_cons.mpr ⟨va_Nc.of (args := args) (st_nar hgv (i := 115) (by decide +kernel)), List.forall_mem_cons.mpr ⟨va_Nc.of (args := args) (st_nar hgv (i := 97) (by decide +kernel)), List.forall_mem_cons.mpr ⟨va_Nc.of (args := args) (st_nar hgv (i := 62) (by decide +kernel)), List.forall_mem_cons.mpr ⟨va_Nc.of (args := args) (st_nar hgv (i := 26) (by decide +kernel)), List.forall_mem_cons.mpr ⟨va_Nc.of (args := args) (st_nar hgv (i := 44) (by decide +kernel)), List.forall_mem_cons.mpr ⟨va_Nc.of (args := args) (st_nar hgv (i := 117) (by decide +kernel)), List.forall_mem_cons.mpr ⟨va_Nc.of (args := args) (st_nar hgv (i := 99) (by decide +kernel)), List.forall_mem_cons.mpr ⟨va_Nc.of (args := args) (st_nar hgv (i := 64) (by decide +kernel)), List.forall_mem_cons.mpr ⟨va_Nc.of (args := args) (st_nar hgv (i := 28) (by decide +kernel)), List.forall_mem_cons.mpr ⟨va_Nc.of (args := args) (st_nar hgv (i := 46) (by decide +kernel)), List.forall_mem_cons.mpr ⟨va_Nc.of (args := args) (st_nar hgv (i := 82) (by decide +kernel)), List.forall_mem_cons.mpr ⟨va_Nc.of (args := args) (st_nar hgv (i := 100) (by decide +kernel)), List.forall_mem_cons.mpr ⟨va_Nc.of (args := args) (st_nar hgv (i := 63) (by decide +kernel)), List.forall_mem_cons.mpr ⟨va_Nc.of (args := args) (st_nar hgv (i := 27) (by decide +kernel)), List.forall_mem_cons.mpr ⟨va_Nc.of (args := args) (st_nar hgv (i := 45) (by decide +kernel)), List.forall_mem_cons.mpr ⟨va_Nc.of (args := args) (st_nar hgv (i := 81) (by decide +kernel)), List.forall_mem_cons.mpr ⟨va_Nc.of (args := args) (st_nar hgv (i := 118) (by decide +kernel)), fun _ h => absurd h List.not_mem_nil⟩⟩⟩⟩⟩⟩⟩⟩⟩⟩⟩⟩⟩⟩⟩⟩⟩⟩⟩⟩⟩⟩⟩⟩⟩⟩⟩⟩⟩⟩
theorem st_decs (hts : ∀ w ∈ lw_tbl, w.before args s = true) : ∀ q ∈ mDecs, va_Nw (.declares q) s :=
  List.forall_mem_cons.mpr ⟨va_Nw.of rfl (hts _ (tb_2 _ (List.mem_of_getElem? (i := 136) rfl))), List.forall_mem_cons.mpr ⟨va_Nw.of rfl (hts _ (tb_2 _ (List.mem_of_getElem? (i := 137) rfl))), List.forall_mem_cons.mpr ⟨va_Nw.of rfl (hts _ (tb_2 _ (List.mem_of_getElem? (i := 138) rfl))), List.forall_mem_cons.mpr ⟨va_Nw.of rfl (hts _ (tb_2 _ (List.mem_of_getElem? (i := 139) rfl))), List.forall_mem_cons.mpr ⟨va_Nw.of rfl (hts _ (tb_2 _ (List.mem_of_getElem? (i := 140) rfl))), List.forall_mem_cons.mpr ⟨va_Nw.of rfl (hts _ (tb_2 _ (List.mem_of_getElem? (i := 141) rfl))), fun _ h => absurd h List.not_mem_nil⟩⟩⟩⟩⟩⟩
theorem st_cas (hts : ∀ w ∈ lw_tbl, w.before args s = true) : ∀ q ∈ mCas, va_Nw (.castable q.1 q.2) s :=
  List.forall_mem_cons.mpr ⟨va_Nw.of rfl (hts _ (tb_3 _ (List.mem_of_getElem? (i := 111) rfl))), List.forall_mem_cons.mpr ⟨va_Nw.of rfl (hts _ (tb_2 _ (List.mem_of_getElem? (i := 135) rfl))), List.forall_mem_cons.mpr ⟨va_Nw.of rfl (hts _ (tb_2 _ (List.mem_of_getElem? (i := 206) rfl))), List.forall_mem_cons.mpr ⟨va_Nw.of rfl (hts _ (tb_3 _ (List.mem_of_getElem? (i := 187) rfl))), List.forall_mem_cons.mpr ⟨va_Nw.of rfl (hts _ (tb_4 _ (List.mem_of_getElem? (i := 211) rfl))), List.forall_mem_cons.mpr ⟨va_Nw.of rfl (hts _ (tb_4 _ (List.mem_of_getElem? (i := 72) rfl))), fun _ h => absurd h List.not_mem_nil⟩⟩⟩⟩⟩⟩
theorem st_sc_0 (hgv : (Jvm.Cond.and given_1 narrow_1).before args s = true) {A : Nat → Prop} (hA : ∀ a : Nat, a < s.heap.size → ¬ A a) : vk_S 1 [7] [[35, 45, 46, 36, 42, 64, 43]] (fun _ => aS args s "PusherRoom$RoomText" 60) (fun _ => aV args s "PusherRoom$RoomText" 60) A s s.heap := by
  refine st_S (byt := [35, 45, 46, 36, 42, 64, 43]) (by decide) (st_nar hgv (i := 186) (by decide +kernel)) (st_nar hgv (i := 187) (by decide +kernel)) (st_nar hgv (i := 188) (by decide +kernel)) (st_nar hgv (i := 189) (by decide +kernel)) (fun j hj => ?_) hA
  match j, hj with
  | 0, _ => exact st_nar hgv (i := 190) (by decide +kernel)
  | 1, _ => exact st_nar hgv (i := 191) (by decide +kernel)
  | 2, _ => exact st_nar hgv (i := 192) (by decide +kernel)
  | 3, _ => exact st_nar hgv (i := 193) (by decide +kernel)
  | 4, _ => exact st_nar hgv (i := 194) (by decide +kernel)
  | 5, _ => exact st_nar hgv (i := 195) (by decide +kernel)
  | 6, _ => exact st_nar hgv (i := 196) (by decide +kernel)
  | j + 7, hj => exact absurd hj (by simp only [List.length_cons, List.length_nil]; omega)
theorem st_sc_1 (hgv : (Jvm.Cond.and given_1 narrow_1).before args s = true) {A : Nat → Prop} (hA : ∀ a : Nat, a < s.heap.size → ¬ A a) : vk_S 1 [8] [[117, 114, 100, 108, 85, 82, 68, 76]] (fun _ => aS args s "PusherRoom$TextInput" 23) (fun _ => aV args s "PusherRoom$TextInput" 23) A s s.heap := by
  refine st_S (byt := [117, 114, 100, 108, 85, 82, 68, 76]) (by decide) (st_nar hgv (i := 706) (by decide +kernel)) (st_nar hgv (i := 707) (by decide +kernel)) (st_nar hgv (i := 708) (by decide +kernel)) (st_nar hgv (i := 709) (by decide +kernel)) (fun j hj => ?_) hA
  match j, hj with
  | 0, _ => exact st_nar hgv (i := 710) (by decide +kernel)
  | 1, _ => exact st_nar hgv (i := 711) (by decide +kernel)
  | 2, _ => exact st_nar hgv (i := 712) (by decide +kernel)
  | 3, _ => exact st_nar hgv (i := 713) (by decide +kernel)
  | 4, _ => exact st_nar hgv (i := 714) (by decide +kernel)
  | 5, _ => exact st_nar hgv (i := 715) (by decide +kernel)
  | 6, _ => exact st_nar hgv (i := 716) (by decide +kernel)
  | 7, _ => exact st_nar hgv (i := 717) (by decide +kernel)
  | j + 8, hj => exact absurd hj (by simp only [List.length_cons, List.length_nil]; omega)
theorem st_sc_2 (hgv : (Jvm.Cond.and given_1 narrow_1).before args s = true) {A : Nat → Prop} (hA : ∀ a : Nat, a < s.heap.size → ¬ A a) : vk_S 1 [8] [[117, 114, 100, 108, 85, 82, 68, 76]] (fun _ => aS args s "PusherRoom" 417) (fun _ => aV args s "PusherRoom" 417) A s s.heap := by
  refine st_S (byt := [117, 114, 100, 108, 85, 82, 68, 76]) (by decide) (st_nar hgv (i := 718) (by decide +kernel)) (st_nar hgv (i := 719) (by decide +kernel)) (st_nar hgv (i := 720) (by decide +kernel)) (st_nar hgv (i := 721) (by decide +kernel)) (fun j hj => ?_) hA
  match j, hj with
  | 0, _ => exact st_nar hgv (i := 722) (by decide +kernel)
  | 1, _ => exact st_nar hgv (i := 723) (by decide +kernel)
  | 2, _ => exact st_nar hgv (i := 724) (by decide +kernel)
  | 3, _ => exact st_nar hgv (i := 725) (by decide +kernel)
  | 4, _ => exact st_nar hgv (i := 726) (by decide +kernel)
  | 5, _ => exact st_nar hgv (i := 727) (by decide +kernel)
  | 6, _ => exact st_nar hgv (i := 728) (by decide +kernel)
  | 7, _ => exact st_nar hgv (i := 729) (by decide +kernel)
  | j + 8, hj => exact absurd hj (by simp only [List.length_cons, List.length_nil]; omega)
theorem st_scs (hgv : (Jvm.Cond.and given_1 narrow_1).before args s = true) {A : Nat → Prop} (hA : ∀ a : Nat, a < s.heap.size → ¬ A a) : ∀ q ∈ mSC, vk_S 1 [q.2.2.2.length] [q.2.2.2] (fun _ => aS args s q.1 q.2.1) (fun _ => aV args s q.1 q.2.1) A s s.heap :=
  List.forall_mem_cons.mpr ⟨st_sc_0 hgv hA, List.forall_mem_cons.mpr ⟨st_sc_1 hgv hA, List.forall_mem_cons.mpr ⟨st_sc_2 hgv hA, fun _ h => absurd h List.not_mem_nil⟩⟩⟩
theorem st_us (hts : ∀ w ∈ lw_tbl, w.before args s = true) (hgv : (Jvm.Cond.and given_1 narrow_1).before args s = true) {A : Nat → Prop} (hA : ∀ a : Nat, a < s.heap.size → ¬ A a) : vx_Zq Bundle.tN "UNASSIGNED_STACK" Bundle.steD A s s.heap := vx_Zqof (args := args) (hts _ (tb_2 _ (List.mem_of_getElem? (i := 160) rfl))) (hts _ (tb_1 _ (List.mem_of_getElem? (i := 14) rfl))) (st_nar hgv (i := 4) (by decide +kernel)) hA
theorem st_ss (hts : ∀ w ∈ lw_tbl, w.before args s = true) (hgv : (Jvm.Cond.and given_1 narrow_1).before args s = true) {A : Nat → Prop} (hA : ∀ a : Nat, a < s.heap.size → ¬ A a) : vx_Zq Bundle.tN "SUPPRESSED_SENTINEL" Bundle.listD A s s.heap := vx_Zqof (args := args) (hts _ (tb_2 _ (List.mem_of_getElem? (i := 162) rfl))) (hts _ (tb_1 _ (List.mem_of_getElem? (i := 14) rfl))) (st_nar hgv (i := 5) (by decide +kernel)) hA
theorem st_cs (hts : ∀ w ∈ lw_tbl, w.before args s = true) (hgv : (Jvm.Cond.and given_1 narrow_1).before args s = true) {A : Nat → Prop} (hA : ∀ a : Nat, a < s.heap.size → ¬ A a) : va_Z "java/lang/String" "COMPACT_STRINGS" "Z" (.int 1) A s s.heap := va_Zof (args := args) (hts _ (tb_3 _ (List.mem_of_getElem? (i := 26) rfl))) (hts _ (tb_1 _ (List.mem_of_getElem? (i := 19) rfl))) (va_eqt (st_nar hgv (i := 6) (by decide +kernel))) hA
theorem st_fm (hts : ∀ w ∈ lw_tbl, w.before args s = true) (hgv : (Jvm.Cond.and given_1 narrow_1).before args s = true) {A : Nat → Prop} (hA : ∀ a : Nat, a < s.heap.size → ¬ A a) : va_Z "jdk/internal/util/Preconditions" "SIOOBE_FORMATTER" "Ljava/util/function/BiFunction;" (va_rf (aF args s)) A s s.heap := by
  obtain ⟨v, q1, q2⟩ := Cond.isRef_spec (args := args) (first := s) (o := none) (s := s) (idx := []) (t := Term.static "jdk/internal/util/Preconditions" "SIOOBE_FORMATTER" "Ljava/util/function/BiFunction;") (st_nar hgv (i := 7) (by decide +kernel))
  have e : v = va_rf (aF args s) := by
    unfold aF; rw [q1]
    cases v with
    | null => rfl
    | ref a => rfl
    | _ => cases q2
  exact va_Zof (args := args) (hts _ (tb_3 _ (List.mem_of_getElem? (i := 69) rfl))) (hts _ (tb_1 _ (List.mem_of_getElem? (i := 23) rfl))) (by rw [← e]; exact q1) hA
theorem st_cl (hts : ∀ w ∈ lw_tbl, w.before args s = true) : ∃ (dC : Nat → ClassId) (dI : Nat → Nat → Nat), ∀ (k : Nat) (q : vw_C), vwCl[k]? = some q → u_Kn s q.1 q.2.1 q.2.2 (dC k) (dI k) := by
  have htM : ∀ w ∈ mTBL, w.before args s = true := fun w h => hts w (List.mem_filter.mp h).1
  have h : ∀ k : Nat, ∃ x : ClassId × (Nat → Nat), ∀ q : vw_C, vwCl[k]? = some q → u_Kn s q.1 q.2.1 q.2.2 x.1 x.2 := by
    intro k
    match k with
    | 0 =>
      obtain ⟨c0, i0, h0⟩ := u_known (C := RX0) (T := TX0) (N := 7) (n := 7) htM iw_X0 (htM _ kI_X0)
      exact ⟨(c0, i0), fun q hq => by cases hq; exact h0⟩
    | 1 =>
      obtain ⟨c0, i0, h0⟩ := u_known (C := RX1) (T := TX1) (N := 2) (n := 2) htM iw_X1 (htM _ kI_X1)
      exact ⟨(c0, i0), fun q hq => by cases hq; exact h0⟩
    | 2 =>
      obtain ⟨c0, i0, h0⟩ := u_known (C := RX2) (T := TX2) (N := 7) (n := 7) htM iw_X2 (htM _ kI_X2)
      exact ⟨(c0, i0), fun q hq => by cases hq; exact h0⟩
    | 3 =>
      obtain ⟨c0, i0, h0⟩ := u_known (C := RX3) (T := TX3) (N := 4) (n := 4) htM iw_X3 (htM _ kI_X3)
      exact ⟨(c0, i0), fun q hq => by cases hq; exact h0⟩
    | 4 =>
      obtain ⟨c0, i0, h0⟩ := u_known (C := RX4) (T := TX4) (N := 2) (n := 2) htM iw_X4 (htM _ kI_X4)
      exact ⟨(c0, i0), fun q hq => by cases hq; exact h0⟩
    | 5 =>
      obtain ⟨c0, i0, h0⟩ := u_known (C := RX5) (T := TX5) (N := 3) (n := 3) htM iw_X5 (htM _ kI_X5)
      exact ⟨(c0, i0), fun q hq => by cases hq; exact h0⟩
    | 6 =>
      obtain ⟨c0, i0, h0⟩ := u_known (C := RX6) (T := TX6) (N := 3) (n := 3) htM iw_X6 (htM _ kI_X6)
      exact ⟨(c0, i0), fun q hq => by cases hq; exact h0⟩
    | 7 =>
      obtain ⟨c0, i0, h0⟩ := u_known (C := RX7) (T := TX7) (N := 10) (n := 10) htM iw_X7 (htM _ kI_X7)
      exact ⟨(c0, i0), fun q hq => by cases hq; exact h0⟩
    | 8 =>
      obtain ⟨c0, i0, h0⟩ := u_known (C := RX8) (T := TX8) (N := 11) (n := 11) htM iw_X8 (htM _ kI_X8)
      exact ⟨(c0, i0), fun q hq => by cases hq; exact h0⟩
    | 9 =>
      obtain ⟨c0, i0, h0⟩ := u_known (C := RX9) (T := TX9) (N := 3) (n := 3) htM iw_X9 (htM _ kI_X9)
      exact ⟨(c0, i0), fun q hq => by cases hq; exact h0⟩
    | 10 =>
      obtain ⟨c0, i0, h0⟩ := u_known (C := RX10) (T := TX10) (N := 2) (n := 2) htM iw_X10 (htM _ kI_X10)
      exact ⟨(c0, i0), fun q hq => by cases hq; exact h0⟩
    | 11 =>
      obtain ⟨c0, i0, h0⟩ := u_known (C := RX11) (T := TX11) (N := 12) (n := 12) htM iw_X11 (htM _ kI_X11)
      exact ⟨(c0, i0), fun q hq => by cases hq; exact h0⟩
    | 12 =>
      obtain ⟨c0, i0, h0⟩ := u_known (C := RX12) (T := TX12) (N := 36) (n := 36) htM iw_X12 (htM _ kI_X12)
      exact ⟨(c0, i0), fun q hq => by cases hq; exact h0⟩
    | k + 13 => exact ⟨(0, fun _ => 0), fun q hq => absurd hq (by simp)⟩
  obtain ⟨x, hx⟩ := Classical.axiomOfChoice h
  exact ⟨fun k => (x k).1, fun k => (x k).2, hx⟩
theorem st_a1 {ty : FieldType} (hRA : ∀ c : ClassId, s.vm.findClass ("[" ++ ty.toString) = some c → va_RA s c ty) (h : (Cond.arrayClass ty).before args s = true) : ∃ c : ClassId, ArrOfT s c ty ∧ va_RA s c ty := by
  obtain ⟨c, k, comp, h1, h2, h3⟩ := Cond.arrayClass_spec (args := args) (first := s) (o := none) (s := s) (idx := []) h
  exact ⟨c, fun n z => ⟨fun k h => (by cases h), k, h2, comp, h3⟩, hRA c h1⟩
theorem st_ar (hts : ∀ w ∈ lw_tbl, w.before args s = true) : ∃ tA : Nat → ClassId, ∀ (k : Nat) (q : ClassId × FieldType), (mTy tA)[k]? = some q → ArrOfT s q.1 q.2 ∧ va_RA s q.1 q.2 := by
  have htM : ∀ w ∈ mTBL, w.before args s = true := fun w h => hts w (List.mem_filter.mp h).1
  obtain ⟨c0, h0⟩ := st_a1 (ty := .int) (fun _ h => h) (htM _ kA_int)
  obtain ⟨c1, h1⟩ := st_a1 (ty := .long) (fun _ h => h) (htM _ kA_long)
  obtain ⟨c2, h2⟩ := st_a1 (ty := .char) (fun _ h => h) (htM _ kA_char)
  obtain ⟨c3, h3⟩ := st_a1 (ty := .boolean) (fun _ h => h) (htM _ kA_boolean)
  refine ⟨fun k => if k = 0 then c0 else if k = 1 then c1 else if k = 2 then c2 else c3, fun k q hq => ?_⟩
  match k, hq with
  | 0, hq => cases hq; exact h0
  | 1, hq => cases hq; exact h1
  | 2, hq => cases hq; exact h2
  | 3, hq => cases hq; exact h3
  | k + 4, hq => exact absurd hq (by simp [mTy])
/-- the start of the plain machine -/
theorem st_all (l : Launch) (hts : ∀ w ∈ lw_tbl, w.before args s = true) (hgv : (Jvm.Cond.and given_1 narrow_1).before args s = true) {A : Nat → Prop} (hA : ∀ a : Nat, a < s.heap.size → ¬ A a) : ∃ E : mEnv, E.1 = l ∧ E.2.2.2 = (aS args s, aV args s, aF args s) ∧ mSt E A s s.heap := by
  obtain ⟨dC, dI, h1⟩ := st_cl hts
  obtain ⟨tA, h2⟩ := st_ar hts
  exact ⟨(l, (dC, dI), tA, aS args s, aV args s, aF args s), rfl, rfl, ⟨h1, h2⟩, st_nest hts, st_strs hts hgv, st_ncs hgv, st_decs hts, st_cas hts, st_us hts hgv hA, st_ss hts hgv hA, st_scs hgv hA, st_cs hts hgv hA, st_fm hts hgv hA⟩
end START
