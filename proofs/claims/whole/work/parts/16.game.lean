/-! Game: walks, pushes, replays, copies -/
/-- the first direction in which the neighbor lies in a set -/
def diF (g : gT) (a : Int32) (s : Int64) : Nat → Nat → Int32
  | 0, _ => -1
  | n + 1, k => if gMv g (jshl 1 a) (nI k) &&& s = 0 then diF g a s n (k + 1) else nI k
theorem d_X0_directionInto_0 : decode (mB M_X0_directionInto) 0 = .ok (.iconst 0, 1) := by decide +kernel
theorem d_X0_directionInto_1 : decode (mB M_X0_directionInto) 1 = .ok (.istore_n 3, 1) := by decide +kernel
theorem d_X0_directionInto_2 : decode (mB M_X0_directionInto) 2 = .ok (.iload_n 3, 1) := by decide +kernel
theorem d_X0_directionInto_3 : decode (mB M_X0_directionInto) 3 = .ok (.iconst 4, 1) := by decide +kernel
theorem d_X0_directionInto_4 : decode (mB M_X0_directionInto) 4 = .ok (.if_icmp .ge 36, 3) := by decide +kernel
theorem d_X0_directionInto_7 : decode (mB M_X0_directionInto) 7 = .ok (.aload_n 0, 1) := by decide +kernel
theorem d_X0_directionInto_8 : decode (mB M_X0_directionInto) 8 = .ok (.getfield 12, 3) := by decide +kernel
theorem d_X0_directionInto_11 : decode (mB M_X0_directionInto) 11 = .ok (.aload_n 0, 1) := by decide +kernel
theorem d_X0_directionInto_12 : decode (mB M_X0_directionInto) 12 = .ok (.getfield 23, 3) := by decide +kernel
theorem d_X0_directionInto_15 : decode (mB M_X0_directionInto) 15 = .ok (.getfield 73, 3) := by decide +kernel
theorem d_X0_directionInto_18 : decode (mB M_X0_directionInto) 18 = .ok (.invokestatic 119, 3) := by decide +kernel
theorem d_X0_directionInto_21 : decode (mB M_X0_directionInto) 21 = .ok (.iload_n 3, 1) := by decide +kernel
theorem d_X0_directionInto_22 : decode (mB M_X0_directionInto) 22 = .ok (.invokevirtual 122, 3) := by decide +kernel
theorem d_X0_directionInto_25 : decode (mB M_X0_directionInto) 25 = .ok (.lload_n 1, 1) := by decide +kernel
theorem d_X0_directionInto_26 : decode (mB M_X0_directionInto) 26 = .ok (.land, 1) := by decide +kernel
theorem d_X0_directionInto_27 : decode (mB M_X0_directionInto) 27 = .ok (.lconst 0, 1) := by decide +kernel
theorem d_X0_directionInto_28 : decode (mB M_X0_directionInto) 28 = .ok (.lcmp, 1) := by decide +kernel
theorem d_X0_directionInto_29 : decode (mB M_X0_directionInto) 29 = .ok (.ifCond .eq 5, 3) := by decide +kernel
theorem d_X0_directionInto_32 : decode (mB M_X0_directionInto) 32 = .ok (.iload_n 3, 1) := by decide +kernel
theorem d_X0_directionInto_33 : decode (mB M_X0_directionInto) 33 = .ok (.ireturn, 1) := by decide +kernel
theorem d_X0_directionInto_34 : decode (mB M_X0_directionInto) 34 = .ok (.iinc 3 1, 3) := by decide +kernel
theorem d_X0_directionInto_37 : decode (mB M_X0_directionInto) 37 = .ok (.goto (-35), 3) := by decide +kernel
theorem d_X0_directionInto_40 : decode (mB M_X0_directionInto) 40 = .ok (.iconst (-1), 1) := by decide +kernel
theorem d_X0_directionInto_41 : decode (mB M_X0_directionInto) 41 = .ok (.ireturn, 1) := by decide +kernel
theorem l_dirInto {E : mEnv} (hE : E.1.stackTraces = false) (m : List mE) (t : cT) (s : Int64) : ∀ (n : Nat) (k : Nat), k + n = 4 → Go E M_X0_directionInto 0 (2, [some (.ref 104), some (.long s), none, some (.int (nI k))], [], (m, cw t)) (.inr (.inl (some (.int (diF (qG (tG t)) (qN (tG t)).2 s n k)), (m, cw t)))) := by
  intro n
  induction n with
  | zero =>
    intro k hk
    obtain rfl : k = 4 := by omega
    refine g_iload_n d_X0_directionInto_2 rfl ?_
    refine g_iconst (v := 4) d_X0_directionInto_3 (by decide) ?_
    refine g_icmp_ge (tgt := 40) d_X0_directionInto_4 (by decide) (fun c_4 => ?_) (fun c_4 => absurd c_4 (absurd (nI_le (Nat.le_refl 4) (by decide)) c_4))
    refine g_iconst (v := (-1)) d_X0_directionInto_40 (by decide) ?_
    exact g_retI d_X0_directionInto_41 rfl (rfl) (rfl)
  | succ n ih =>
    intro k hk
    refine g_iload_n d_X0_directionInto_2 rfl ?_
    refine g_iconst (v := 4) d_X0_directionInto_3 (by decide) ?_
    refine g_icmp_ge (tgt := 40) d_X0_directionInto_4 (by decide) (fun c_4 => absurd c_4 (nI_ge (a := k) (b := 4) (by omega) (by decide))) (fun c_4 => ?_)
    refine g_aload_n d_X0_directionInto_7 rfl ?_
    refine g_getf d_X0_directionInto_8 f_X0_12 rfl rfl ?_
    refine g_aload_n d_X0_directionInto_11 rfl ?_
    refine g_getf d_X0_directionInto_12 f_X0_23 rfl rfl ?_
    refine g_getf d_X0_directionInto_15 f_X0_73 rfl rfl ?_
    refine g_callN (As := [.int ((qN (tG t)).2)]) d_X0_directionInto_18 o_X11_bit n_X0_119 ⟨Nat.le_of_ble_eq_true rfl, Nat.le_of_ble_eq_true rfl⟩ (c_bit hE ((qN (tG t)).2) _) rfl rfl ?_ (Nat.zero_add _)
    refine g_iload_n d_X0_directionInto_21 rfl ?_
    refine g_callV (As := [.long (jshl 1 ((qN (tG t)).2)), .int (nI k)]) d_X0_directionInto_22 o_X2_moved l_X0_122 ⟨Nat.le_of_ble_eq_true rfl, Nat.le_of_ble_eq_true rfl⟩ (c_moved hE 105 (qG (tG t)) _ rfl (jshl 1 ((qN (tG t)).2)) (nI k)) rfl rfl rfl rfl rfl rfl ?_ (Nat.zero_add _)
    refine g_lload_n d_X0_directionInto_25 rfl ?_
    refine g_land d_X0_directionInto_26 ?_
    refine g_lconst (v := 0) d_X0_directionInto_27 (by decide) ?_
    refine g_lcmp_eq (tgt := 34) d_X0_directionInto_28 d_X0_directionInto_29 (by decide) (fun c_28 => ?_) (fun c_28 => ?_)
    · refine g_iinc (v := ((nI k) + 1)) (L' := [some (.ref 104), some (.long s), none, some (.int ((nI k) + 1))]) d_X0_directionInto_34 rfl rfl rfl ?_
      refine g_goto (tgt := 2) d_X0_directionInto_37 (by decide) ?_
      refine g_eq (S' := (2, [some (.ref 104), some (.long s), none, some (.int (nI (k + 1)))], [], (m, cw t))) (by first | rfl | (rw [nI_1]; rfl) | (simp only [nI_1]; rfl) | simp only [nI_1]) ?_
      rw [show diF (qG (tG t)) (qN (tG t)).2 s (n + 1) k = diF (qG (tG t)) (qN (tG t)).2 s n (k + 1) by simp only [diF, c_28, ↓reduceIte]]
      exact ih (k + 1) (by omega)
    · refine g_iload_n d_X0_directionInto_32 rfl ?_
      exact g_retI d_X0_directionInto_33 rfl (by simp only [diF, eq_false c_28, ↓reduceIte, Bool.false_eq_true]) (rfl)
theorem c_dirInto {E : mEnv} (hE : E.1.stackTraces = false) (m : List mE) (t : cT) (s : Int64) : Rt E M_X0_directionInto 0 [.ref 104, .long s] ((m, cw t)) (some (.int (diF (qG (tG t)) (qN (tG t)).2 s 4 0))) ((m, cw t)) := by
  refine Rt.of hE rfl pn_X0 (Nat.le_of_ble_eq_true rfl) ?_
  refine g_eq (S' := (0, [some (.ref 104), some (.long s), none, none], [], (m, cw t))) rfl ?_
  refine g_iconst (v := 0) d_X0_directionInto_0 (by decide) ?_
  refine g_istore_n (L' := [some (.ref 104), some (.long s), none, some (.int 0)]) d_X0_directionInto_1 rfl rfl ?_
  refine g_eq (S' := (2, [some (.ref 104), some (.long s), none, some (.int (nI 0))], [], (m, cw t))) (rfl) ?_
  exact l_dirInto hE m t s 4 0 (by omega)
/-- where yFi finds the cell; 0 if nowhere -/
def fiN (f : Nat → Int64) (z c : Int32) : Nat → Nat → Nat
  | 0, _ => 0
  | n + 1, k => if hasF (yAt f z (nI k)) c = true then k else fiN f z c n (k + 1)
theorem yFi_cases (f : Nat → Int64) (z c : Int32) : ∀ n k : Nat, (yFi f z c n k = -1 ∧ fiN f z c n k = 0) ∨ (yFi f z c n k = nI (fiN f z c n k) ∧ fiN f z c n k < k + n) := by
  intro n
  induction n with
  | zero => intro k; exact Or.inl ⟨rfl, rfl⟩
  | succ n ih =>
    intro k
    by_cases h : hasF (yAt f z (nI k)) c = true
    · exact Or.inr ⟨by simp [yFi, fiN, h], by simp [fiN, h]⟩
    · rcases ih (k + 1) with ⟨h1, h2⟩ | ⟨h1, h2⟩
      · exact Or.inl ⟨by simp [yFi, h, h1], by simp [fiN, h, h2]⟩
      · exact Or.inr ⟨by simp [yFi, fiN, h, h1], by simp [fiN, h]; omega⟩
theorem yLa_size (g : gT) (over : Int64) : ∀ (n k : Nat) (a b : Int64) (f : Nat → Int64), (yLa g over n k a b f).2 ≤ k + n := by
  intro n
  induction n with
  | zero => intro k a b f; exact Nat.le_refl _
  | succ n ih =>
    intro k a b f
    by_cases h : a = 0
    · simp [yLa, h]
    · simp only [yLa, h, if_false]
      have := ih (k + 1) (yA g over a b) (b ||| yA g over a b) (setLongF 64 f (nI k) a)
      omega
/-- n steps back along the layers -/
def wkQ : Nat → GmT → GmT
  | 0, q => q
  | n + 1, q => wkQ n (mkQ q (diF (qG q) (qN q).2 (yAt (qL q).1 (qL q).2 (nI n)) 4 0))
def layQ (q : GmT) (s over : Int64) : GmT := (qG q, qN q, qS q, qA q, ((yLay (qG q) s over (qL q).1).1, nI (yLay (qG q) s over (qL q).1).2), qR q, qC q)
def wkT (q : GmT) (s : Int64) : GmT := wkQ (fiN (yLay (qG q) s (pFr (qG q) (qN q).1) (qL q).1).1 (nI (yLay (qG q) s (pFr (qG q) (qN q).1) (qL q).1).2) (qN q).2 (yLay (qG q) s (pFr (qG q) (qN q).1) (qL q).1).2 0) (layQ q s (pFr (qG q) (qN q).1))
theorem d_X0_walkTo_0 : decode (mB M_X0_walkTo) 0 = .ok (.aload_n 0, 1) := by decide +kernel
theorem d_X0_walkTo_1 : decode (mB M_X0_walkTo) 1 = .ok (.getfield 36, 3) := by decide +kernel
theorem d_X0_walkTo_4 : decode (mB M_X0_walkTo) 4 = .ok (.aload_n 0, 1) := by decide +kernel
theorem d_X0_walkTo_5 : decode (mB M_X0_walkTo) 5 = .ok (.getfield 12, 3) := by decide +kernel
theorem d_X0_walkTo_8 : decode (mB M_X0_walkTo) 8 = .ok (.lload_n 1, 1) := by decide +kernel
theorem d_X0_walkTo_9 : decode (mB M_X0_walkTo) 9 = .ok (.aload_n 0, 1) := by decide +kernel
theorem d_X0_walkTo_10 : decode (mB M_X0_walkTo) 10 = .ok (.getfield 23, 3) := by decide +kernel
theorem d_X0_walkTo_13 : decode (mB M_X0_walkTo) 13 = .ok (.invokevirtual 130, 3) := by decide +kernel
theorem d_X0_walkTo_16 : decode (mB M_X0_walkTo) 16 = .ok (.invokevirtual 134, 3) := by decide +kernel
theorem d_X0_walkTo_19 : decode (mB M_X0_walkTo) 19 = .ok (.aload_n 0, 1) := by decide +kernel
theorem d_X0_walkTo_20 : decode (mB M_X0_walkTo) 20 = .ok (.getfield 36, 3) := by decide +kernel
theorem d_X0_walkTo_23 : decode (mB M_X0_walkTo) 23 = .ok (.aload_n 0, 1) := by decide +kernel
theorem d_X0_walkTo_24 : decode (mB M_X0_walkTo) 24 = .ok (.getfield 23, 3) := by decide +kernel
theorem d_X0_walkTo_27 : decode (mB M_X0_walkTo) 27 = .ok (.getfield 73, 3) := by decide +kernel
theorem d_X0_walkTo_30 : decode (mB M_X0_walkTo) 30 = .ok (.invokevirtual 137, 3) := by decide +kernel
theorem d_X0_walkTo_33 : decode (mB M_X0_walkTo) 33 = .ok (.iconst 1, 1) := by decide +kernel
theorem d_X0_walkTo_34 : decode (mB M_X0_walkTo) 34 = .ok (.isub, 1) := by decide +kernel
theorem d_X0_walkTo_35 : decode (mB M_X0_walkTo) 35 = .ok (.istore_n 3, 1) := by decide +kernel
theorem d_X0_walkTo_36 : decode (mB M_X0_walkTo) 36 = .ok (.iload_n 3, 1) := by decide +kernel
theorem d_X0_walkTo_37 : decode (mB M_X0_walkTo) 37 = .ok (.ifCond .lt 26, 3) := by decide +kernel
theorem d_X0_walkTo_40 : decode (mB M_X0_walkTo) 40 = .ok (.aload_n 0, 1) := by decide +kernel
theorem d_X0_walkTo_41 : decode (mB M_X0_walkTo) 41 = .ok (.aload_n 0, 1) := by decide +kernel
theorem d_X0_walkTo_42 : decode (mB M_X0_walkTo) 42 = .ok (.aload_n 0, 1) := by decide +kernel
theorem d_X0_walkTo_43 : decode (mB M_X0_walkTo) 43 = .ok (.getfield 36, 3) := by decide +kernel
theorem d_X0_walkTo_46 : decode (mB M_X0_walkTo) 46 = .ok (.iload_n 3, 1) := by decide +kernel
theorem d_X0_walkTo_47 : decode (mB M_X0_walkTo) 47 = .ok (.invokevirtual 140, 3) := by decide +kernel
theorem d_X0_walkTo_50 : decode (mB M_X0_walkTo) 50 = .ok (.invokevirtual 143, 3) := by decide +kernel
theorem d_X0_walkTo_53 : decode (mB M_X0_walkTo) 53 = .ok (.invokevirtual 108, 3) := by decide +kernel
theorem d_X0_walkTo_56 : decode (mB M_X0_walkTo) 56 = .ok (.pop, 1) := by decide +kernel
theorem d_X0_walkTo_57 : decode (mB M_X0_walkTo) 57 = .ok (.iinc 3 (-1), 3) := by decide +kernel
theorem d_X0_walkTo_60 : decode (mB M_X0_walkTo) 60 = .ok (.goto (-24), 3) := by decide +kernel
theorem d_X0_walkTo_63 : decode (mB M_X0_walkTo) 63 = .ok (.return_, 1) := by decide +kernel
theorem l_walkTo {E : mEnv} (hE : E.1.stackTraces = false) (m : List mE) : ∀ (n : Nat) (t : cT) (i : Int32), n < 2 ^ 31 → (i = nI n - 1 ∨ (n = 0 ∧ i < 0)) → Go E M_X0_walkTo 0 (36, [some (.ref 104), none, none, some (.int i)], [], (m, cw t)) (.inr (.inl (none, (m, cw (wG t (wkQ n (tG t))))))) := by
  intro n
  induction n with
  | zero =>
    intro t i hn hi
    refine g_iload_n d_X0_walkTo_36 rfl ?_
    refine g_if_lt (tgt := 63) d_X0_walkTo_37 (by decide) (fun c_37 => ?_) (fun c_37 => absurd c_37 (absurd (show i < 0 from hi.elim (fun h => by rw [h]; decide) (fun h => h.2)) c_37))
    exact g_retV d_X0_walkTo_63 rfl (rfl)
  | succ n ih =>
    intro t i hn hi
    obtain rfl : i = nI n := by
      rcases hi with h | ⟨h, -⟩
      · rw [h, nI_pred]
      · omega
    refine g_iload_n d_X0_walkTo_36 rfl ?_
    refine g_if_lt (tgt := 63) d_X0_walkTo_37 (by decide) (fun c_37 => absurd c_37 (nI_pos (by omega))) (fun c_37 => ?_)
    refine g_aload_n d_X0_walkTo_40 rfl ?_
    refine g_aload_n d_X0_walkTo_41 rfl ?_
    refine g_aload_n d_X0_walkTo_42 rfl ?_
    refine g_getf d_X0_walkTo_43 f_X0_36 rfl rfl ?_
    refine g_iload_n d_X0_walkTo_46 rfl ?_
    refine g_callV (As := [.int (nI n)]) d_X0_walkTo_47 o_X4_at l_X0_140 ⟨Nat.le_of_ble_eq_true rfl, Nat.le_of_ble_eq_true rfl⟩ (c_yat hE 109 110 (qL (tG t)).2 (qL (tG t)).1 _ rfl rfl (nI n)) rfl rfl rfl rfl rfl rfl ?_ (Nat.zero_add _)
    refine g_callV (As := [.long (yAt (qL (tG t)).1 (qL (tG t)).2 (nI n))]) d_X0_walkTo_50 o_X0_directionInto l_X0_143 ⟨Nat.le_of_ble_eq_true rfl, Nat.le_of_ble_eq_true rfl⟩ (c_dirInto hE m t (yAt (qL (tG t)).1 (qL (tG t)).2 (nI n))) rfl rfl rfl rfl rfl rfl ?_ (Nat.zero_add _)
    refine g_callV (As := [.int (diF (qG (tG t)) (qN (tG t)).2 (yAt (qL (tG t)).1 (qL (tG t)).2 (nI n)) 4 0)]) d_X0_walkTo_53 o_X0_makeStep l_X0_108 ⟨Nat.le_of_ble_eq_true rfl, Nat.le_of_ble_eq_true rfl⟩ (c_makeStep hE m t (diF (qG (tG t)) (qN (tG t)).2 (yAt (qL (tG t)).1 (qL (tG t)).2 (nI n)) 4 0)) rfl rfl rfl rfl rfl rfl ?_ (Nat.zero_add _)
    refine g_pop d_X0_walkTo_56 rfl ?_
    refine g_iinc (v := ((nI n) + (-1))) (L' := [some (.ref 104), none, none, some (.int ((nI n) + (-1)))]) d_X0_walkTo_57 rfl rfl rfl ?_
    refine g_goto (tgt := 36) d_X0_walkTo_60 (by decide) ?_
    refine g_eq (S' := (36, [some (.ref 104), none, none, some (.int (nI n + (-1)))], [], (m, cw (wG t (mkQ (tG t) (diF (qG (tG t)) (qN (tG t)).2 (yAt (qL (tG t)).1 (qL (tG t)).2 (nI n)) 4 0)))))) rfl ?_
    exact ih (wG t (mkQ (tG t) (diF (qG (tG t)) (qN (tG t)).2 (yAt (qL (tG t)).1 (qL (tG t)).2 (nI n)) 4 0))) _ (by omega) (Or.inl (Int32.sub_eq_add_neg _ _).symm)
theorem c_walkTo {E : mEnv} (hE : E.1.stackTraces = false) (m : List mE) (t : cT) (s : Int64) : Rt E M_X0_walkTo 0 [.ref 104, .long s] ((m, cw t)) none ((m, cw (wG t (wkT (tG t) s)))) := by
  have hs0 : (yLay (qG (tG t)) s (pFr (qG (tG t)) (qN (tG t)).1) (qL (tG t)).1).2 ≤ 0 + 64 := yLa_size _ _ 64 0 _ _ _
  have hs : (yLay (qG (tG t)) s (pFr (qG (tG t)) (qN (tG t)).1) (qL (tG t)).1).2 < 2 ^ 31 := by omega
  refine Rt.of hE rfl pn_X0 (Nat.le_of_ble_eq_true rfl) ?_
  refine g_eq (S' := (0, [some (.ref 104), some (.long s), none, none], [], (m, cw t))) rfl ?_
  refine g_aload_n d_X0_walkTo_0 rfl ?_
  refine g_getf d_X0_walkTo_1 f_X0_36 rfl rfl ?_
  refine g_aload_n d_X0_walkTo_4 rfl ?_
  refine g_getf d_X0_walkTo_5 f_X0_12 rfl rfl ?_
  refine g_lload_n d_X0_walkTo_8 rfl ?_
  refine g_aload_n d_X0_walkTo_9 rfl ?_
  refine g_getf d_X0_walkTo_10 f_X0_23 rfl rfl ?_
  refine g_callV (As := []) d_X0_walkTo_13 o_X6_free l_X0_130 ⟨Nat.le_of_ble_eq_true rfl, Nat.le_of_ble_eq_true rfl⟩ (c_free hE 106 105 (qG (tG t)) (qN (tG t)).1 (qN (tG t)).2 _ rfl rfl ) rfl rfl rfl rfl rfl rfl ?_ (Nat.zero_add _)
  refine g_callV (As := [.ref 105, .long s, .long (pFr (qG (tG t)) (qN (tG t)).1 )]) d_X0_walkTo_16 o_X4_lay l_X0_134 ⟨Nat.le_of_ble_eq_true rfl, Nat.le_of_ble_eq_true rfl⟩ (c_lay hE 109 110 105 (qL (tG t)).2 (qL (tG t)).1 (qG (tG t)) (m, cw t) rfl rfl rfl (by decide) (by decide) (by decide) s (pFr (qG (tG t)) (qN (tG t)).1 )) rfl rfl rfl rfl rfl rfl ?_ (Nat.zero_add _)
  refine g_eq (S' := (19, [some (.ref 104), some (.long s), none, none], [], (m, cw (wG t (layQ (tG t) s (pFr (qG (tG t)) (qN (tG t)).1)))))) rfl ?_
  refine g_aload_n d_X0_walkTo_19 rfl ?_
  refine g_getf d_X0_walkTo_20 f_X0_36 rfl rfl ?_
  refine g_aload_n d_X0_walkTo_23 rfl ?_
  refine g_getf d_X0_walkTo_24 f_X0_23 rfl rfl ?_
  refine g_getf d_X0_walkTo_27 f_X0_73 rfl rfl ?_
  refine g_callV (As := [.int ((qN (tG (wG t (layQ (tG t) s (pFr (qG (tG t)) (qN (tG t)).1))))).2)]) d_X0_walkTo_30 o_X4_find l_X0_137 ⟨Nat.le_of_ble_eq_true rfl, Nat.le_of_ble_eq_true rfl⟩ (c_find hE 109 110 (yLay (qG (tG t)) s (pFr (qG (tG t)) (qN (tG t)).1) (qL (tG t)).1).2 (yLay (qG (tG t)) s (pFr (qG (tG t)) (qN (tG t)).1) (qL (tG t)).1).1 _ rfl rfl hs ((qN (tG (wG t (layQ (tG t) s (pFr (qG (tG t)) (qN (tG t)).1))))).2)) rfl rfl rfl rfl rfl rfl ?_ (Nat.zero_add _)
  refine g_iconst (v := 1) d_X0_walkTo_33 (by decide) ?_
  refine g_isub d_X0_walkTo_34 ?_
  refine g_istore_n (L' := [some (.ref 104), some (.long s), none, some (.int ((yFi (yLay (qG (tG t)) s (pFr (qG (tG t)) (qN (tG t)).1) (qL (tG t)).1).1 (nI (yLay (qG (tG t)) s (pFr (qG (tG t)) (qN (tG t)).1) (qL (tG t)).1).2) ((qN (tG (wG t (layQ (tG t) s (pFr (qG (tG t)) (qN (tG t)).1))))).2) (yLay (qG (tG t)) s (pFr (qG (tG t)) (qN (tG t)).1) (qL (tG t)).1).2 0) - 1))]) d_X0_walkTo_35 rfl rfl ?_
  refine g_drop [1] rfl ?_
  rcases yFi_cases (yLay (qG (tG t)) s (pFr (qG (tG t)) (qN (tG t)).1) (qL (tG t)).1).1 (nI (yLay (qG (tG t)) s (pFr (qG (tG t)) (qN (tG t)).1) (qL (tG t)).1).2) (qN (tG t)).2 (yLay (qG (tG t)) s (pFr (qG (tG t)) (qN (tG t)).1) (qL (tG t)).1).2 0 with ⟨h1, h2⟩ | ⟨h1, h2⟩
  · refine g_eq (S' := (36, [some (.ref 104), none, none, some (.int (-2))], [], (m, cw (wG t (layQ (tG t) s (pFr (qG (tG t)) (qN (tG t)).1)))))) (by show _ = _; rw [show qN (tG (wG t (layQ (tG t) s (pFr (qG (tG t)) (qN (tG t)).1)))) = qN (tG t) from rfl]; rw [h1]; rfl) ?_
    have h3 := l_walkTo hE m 0 (wG t (layQ (tG t) s (pFr (qG (tG t)) (qN (tG t)).1))) (-2) (by decide) (Or.inr ⟨rfl, by decide⟩)
    rw [show wkT (tG t) s = wkQ 0 (layQ (tG t) s (pFr (qG (tG t)) (qN (tG t)).1)) by unfold wkT; rw [h2]]
    exact h3
  · refine g_eq (S' := (36, [some (.ref 104), none, none, some (.int (nI (fiN (yLay (qG (tG t)) s (pFr (qG (tG t)) (qN (tG t)).1) (qL (tG t)).1).1 (nI (yLay (qG (tG t)) s (pFr (qG (tG t)) (qN (tG t)).1) (qL (tG t)).1).2) (qN (tG t)).2 (yLay (qG (tG t)) s (pFr (qG (tG t)) (qN (tG t)).1) (qL (tG t)).1).2 0) - 1))], [], (m, cw (wG t (layQ (tG t) s (pFr (qG (tG t)) (qN (tG t)).1)))))) (by show _ = _; rw [show qN (tG (wG t (layQ (tG t) s (pFr (qG (tG t)) (qN (tG t)).1)))) = qN (tG t) from rfl]; rw [h1]; rfl) ?_
    exact l_walkTo hE m _ (wG t (layQ (tG t) s (pFr (qG (tG t)) (qN (tG t)).1))) _ (by omega) (Or.inl rfl)
def puQ (q : GmT) (c d : Int32) : GmT := mkQ (wkT q (pBe (qG q) c d)) d
theorem d_X0_pushBox_0 : decode (mB M_X0_pushBox) 0 = .ok (.aload_n 0, 1) := by decide +kernel
theorem d_X0_pushBox_1 : decode (mB M_X0_pushBox) 1 = .ok (.aload_n 0, 1) := by decide +kernel
theorem d_X0_pushBox_2 : decode (mB M_X0_pushBox) 2 = .ok (.getfield 23, 3) := by decide +kernel
theorem d_X0_pushBox_5 : decode (mB M_X0_pushBox) 5 = .ok (.iload_n 1, 1) := by decide +kernel
theorem d_X0_pushBox_6 : decode (mB M_X0_pushBox) 6 = .ok (.iload_n 2, 1) := by decide +kernel
theorem d_X0_pushBox_7 : decode (mB M_X0_pushBox) 7 = .ok (.invokevirtual 100, 3) := by decide +kernel
theorem d_X0_pushBox_10 : decode (mB M_X0_pushBox) 10 = .ok (.invokevirtual 104, 3) := by decide +kernel
theorem d_X0_pushBox_13 : decode (mB M_X0_pushBox) 13 = .ok (.aload_n 0, 1) := by decide +kernel
theorem d_X0_pushBox_14 : decode (mB M_X0_pushBox) 14 = .ok (.iload_n 2, 1) := by decide +kernel
theorem d_X0_pushBox_15 : decode (mB M_X0_pushBox) 15 = .ok (.invokevirtual 108, 3) := by decide +kernel
theorem d_X0_pushBox_18 : decode (mB M_X0_pushBox) 18 = .ok (.pop, 1) := by decide +kernel
theorem d_X0_pushBox_19 : decode (mB M_X0_pushBox) 19 = .ok (.return_, 1) := by decide +kernel
theorem c_pushBox {E : mEnv} (hE : E.1.stackTraces = false) (m : List mE) (t : cT) (c d : Int32) : Rt E M_X0_pushBox 0 [.ref 104, .int c, .int d] ((m, cw t)) none ((m, cw (wG t (puQ (tG t) c d)))) := by
  refine Rt.of hE rfl pn_X0 (Nat.le_of_ble_eq_true rfl) ?_
  refine g_eq (S' := (0, [some (.ref 104), some (.int c), some (.int d)], [], (m, cw t))) rfl ?_
  refine g_aload_n d_X0_pushBox_0 rfl ?_
  refine g_aload_n d_X0_pushBox_1 rfl ?_
  refine g_getf d_X0_pushBox_2 f_X0_23 rfl rfl ?_
  refine g_iload_n d_X0_pushBox_5 rfl ?_
  refine g_iload_n d_X0_pushBox_6 rfl ?_
  refine g_callV (As := [.int c, .int d]) d_X0_pushBox_7 o_X6_behind l_X0_100 ⟨Nat.le_of_ble_eq_true rfl, Nat.le_of_ble_eq_true rfl⟩ (c_behind hE 106 105 (qG (tG t)) (qN (tG t)).1 (qN (tG t)).2 _ rfl rfl c d) rfl rfl rfl rfl rfl rfl ?_ (Nat.zero_add _)
  refine g_callV (As := [.long (pBe (qG (tG t)) c d)]) d_X0_pushBox_10 o_X0_walkTo l_X0_104 ⟨Nat.le_of_ble_eq_true rfl, Nat.le_of_ble_eq_true rfl⟩ (c_walkTo hE m t (pBe (qG (tG t)) c d)) rfl rfl rfl rfl rfl rfl ?_ (Nat.zero_add _)
  refine g_aload_n d_X0_pushBox_13 rfl ?_
  refine g_iload_n d_X0_pushBox_14 rfl ?_
  refine g_callV (As := [.int d]) d_X0_pushBox_15 o_X0_makeStep l_X0_108 ⟨Nat.le_of_ble_eq_true rfl, Nat.le_of_ble_eq_true rfl⟩ (c_makeStep hE m (wG t (wkT (tG t) (pBe (qG (tG t)) c d))) d) rfl rfl rfl rfl rfl rfl ?_ (Nat.zero_add _)
  refine g_pop d_X0_pushBox_18 rfl ?_
  exact g_retV d_X0_pushBox_19 rfl (rfl)
/-- the further pushes of a long push -/
def onQ (s : Int64) (d : Int32) : Nat → Nat → GmT → GmT × Nat
  | 0, k, q => (q, k)
  | n + 1, k, q => if gMv (qG q) (jshl 1 (qN q).2) d &&& s = 0 then (q, k) else if pSr (qG q) (qN q).1 (qN q).2 d = 0 then onQ s d n (k + 1) (mkQ q d) else (q, k)
theorem d_X0_pushBoxOn_0 : decode (mB M_X0_pushBoxOn) 0 = .ok (.aload_n 0, 1) := by decide +kernel
theorem d_X0_pushBoxOn_1 : decode (mB M_X0_pushBoxOn) 1 = .ok (.iload_n 1, 1) := by decide +kernel
theorem d_X0_pushBoxOn_2 : decode (mB M_X0_pushBoxOn) 2 = .ok (.iload_n 2, 1) := by decide +kernel
theorem d_X0_pushBoxOn_3 : decode (mB M_X0_pushBoxOn) 3 = .ok (.invokevirtual 111, 3) := by decide +kernel
theorem d_X0_pushBoxOn_6 : decode (mB M_X0_pushBoxOn) 6 = .ok (.iconst 1, 1) := by decide +kernel
theorem d_X0_pushBoxOn_7 : decode (mB M_X0_pushBoxOn) 7 = .ok (.istore_n 3, 1) := by decide +kernel
theorem d_X0_pushBoxOn_8 : decode (mB M_X0_pushBoxOn) 8 = .ok (.aload_n 0, 1) := by decide +kernel
theorem d_X0_pushBoxOn_9 : decode (mB M_X0_pushBoxOn) 9 = .ok (.getfield 12, 3) := by decide +kernel
theorem d_X0_pushBoxOn_12 : decode (mB M_X0_pushBoxOn) 12 = .ok (.iload_n 2, 1) := by decide +kernel
theorem d_X0_pushBoxOn_13 : decode (mB M_X0_pushBoxOn) 13 = .ok (.invokevirtual 115, 3) := by decide +kernel
theorem d_X0_pushBoxOn_16 : decode (mB M_X0_pushBoxOn) 16 = .ok (.lstore 4, 2) := by decide +kernel
theorem d_X0_pushBoxOn_18 : decode (mB M_X0_pushBoxOn) 18 = .ok (.iload_n 3, 1) := by decide +kernel
theorem d_X0_pushBoxOn_19 : decode (mB M_X0_pushBoxOn) 19 = .ok (.bipush 64, 2) := by decide +kernel
theorem d_X0_pushBoxOn_21 : decode (mB M_X0_pushBoxOn) 21 = .ok (.if_icmp .ge 52, 3) := by decide +kernel
theorem d_X0_pushBoxOn_24 : decode (mB M_X0_pushBoxOn) 24 = .ok (.aload_n 0, 1) := by decide +kernel
theorem d_X0_pushBoxOn_25 : decode (mB M_X0_pushBoxOn) 25 = .ok (.getfield 12, 3) := by decide +kernel
theorem d_X0_pushBoxOn_28 : decode (mB M_X0_pushBoxOn) 28 = .ok (.aload_n 0, 1) := by decide +kernel
theorem d_X0_pushBoxOn_29 : decode (mB M_X0_pushBoxOn) 29 = .ok (.getfield 23, 3) := by decide +kernel
theorem d_X0_pushBoxOn_32 : decode (mB M_X0_pushBoxOn) 32 = .ok (.getfield 73, 3) := by decide +kernel
theorem d_X0_pushBoxOn_35 : decode (mB M_X0_pushBoxOn) 35 = .ok (.invokestatic 119, 3) := by decide +kernel
theorem d_X0_pushBoxOn_38 : decode (mB M_X0_pushBoxOn) 38 = .ok (.iload_n 2, 1) := by decide +kernel
theorem d_X0_pushBoxOn_39 : decode (mB M_X0_pushBoxOn) 39 = .ok (.invokevirtual 122, 3) := by decide +kernel
theorem d_X0_pushBoxOn_42 : decode (mB M_X0_pushBoxOn) 42 = .ok (.lload 4, 2) := by decide +kernel
theorem d_X0_pushBoxOn_44 : decode (mB M_X0_pushBoxOn) 44 = .ok (.land, 1) := by decide +kernel
theorem d_X0_pushBoxOn_45 : decode (mB M_X0_pushBoxOn) 45 = .ok (.lconst 0, 1) := by decide +kernel
theorem d_X0_pushBoxOn_46 : decode (mB M_X0_pushBoxOn) 46 = .ok (.lcmp, 1) := by decide +kernel
theorem d_X0_pushBoxOn_47 : decode (mB M_X0_pushBoxOn) 47 = .ok (.ifCond .eq 26, 3) := by decide +kernel
theorem d_X0_pushBoxOn_50 : decode (mB M_X0_pushBoxOn) 50 = .ok (.aload_n 0, 1) := by decide +kernel
theorem d_X0_pushBoxOn_51 : decode (mB M_X0_pushBoxOn) 51 = .ok (.getfield 23, 3) := by decide +kernel
theorem d_X0_pushBoxOn_54 : decode (mB M_X0_pushBoxOn) 54 = .ok (.iload_n 2, 1) := by decide +kernel
theorem d_X0_pushBoxOn_55 : decode (mB M_X0_pushBoxOn) 55 = .ok (.invokevirtual 126, 3) := by decide +kernel
theorem d_X0_pushBoxOn_58 : decode (mB M_X0_pushBoxOn) 58 = .ok (.ifCond .ne 15, 3) := by decide +kernel
theorem d_X0_pushBoxOn_61 : decode (mB M_X0_pushBoxOn) 61 = .ok (.aload_n 0, 1) := by decide +kernel
theorem d_X0_pushBoxOn_62 : decode (mB M_X0_pushBoxOn) 62 = .ok (.iload_n 2, 1) := by decide +kernel
theorem d_X0_pushBoxOn_63 : decode (mB M_X0_pushBoxOn) 63 = .ok (.invokevirtual 108, 3) := by decide +kernel
theorem d_X0_pushBoxOn_66 : decode (mB M_X0_pushBoxOn) 66 = .ok (.pop, 1) := by decide +kernel
theorem d_X0_pushBoxOn_67 : decode (mB M_X0_pushBoxOn) 67 = .ok (.iinc 3 1, 3) := by decide +kernel
theorem d_X0_pushBoxOn_70 : decode (mB M_X0_pushBoxOn) 70 = .ok (.goto (-52), 3) := by decide +kernel
theorem d_X0_pushBoxOn_73 : decode (mB M_X0_pushBoxOn) 73 = .ok (.iload_n 3, 1) := by decide +kernel
theorem d_X0_pushBoxOn_74 : decode (mB M_X0_pushBoxOn) 74 = .ok (.ireturn, 1) := by decide +kernel
theorem l_pushOn {E : mEnv} (hE : E.1.stackTraces = false) (m : List mE) (s : Int64) (d : Int32) : ∀ (n : Nat) (k : Nat) (t : cT), k + n = 64 → Go E M_X0_pushBoxOn 0 (18, [some (.ref 104), none, some (.int d), some (.int (nI k)), some (.long s), none], [], (m, cw t)) (.inr (.inl (some (.int (nI (onQ s d n k (tG t)).2)), (m, cw (wG t (onQ s d n k (tG t)).1))))) := by
  intro n
  induction n with
  | zero =>
    intro k t hk
    obtain rfl : k = 64 := by omega
    refine g_iload_n d_X0_pushBoxOn_18 rfl ?_
    refine g_bipush (v := 64) d_X0_pushBoxOn_19 (by decide) ?_
    refine g_icmp_ge (tgt := 73) d_X0_pushBoxOn_21 (by decide) (fun c_21 => ?_) (fun c_21 => absurd c_21 (absurd (nI_le (Nat.le_refl 64) (by decide)) c_21))
    refine g_iload_n d_X0_pushBoxOn_73 rfl ?_
    exact g_retI d_X0_pushBoxOn_74 rfl (rfl) (rfl)
  | succ n ih =>
    intro k t hk
    refine g_iload_n d_X0_pushBoxOn_18 rfl ?_
    refine g_bipush (v := 64) d_X0_pushBoxOn_19 (by decide) ?_
    refine g_icmp_ge (tgt := 73) d_X0_pushBoxOn_21 (by decide) (fun c_21 => absurd c_21 (nI_ge (a := k) (b := 64) (by omega) (by decide))) (fun c_21 => ?_)
    refine g_aload_n d_X0_pushBoxOn_24 rfl ?_
    refine g_getf d_X0_pushBoxOn_25 f_X0_12 rfl rfl ?_
    refine g_aload_n d_X0_pushBoxOn_28 rfl ?_
    refine g_getf d_X0_pushBoxOn_29 f_X0_23 rfl rfl ?_
    refine g_getf d_X0_pushBoxOn_32 f_X0_73 rfl rfl ?_
    refine g_callN (As := [.int ((qN (tG t)).2)]) d_X0_pushBoxOn_35 o_X11_bit n_X0_119 ⟨Nat.le_of_ble_eq_true rfl, Nat.le_of_ble_eq_true rfl⟩ (c_bit hE ((qN (tG t)).2) _) rfl rfl ?_ (Nat.zero_add _)
    refine g_iload_n d_X0_pushBoxOn_38 rfl ?_
    refine g_callV (As := [.long (jshl 1 ((qN (tG t)).2)), .int d]) d_X0_pushBoxOn_39 o_X2_moved l_X0_122 ⟨Nat.le_of_ble_eq_true rfl, Nat.le_of_ble_eq_true rfl⟩ (c_moved hE 105 (qG (tG t)) _ rfl (jshl 1 ((qN (tG t)).2)) d) rfl rfl rfl rfl rfl rfl ?_ (Nat.zero_add _)
    refine g_lload d_X0_pushBoxOn_42 rfl ?_
    refine g_land d_X0_pushBoxOn_44 ?_
    refine g_lconst (v := 0) d_X0_pushBoxOn_45 (by decide) ?_
    refine g_lcmp_eq (tgt := 73) d_X0_pushBoxOn_46 d_X0_pushBoxOn_47 (by decide) (fun c_46 => ?_) (fun c_46 => ?_)
    · refine g_iload_n d_X0_pushBoxOn_73 rfl ?_
      exact g_retI d_X0_pushBoxOn_74 rfl (by simp only [onQ, eq_true c_46, ↓reduceIte, Bool.false_eq_true]) (by simp only [onQ, eq_true c_46, ↓reduceIte, Bool.false_eq_true]; rfl)
    · refine g_aload_n d_X0_pushBoxOn_50 rfl ?_
      refine g_getf d_X0_pushBoxOn_51 f_X0_23 rfl rfl ?_
      refine g_iload_n d_X0_pushBoxOn_54 rfl ?_
      refine g_callV (As := [.int d]) d_X0_pushBoxOn_55 o_X6_stepReason l_X0_126 ⟨Nat.le_of_ble_eq_true rfl, Nat.le_of_ble_eq_true rfl⟩ (c_stepReason hE 106 105 (qG (tG t)) (qN (tG t)).1 (qN (tG t)).2 _ rfl rfl d) rfl rfl rfl rfl rfl rfl ?_ (Nat.zero_add _)
      refine g_if_ne (tgt := 73) d_X0_pushBoxOn_58 (by decide) (fun c_58 => ?_) (fun c_58 => ?_)
      · refine g_iload_n d_X0_pushBoxOn_73 rfl ?_
        exact g_retI d_X0_pushBoxOn_74 rfl (by simp only [onQ, eq_false c_46, eq_false c_58, ↓reduceIte, Bool.false_eq_true]) (by simp only [onQ, eq_false c_46, eq_false c_58, ↓reduceIte, Bool.false_eq_true]; rfl)
      · refine g_aload_n d_X0_pushBoxOn_61 rfl ?_
        refine g_iload_n d_X0_pushBoxOn_62 rfl ?_
        refine g_callV (As := [.int d]) d_X0_pushBoxOn_63 o_X0_makeStep l_X0_108 ⟨Nat.le_of_ble_eq_true rfl, Nat.le_of_ble_eq_true rfl⟩ (c_makeStep hE m t d) rfl rfl rfl rfl rfl rfl ?_ (Nat.zero_add _)
        refine g_pop d_X0_pushBoxOn_66 rfl ?_
        refine g_iinc (v := ((nI k) + 1)) (L' := [some (.ref 104), none, some (.int d), some (.int ((nI k) + 1)), some (.long s), none]) d_X0_pushBoxOn_67 rfl rfl rfl ?_
        refine g_goto (tgt := 18) d_X0_pushBoxOn_70 (by decide) ?_
        refine g_eq (S' := (18, [some (.ref 104), none, some (.int d), some (.int (nI (k + 1))), some (.long s), none], [], (m, cw (wG t (mkQ (tG t) d))))) (by first | rfl | (rw [nI_1]; rfl) | (simp only [nI_1]; rfl) | simp only [nI_1]) ?_
        rw [show onQ s d (n + 1) k (tG t) = onQ s d n (k + 1) (mkQ (tG t) d) by simp only [onQ, eq_false c_46, eq_true c_58, ↓reduceIte]]
        exact ih (k + 1) (wG t (mkQ (tG t) d)) (by omega)
def poQ (q : GmT) (c d : Int32) : GmT × Nat := onQ (gTa (qG (puQ q c d)) d) d 63 1 (puQ q c d)
theorem c_pushBoxOn {E : mEnv} (hE : E.1.stackTraces = false) (m : List mE) (t : cT) (c d : Int32) : Rt E M_X0_pushBoxOn 0 [.ref 104, .int c, .int d] ((m, cw t)) (some (.int (nI (poQ (tG t) c d).2))) ((m, cw (wG t (poQ (tG t) c d).1))) := by
  refine Rt.of hE rfl pn_X0 (Nat.le_of_ble_eq_true rfl) ?_
  refine g_eq (S' := (0, [some (.ref 104), some (.int c), some (.int d), none, none, none], [], (m, cw t))) rfl ?_
  refine g_aload_n d_X0_pushBoxOn_0 rfl ?_
  refine g_iload_n d_X0_pushBoxOn_1 rfl ?_
  refine g_iload_n d_X0_pushBoxOn_2 rfl ?_
  refine g_callV (As := [.int c, .int d]) d_X0_pushBoxOn_3 o_X0_pushBox l_X0_111 ⟨Nat.le_of_ble_eq_true rfl, Nat.le_of_ble_eq_true rfl⟩ (c_pushBox hE m t c d) rfl rfl rfl rfl rfl rfl ?_ (Nat.zero_add _)
  refine g_iconst (v := 1) d_X0_pushBoxOn_6 (by decide) ?_
  refine g_istore_n (L' := [some (.ref 104), some (.int c), some (.int d), some (.int 1), none, none]) d_X0_pushBoxOn_7 rfl rfl ?_
  refine g_aload_n d_X0_pushBoxOn_8 rfl ?_
  refine g_getf d_X0_pushBoxOn_9 f_X0_12 rfl rfl ?_
  refine g_iload_n d_X0_pushBoxOn_12 rfl ?_
  refine g_callV (As := [.int d]) d_X0_pushBoxOn_13 o_X2_tunnelsAlong l_X0_115 ⟨Nat.le_of_ble_eq_true rfl, Nat.le_of_ble_eq_true rfl⟩ (c_tunnelsAlong hE 105 (qG (tG (wG t (puQ (tG t) c d)))) _ rfl d) rfl rfl rfl rfl rfl rfl ?_ (Nat.zero_add _)
  refine g_lstore (L' := [some (.ref 104), some (.int c), some (.int d), some (.int 1), some (.long (gTa (qG (tG (wG t (puQ (tG t) c d)))) d)), none]) d_X0_pushBoxOn_16 rfl rfl ?_
  refine g_drop [1] (L1 := [some (.ref 104), none, some (.int d), some (.int 1), some (.long (gTa (qG (tG (wG t (puQ (tG t) c d)))) d)), none]) rfl ?_
  refine g_eq (S' := (18, [some (.ref 104), none, some (.int d), some (.int (nI 1)), some (.long (gTa (qG (puQ (tG t) c d)) d)), none], [], (m, cw (wG t (puQ (tG t) c d))))) (rfl) ?_
  exact l_pushOn hE m _ d 63 1 (wG t (puQ (tG t) c d)) (by omega)
