/-! the law's cases 8 to 11 (printed by gen/pb2.py) -/
theorem d_L_law_613 : decode (mB M_L_law) 613 = .ok (.aload_n 1, 1) := by decide +kernel
theorem d_L_law_614 : decode (mB M_L_law) 614 = .ok (.aload_n 0, 1) := by decide +kernel
theorem d_L_law_615 : decode (mB M_L_law) 615 = .ok (.iload 4, 2) := by decide +kernel
theorem d_L_law_617 : decode (mB M_L_law) 617 = .ok (.iconst 1, 1) := by decide +kernel
theorem d_L_law_618 : decode (mB M_L_law) 618 = .ok (.iadd, 1) := by decide +kernel
theorem d_L_law_619 : decode (mB M_L_law) 619 = .ok (.iaload, 1) := by decide +kernel
theorem d_L_law_620 : decode (mB M_L_law) 620 = .ok (.aload_n 0, 1) := by decide +kernel
theorem d_L_law_621 : decode (mB M_L_law) 621 = .ok (.iload 4, 2) := by decide +kernel
theorem d_L_law_623 : decode (mB M_L_law) 623 = .ok (.iconst 2, 1) := by decide +kernel
theorem d_L_law_624 : decode (mB M_L_law) 624 = .ok (.iadd, 1) := by decide +kernel
theorem d_L_law_625 : decode (mB M_L_law) 625 = .ok (.iaload, 1) := by decide +kernel
theorem d_L_law_626 : decode (mB M_L_law) 626 = .ok (.aload_n 3, 1) := by decide +kernel
theorem d_L_law_627 : decode (mB M_L_law) 627 = .ok (.invokestatic 141, 3) := by decide +kernel
theorem d_L_law_630 : decode (mB M_L_law) 630 = .ok (.istore 5, 2) := by decide +kernel
theorem d_L_law_632 : decode (mB M_L_law) 632 = .ok (.aload_n 2, 1) := by decide +kernel
theorem d_L_law_633 : decode (mB M_L_law) 633 = .ok (.aload_n 0, 1) := by decide +kernel
theorem d_L_law_634 : decode (mB M_L_law) 634 = .ok (.iload 4, 2) := by decide +kernel
theorem d_L_law_636 : decode (mB M_L_law) 636 = .ok (.iconst 1, 1) := by decide +kernel
theorem d_L_law_637 : decode (mB M_L_law) 637 = .ok (.iadd, 1) := by decide +kernel
theorem d_L_law_638 : decode (mB M_L_law) 638 = .ok (.iaload, 1) := by decide +kernel
theorem d_L_law_639 : decode (mB M_L_law) 639 = .ok (.aload_n 0, 1) := by decide +kernel
theorem d_L_law_640 : decode (mB M_L_law) 640 = .ok (.iload 4, 2) := by decide +kernel
theorem d_L_law_642 : decode (mB M_L_law) 642 = .ok (.iconst 2, 1) := by decide +kernel
theorem d_L_law_643 : decode (mB M_L_law) 643 = .ok (.iadd, 1) := by decide +kernel
theorem d_L_law_644 : decode (mB M_L_law) 644 = .ok (.iaload, 1) := by decide +kernel
theorem d_L_law_645 : decode (mB M_L_law) 645 = .ok (.invokevirtual 143, 3) := by decide +kernel
theorem d_L_law_648 : decode (mB M_L_law) 648 = .ok (.istore 6, 2) := by decide +kernel
theorem d_L_law_650 : decode (mB M_L_law) 650 = .ok (.aload_n 2, 1) := by decide +kernel
theorem d_L_law_651 : decode (mB M_L_law) 651 = .ok (.invokevirtual 113, 3) := by decide +kernel
theorem d_L_law_654 : decode (mB M_L_law) 654 = .ok (.iload 5, 2) := by decide +kernel
theorem d_L_law_656 : decode (mB M_L_law) 656 = .ok (.if_icmp .eq 5, 3) := by decide +kernel
theorem d_L_law_661 : decode (mB M_L_law) 661 = .ok (.iload 5, 2) := by decide +kernel
theorem d_L_law_663 : decode (mB M_L_law) 663 = .ok (.ifCond .ne 15, 3) := by decide +kernel
theorem d_L_law_666 : decode (mB M_L_law) 666 = .ok (.aload_n 3, 1) := by decide +kernel
theorem d_L_law_667 : decode (mB M_L_law) 667 = .ok (.iconst 0, 1) := by decide +kernel
theorem d_L_law_668 : decode (mB M_L_law) 668 = .ok (.laload, 1) := by decide +kernel
theorem d_L_law_669 : decode (mB M_L_law) 669 = .ok (.iload 6, 2) := by decide +kernel
theorem d_L_law_671 : decode (mB M_L_law) 671 = .ok (.i2l, 1) := by decide +kernel
theorem d_L_law_672 : decode (mB M_L_law) 672 = .ok (.lcmp, 1) := by decide +kernel
theorem d_L_law_673 : decode (mB M_L_law) 673 = .ok (.ifCond .eq 5, 3) := by decide +kernel
theorem d_L_law_678 : decode (mB M_L_law) 678 = .ok (.goto 886, 3) := by decide +kernel
theorem k_goalRoom {E : mEnv} (hE : E.1.stackTraces = false) {b L k n0 : Nat} {xs : Nat → Int32} (hL : L ≤ 1536) (hk : k + 2 < L) {t u v : xT} {c c' : cT} {kk : Int32} {r : Int32} (h0 : Rh E M_L_goalRoom n0 [.ref 100, .int (xs (k + 1)), .int (xs (k + 2)), .ref 19] (mw t, cw c) (some (.int kk)) (mw v, cw c')) (h1 : Rt E M_X12_goalRoom 0 [.ref 0, .int (xs (k + 1)), .int (xs (k + 2))] (mw v, cw c') (some (.int r)) (mw u, cw c')) (h2 : rs u 9 = kk) (h3 : kk = 0 → ro u (Int32.toNatClampNeg 0) = r.toInt64) : GoL E b L xs M_L_law n0 (613, LL k, [], (mw t, cw c)) (.inl (1564, LL k, [], (mw u, cw c'))) := by
  refine l_go0 (g_aload_n d_L_law_613 rfl (g_end rfl)) ?_
  refine l_go0 (g_aload_n d_L_law_614 rfl (g_iload d_L_law_615 rfl (g_iconst (v := 1) d_L_law_617 (by decide) (g_iadd d_L_law_618 (g_end rfl))))) ?_
  refine l_sld (j := k + 1) d_L_law_619 (ix_1 k) (by omega) hL ?_
  refine l_go0 (g_aload_n d_L_law_620 rfl (g_iload d_L_law_621 rfl (g_iconst (v := 2) d_L_law_623 (by decide) (g_iadd d_L_law_624 (g_end rfl))))) ?_
  refine l_sld (j := k + 2) d_L_law_625 (ix_2 k) (by omega) hL ?_
  refine l_go (g_aload_n d_L_law_626 rfl (g_callH (As := [.ref 100, .int (xs (k + 1)), .int (xs (k + 2)), .ref 19]) d_L_law_627 o_L_goalRoom l_L_141 ⟨Nat.le_of_ble_eq_true rfl, Nat.le_of_ble_eq_true rfl⟩ h0 rfl rfl (g_istore (L' := LL5 k kk) d_L_law_630 rfl rfl (g_end rfl)) (Nat.add_zero _))) ?_ (Nat.add_zero _)
  refine l_go0 (g_aload_n d_L_law_632 rfl (g_end rfl)) ?_
  refine l_go0 (g_aload_n d_L_law_633 rfl (g_iload d_L_law_634 rfl (g_iconst (v := 1) d_L_law_636 (by decide) (g_iadd d_L_law_637 (g_end rfl))))) ?_
  refine l_sld (j := k + 1) d_L_law_638 (ix_1 k) (by omega) hL ?_
  refine l_go0 (g_aload_n d_L_law_639 rfl (g_iload d_L_law_640 rfl (g_iconst (v := 2) d_L_law_642 (by decide) (g_iadd d_L_law_643 (g_end rfl))))) ?_
  refine l_sld (j := k + 2) d_L_law_644 (ix_2 k) (by omega) hL ?_
  refine l_go0 (g_callV (As := [.int (xs (k + 1)), .int (xs (k + 2))]) d_L_law_645 o_X12_goalRoom l_L_143 ⟨Nat.le_of_ble_eq_true rfl, Nat.le_of_ble_eq_true rfl⟩ h1 rfl rfl rfl rfl rfl rfl (g_istore (L' := (LL6 k kk r)) d_L_law_648 rfl rfl (g_end rfl)) (Nat.zero_add _)) ?_
  refine l_go0 (g_aload_n d_L_law_650 rfl (g_callV (As := []) d_L_law_651 o_X12_thrown l_L_113 ⟨Nat.le_of_ble_eq_true rfl, Nat.le_of_ble_eq_true rfl⟩ (c_m_thrown hE _ u) rfl rfl rfl rfl rfl rfl (g_iload d_L_law_654 rfl (g_icmp_eq (tgt := 661) d_L_law_656 (by decide) (fun _ => g_end rfl) (fun z => absurd h2 z))) (Nat.zero_add _))) ?_
  refine GoL.of (g_iload d_L_law_661 rfl (g_if_ne (tgt := 678) d_L_law_663 (by decide) (fun _ => g_goto (tgt := 1564) d_L_law_678 (by decide) (g_drop [5, 6, 7] rfl (g_end rfl))) (fun z => g_aload_n d_L_law_666 rfl (g_iconst (v := 0) d_L_law_667 (by decide) (g_lald (f := ro u) d_L_law_668 rfl (show ¬ ((0 : Int32) < 0 ∨ 1 ≤ Int32.toNatClampNeg 0) by decide) (g_iload d_L_law_669 rfl (g_i2l d_L_law_671 (g_lcmp_eq (tgt := 678) d_L_law_672 d_L_law_673 (by decide) (fun _ => g_goto (tgt := 1564) d_L_law_678 (by decide) (g_drop [5, 6, 7] rfl (g_end rfl))) (fun y => absurd (h3 z) y)))))))))
theorem d_L_law_681 : decode (mB M_L_law) 681 = .ok (.aload_n 1, 1) := by decide +kernel
theorem d_L_law_682 : decode (mB M_L_law) 682 = .ok (.aload_n 0, 1) := by decide +kernel
theorem d_L_law_683 : decode (mB M_L_law) 683 = .ok (.iload 4, 2) := by decide +kernel
theorem d_L_law_685 : decode (mB M_L_law) 685 = .ok (.iconst 1, 1) := by decide +kernel
theorem d_L_law_686 : decode (mB M_L_law) 686 = .ok (.iadd, 1) := by decide +kernel
theorem d_L_law_687 : decode (mB M_L_law) 687 = .ok (.iaload, 1) := by decide +kernel
theorem d_L_law_688 : decode (mB M_L_law) 688 = .ok (.aload_n 3, 1) := by decide +kernel
theorem d_L_law_689 : decode (mB M_L_law) 689 = .ok (.invokestatic 144, 3) := by decide +kernel
theorem d_L_law_692 : decode (mB M_L_law) 692 = .ok (.istore 5, 2) := by decide +kernel
theorem d_L_law_694 : decode (mB M_L_law) 694 = .ok (.aload_n 2, 1) := by decide +kernel
theorem d_L_law_695 : decode (mB M_L_law) 695 = .ok (.aload_n 0, 1) := by decide +kernel
theorem d_L_law_696 : decode (mB M_L_law) 696 = .ok (.iload 4, 2) := by decide +kernel
theorem d_L_law_698 : decode (mB M_L_law) 698 = .ok (.iconst 1, 1) := by decide +kernel
theorem d_L_law_699 : decode (mB M_L_law) 699 = .ok (.iadd, 1) := by decide +kernel
theorem d_L_law_700 : decode (mB M_L_law) 700 = .ok (.iaload, 1) := by decide +kernel
theorem d_L_law_701 : decode (mB M_L_law) 701 = .ok (.invokevirtual 146, 3) := by decide +kernel
theorem d_L_law_704 : decode (mB M_L_law) 704 = .ok (.istore 6, 2) := by decide +kernel
theorem d_L_law_706 : decode (mB M_L_law) 706 = .ok (.aload_n 2, 1) := by decide +kernel
theorem d_L_law_707 : decode (mB M_L_law) 707 = .ok (.invokevirtual 113, 3) := by decide +kernel
theorem d_L_law_710 : decode (mB M_L_law) 710 = .ok (.iload 5, 2) := by decide +kernel
theorem d_L_law_712 : decode (mB M_L_law) 712 = .ok (.if_icmp .eq 5, 3) := by decide +kernel
theorem d_L_law_717 : decode (mB M_L_law) 717 = .ok (.iload 5, 2) := by decide +kernel
theorem d_L_law_719 : decode (mB M_L_law) 719 = .ok (.ifCond .ne 15, 3) := by decide +kernel
theorem d_L_law_722 : decode (mB M_L_law) 722 = .ok (.aload_n 3, 1) := by decide +kernel
theorem d_L_law_723 : decode (mB M_L_law) 723 = .ok (.iconst 0, 1) := by decide +kernel
theorem d_L_law_724 : decode (mB M_L_law) 724 = .ok (.laload, 1) := by decide +kernel
theorem d_L_law_725 : decode (mB M_L_law) 725 = .ok (.iload 6, 2) := by decide +kernel
theorem d_L_law_727 : decode (mB M_L_law) 727 = .ok (.i2l, 1) := by decide +kernel
theorem d_L_law_728 : decode (mB M_L_law) 728 = .ok (.lcmp, 1) := by decide +kernel
theorem d_L_law_729 : decode (mB M_L_law) 729 = .ok (.ifCond .eq 5, 3) := by decide +kernel
theorem d_L_law_734 : decode (mB M_L_law) 734 = .ok (.goto 830, 3) := by decide +kernel
theorem k_step {E : mEnv} (hE : E.1.stackTraces = false) {b L k n0 : Nat} {xs : Nat → Int32} (hL : L ≤ 1536) (hk : k + 2 < L) {t u v : xT} {c c' : cT} {kk : Int32} {r : Int32} (h0 : Rh E M_L_step n0 [.ref 100, .int (xs (k + 1)), .ref 19] (mw t, cw c) (some (.int kk)) (mw v, cw c')) (h1 : Rt E M_X12_step 0 [.ref 0, .int (xs (k + 1))] (mw v, cw c') (some (.int r)) (mw u, cw c')) (h2 : rs u 9 = kk) (h3 : kk = 0 → ro u (Int32.toNatClampNeg 0) = r.toInt64) : GoL E b L xs M_L_law n0 (681, LL k, [], (mw t, cw c)) (.inl (1564, LL k, [], (mw u, cw c'))) := by
  refine l_go0 (g_aload_n d_L_law_681 rfl (g_end rfl)) ?_
  refine l_go0 (g_aload_n d_L_law_682 rfl (g_iload d_L_law_683 rfl (g_iconst (v := 1) d_L_law_685 (by decide) (g_iadd d_L_law_686 (g_end rfl))))) ?_
  refine l_sld (j := k + 1) d_L_law_687 (ix_1 k) (by omega) hL ?_
  refine l_go (g_aload_n d_L_law_688 rfl (g_callH (As := [.ref 100, .int (xs (k + 1)), .ref 19]) d_L_law_689 o_L_step l_L_144 ⟨Nat.le_of_ble_eq_true rfl, Nat.le_of_ble_eq_true rfl⟩ h0 rfl rfl (g_istore (L' := LL5 k kk) d_L_law_692 rfl rfl (g_end rfl)) (Nat.add_zero _))) ?_ (Nat.add_zero _)
  refine l_go0 (g_aload_n d_L_law_694 rfl (g_end rfl)) ?_
  refine l_go0 (g_aload_n d_L_law_695 rfl (g_iload d_L_law_696 rfl (g_iconst (v := 1) d_L_law_698 (by decide) (g_iadd d_L_law_699 (g_end rfl))))) ?_
  refine l_sld (j := k + 1) d_L_law_700 (ix_1 k) (by omega) hL ?_
  refine l_go0 (g_callV (As := [.int (xs (k + 1))]) d_L_law_701 o_X12_step l_L_146 ⟨Nat.le_of_ble_eq_true rfl, Nat.le_of_ble_eq_true rfl⟩ h1 rfl rfl rfl rfl rfl rfl (g_istore (L' := (LL6 k kk r)) d_L_law_704 rfl rfl (g_end rfl)) (Nat.zero_add _)) ?_
  refine l_go0 (g_aload_n d_L_law_706 rfl (g_callV (As := []) d_L_law_707 o_X12_thrown l_L_113 ⟨Nat.le_of_ble_eq_true rfl, Nat.le_of_ble_eq_true rfl⟩ (c_m_thrown hE _ u) rfl rfl rfl rfl rfl rfl (g_iload d_L_law_710 rfl (g_icmp_eq (tgt := 717) d_L_law_712 (by decide) (fun _ => g_end rfl) (fun z => absurd h2 z))) (Nat.zero_add _))) ?_
  refine GoL.of (g_iload d_L_law_717 rfl (g_if_ne (tgt := 734) d_L_law_719 (by decide) (fun _ => g_goto (tgt := 1564) d_L_law_734 (by decide) (g_drop [5, 6, 7] rfl (g_end rfl))) (fun z => g_aload_n d_L_law_722 rfl (g_iconst (v := 0) d_L_law_723 (by decide) (g_lald (f := ro u) d_L_law_724 rfl (show ¬ ((0 : Int32) < 0 ∨ 1 ≤ Int32.toNatClampNeg 0) by decide) (g_iload d_L_law_725 rfl (g_i2l d_L_law_727 (g_lcmp_eq (tgt := 734) d_L_law_728 d_L_law_729 (by decide) (fun _ => g_goto (tgt := 1564) d_L_law_734 (by decide) (g_drop [5, 6, 7] rfl (g_end rfl))) (fun y => absurd (h3 z) y)))))))))
theorem d_L_law_737 : decode (mB M_L_law) 737 = .ok (.aload_n 1, 1) := by decide +kernel
theorem d_L_law_738 : decode (mB M_L_law) 738 = .ok (.aload_n 0, 1) := by decide +kernel
theorem d_L_law_739 : decode (mB M_L_law) 739 = .ok (.iload 4, 2) := by decide +kernel
theorem d_L_law_741 : decode (mB M_L_law) 741 = .ok (.iconst 1, 1) := by decide +kernel
theorem d_L_law_742 : decode (mB M_L_law) 742 = .ok (.iadd, 1) := by decide +kernel
theorem d_L_law_743 : decode (mB M_L_law) 743 = .ok (.iaload, 1) := by decide +kernel
theorem d_L_law_744 : decode (mB M_L_law) 744 = .ok (.aload_n 0, 1) := by decide +kernel
theorem d_L_law_745 : decode (mB M_L_law) 745 = .ok (.iload 4, 2) := by decide +kernel
theorem d_L_law_747 : decode (mB M_L_law) 747 = .ok (.iconst 2, 1) := by decide +kernel
theorem d_L_law_748 : decode (mB M_L_law) 748 = .ok (.iadd, 1) := by decide +kernel
theorem d_L_law_749 : decode (mB M_L_law) 749 = .ok (.iaload, 1) := by decide +kernel
theorem d_L_law_750 : decode (mB M_L_law) 750 = .ok (.aload_n 3, 1) := by decide +kernel
theorem d_L_law_751 : decode (mB M_L_law) 751 = .ok (.invokestatic 147, 3) := by decide +kernel
theorem d_L_law_754 : decode (mB M_L_law) 754 = .ok (.istore 5, 2) := by decide +kernel
theorem d_L_law_756 : decode (mB M_L_law) 756 = .ok (.aload_n 2, 1) := by decide +kernel
theorem d_L_law_757 : decode (mB M_L_law) 757 = .ok (.aload_n 0, 1) := by decide +kernel
theorem d_L_law_758 : decode (mB M_L_law) 758 = .ok (.iload 4, 2) := by decide +kernel
theorem d_L_law_760 : decode (mB M_L_law) 760 = .ok (.iconst 1, 1) := by decide +kernel
theorem d_L_law_761 : decode (mB M_L_law) 761 = .ok (.iadd, 1) := by decide +kernel
theorem d_L_law_762 : decode (mB M_L_law) 762 = .ok (.iaload, 1) := by decide +kernel
theorem d_L_law_763 : decode (mB M_L_law) 763 = .ok (.aload_n 0, 1) := by decide +kernel
theorem d_L_law_764 : decode (mB M_L_law) 764 = .ok (.iload 4, 2) := by decide +kernel
theorem d_L_law_766 : decode (mB M_L_law) 766 = .ok (.iconst 2, 1) := by decide +kernel
theorem d_L_law_767 : decode (mB M_L_law) 767 = .ok (.iadd, 1) := by decide +kernel
theorem d_L_law_768 : decode (mB M_L_law) 768 = .ok (.iaload, 1) := by decide +kernel
theorem d_L_law_769 : decode (mB M_L_law) 769 = .ok (.invokevirtual 149, 3) := by decide +kernel
theorem d_L_law_772 : decode (mB M_L_law) 772 = .ok (.istore 6, 2) := by decide +kernel
theorem d_L_law_774 : decode (mB M_L_law) 774 = .ok (.aload_n 2, 1) := by decide +kernel
theorem d_L_law_775 : decode (mB M_L_law) 775 = .ok (.invokevirtual 113, 3) := by decide +kernel
theorem d_L_law_778 : decode (mB M_L_law) 778 = .ok (.iload 5, 2) := by decide +kernel
theorem d_L_law_780 : decode (mB M_L_law) 780 = .ok (.if_icmp .eq 5, 3) := by decide +kernel
theorem d_L_law_785 : decode (mB M_L_law) 785 = .ok (.iload 5, 2) := by decide +kernel
theorem d_L_law_787 : decode (mB M_L_law) 787 = .ok (.ifCond .ne 15, 3) := by decide +kernel
theorem d_L_law_790 : decode (mB M_L_law) 790 = .ok (.aload_n 3, 1) := by decide +kernel
theorem d_L_law_791 : decode (mB M_L_law) 791 = .ok (.iconst 0, 1) := by decide +kernel
theorem d_L_law_792 : decode (mB M_L_law) 792 = .ok (.laload, 1) := by decide +kernel
theorem d_L_law_793 : decode (mB M_L_law) 793 = .ok (.iload 6, 2) := by decide +kernel
theorem d_L_law_795 : decode (mB M_L_law) 795 = .ok (.i2l, 1) := by decide +kernel
theorem d_L_law_796 : decode (mB M_L_law) 796 = .ok (.lcmp, 1) := by decide +kernel
theorem d_L_law_797 : decode (mB M_L_law) 797 = .ok (.ifCond .eq 5, 3) := by decide +kernel
theorem d_L_law_802 : decode (mB M_L_law) 802 = .ok (.goto 762, 3) := by decide +kernel
theorem k_push {E : mEnv} (hE : E.1.stackTraces = false) {b L k n0 : Nat} {xs : Nat → Int32} (hL : L ≤ 1536) (hk : k + 2 < L) {t u v : xT} {c c' : cT} {kk : Int32} {r : Int32} (h0 : Rh E M_L_push n0 [.ref 100, .int (xs (k + 1)), .int (xs (k + 2)), .ref 19] (mw t, cw c) (some (.int kk)) (mw v, cw c')) (h1 : Rt E M_X12_push 0 [.ref 0, .int (xs (k + 1)), .int (xs (k + 2))] (mw v, cw c') (some (.int r)) (mw u, cw c')) (h2 : rs u 9 = kk) (h3 : kk = 0 → ro u (Int32.toNatClampNeg 0) = r.toInt64) : GoL E b L xs M_L_law n0 (737, LL k, [], (mw t, cw c)) (.inl (1564, LL k, [], (mw u, cw c'))) := by
  refine l_go0 (g_aload_n d_L_law_737 rfl (g_end rfl)) ?_
  refine l_go0 (g_aload_n d_L_law_738 rfl (g_iload d_L_law_739 rfl (g_iconst (v := 1) d_L_law_741 (by decide) (g_iadd d_L_law_742 (g_end rfl))))) ?_
  refine l_sld (j := k + 1) d_L_law_743 (ix_1 k) (by omega) hL ?_
  refine l_go0 (g_aload_n d_L_law_744 rfl (g_iload d_L_law_745 rfl (g_iconst (v := 2) d_L_law_747 (by decide) (g_iadd d_L_law_748 (g_end rfl))))) ?_
  refine l_sld (j := k + 2) d_L_law_749 (ix_2 k) (by omega) hL ?_
  refine l_go (g_aload_n d_L_law_750 rfl (g_callH (As := [.ref 100, .int (xs (k + 1)), .int (xs (k + 2)), .ref 19]) d_L_law_751 o_L_push l_L_147 ⟨Nat.le_of_ble_eq_true rfl, Nat.le_of_ble_eq_true rfl⟩ h0 rfl rfl (g_istore (L' := LL5 k kk) d_L_law_754 rfl rfl (g_end rfl)) (Nat.add_zero _))) ?_ (Nat.add_zero _)
  refine l_go0 (g_aload_n d_L_law_756 rfl (g_end rfl)) ?_
  refine l_go0 (g_aload_n d_L_law_757 rfl (g_iload d_L_law_758 rfl (g_iconst (v := 1) d_L_law_760 (by decide) (g_iadd d_L_law_761 (g_end rfl))))) ?_
  refine l_sld (j := k + 1) d_L_law_762 (ix_1 k) (by omega) hL ?_
  refine l_go0 (g_aload_n d_L_law_763 rfl (g_iload d_L_law_764 rfl (g_iconst (v := 2) d_L_law_766 (by decide) (g_iadd d_L_law_767 (g_end rfl))))) ?_
  refine l_sld (j := k + 2) d_L_law_768 (ix_2 k) (by omega) hL ?_
  refine l_go0 (g_callV (As := [.int (xs (k + 1)), .int (xs (k + 2))]) d_L_law_769 o_X12_push l_L_149 ⟨Nat.le_of_ble_eq_true rfl, Nat.le_of_ble_eq_true rfl⟩ h1 rfl rfl rfl rfl rfl rfl (g_istore (L' := (LL6 k kk r)) d_L_law_772 rfl rfl (g_end rfl)) (Nat.zero_add _)) ?_
  refine l_go0 (g_aload_n d_L_law_774 rfl (g_callV (As := []) d_L_law_775 o_X12_thrown l_L_113 ⟨Nat.le_of_ble_eq_true rfl, Nat.le_of_ble_eq_true rfl⟩ (c_m_thrown hE _ u) rfl rfl rfl rfl rfl rfl (g_iload d_L_law_778 rfl (g_icmp_eq (tgt := 785) d_L_law_780 (by decide) (fun _ => g_end rfl) (fun z => absurd h2 z))) (Nat.zero_add _))) ?_
  refine GoL.of (g_iload d_L_law_785 rfl (g_if_ne (tgt := 802) d_L_law_787 (by decide) (fun _ => g_goto (tgt := 1564) d_L_law_802 (by decide) (g_drop [5, 6, 7] rfl (g_end rfl))) (fun z => g_aload_n d_L_law_790 rfl (g_iconst (v := 0) d_L_law_791 (by decide) (g_lald (f := ro u) d_L_law_792 rfl (show ¬ ((0 : Int32) < 0 ∨ 1 ≤ Int32.toNatClampNeg 0) by decide) (g_iload d_L_law_793 rfl (g_i2l d_L_law_795 (g_lcmp_eq (tgt := 802) d_L_law_796 d_L_law_797 (by decide) (fun _ => g_goto (tgt := 1564) d_L_law_802 (by decide) (g_drop [5, 6, 7] rfl (g_end rfl))) (fun y => absurd (h3 z) y)))))))))
theorem d_L_law_805 : decode (mB M_L_law) 805 = .ok (.aload_n 1, 1) := by decide +kernel
theorem d_L_law_806 : decode (mB M_L_law) 806 = .ok (.aload_n 0, 1) := by decide +kernel
theorem d_L_law_807 : decode (mB M_L_law) 807 = .ok (.iload 4, 2) := by decide +kernel
theorem d_L_law_809 : decode (mB M_L_law) 809 = .ok (.iconst 1, 1) := by decide +kernel
theorem d_L_law_810 : decode (mB M_L_law) 810 = .ok (.iadd, 1) := by decide +kernel
theorem d_L_law_811 : decode (mB M_L_law) 811 = .ok (.iaload, 1) := by decide +kernel
theorem d_L_law_812 : decode (mB M_L_law) 812 = .ok (.aload_n 0, 1) := by decide +kernel
theorem d_L_law_813 : decode (mB M_L_law) 813 = .ok (.iload 4, 2) := by decide +kernel
theorem d_L_law_815 : decode (mB M_L_law) 815 = .ok (.iconst 2, 1) := by decide +kernel
theorem d_L_law_816 : decode (mB M_L_law) 816 = .ok (.iadd, 1) := by decide +kernel
theorem d_L_law_817 : decode (mB M_L_law) 817 = .ok (.iaload, 1) := by decide +kernel
theorem d_L_law_818 : decode (mB M_L_law) 818 = .ok (.aload_n 3, 1) := by decide +kernel
theorem d_L_law_819 : decode (mB M_L_law) 819 = .ok (.invokestatic 150, 3) := by decide +kernel
theorem d_L_law_822 : decode (mB M_L_law) 822 = .ok (.istore 5, 2) := by decide +kernel
theorem d_L_law_824 : decode (mB M_L_law) 824 = .ok (.aload_n 2, 1) := by decide +kernel
theorem d_L_law_825 : decode (mB M_L_law) 825 = .ok (.aload_n 0, 1) := by decide +kernel
theorem d_L_law_826 : decode (mB M_L_law) 826 = .ok (.iload 4, 2) := by decide +kernel
theorem d_L_law_828 : decode (mB M_L_law) 828 = .ok (.iconst 1, 1) := by decide +kernel
theorem d_L_law_829 : decode (mB M_L_law) 829 = .ok (.iadd, 1) := by decide +kernel
theorem d_L_law_830 : decode (mB M_L_law) 830 = .ok (.iaload, 1) := by decide +kernel
theorem d_L_law_831 : decode (mB M_L_law) 831 = .ok (.aload_n 0, 1) := by decide +kernel
theorem d_L_law_832 : decode (mB M_L_law) 832 = .ok (.iload 4, 2) := by decide +kernel
theorem d_L_law_834 : decode (mB M_L_law) 834 = .ok (.iconst 2, 1) := by decide +kernel
theorem d_L_law_835 : decode (mB M_L_law) 835 = .ok (.iadd, 1) := by decide +kernel
theorem d_L_law_836 : decode (mB M_L_law) 836 = .ok (.iaload, 1) := by decide +kernel
theorem d_L_law_837 : decode (mB M_L_law) 837 = .ok (.invokevirtual 152, 3) := by decide +kernel
theorem d_L_law_840 : decode (mB M_L_law) 840 = .ok (.istore 6, 2) := by decide +kernel
theorem d_L_law_842 : decode (mB M_L_law) 842 = .ok (.aload_n 2, 1) := by decide +kernel
theorem d_L_law_843 : decode (mB M_L_law) 843 = .ok (.invokevirtual 113, 3) := by decide +kernel
theorem d_L_law_846 : decode (mB M_L_law) 846 = .ok (.iload 5, 2) := by decide +kernel
theorem d_L_law_848 : decode (mB M_L_law) 848 = .ok (.if_icmp .eq 5, 3) := by decide +kernel
theorem d_L_law_853 : decode (mB M_L_law) 853 = .ok (.iload 5, 2) := by decide +kernel
theorem d_L_law_855 : decode (mB M_L_law) 855 = .ok (.ifCond .ne 15, 3) := by decide +kernel
theorem d_L_law_858 : decode (mB M_L_law) 858 = .ok (.aload_n 3, 1) := by decide +kernel
theorem d_L_law_859 : decode (mB M_L_law) 859 = .ok (.iconst 0, 1) := by decide +kernel
theorem d_L_law_860 : decode (mB M_L_law) 860 = .ok (.laload, 1) := by decide +kernel
theorem d_L_law_861 : decode (mB M_L_law) 861 = .ok (.iload 6, 2) := by decide +kernel
theorem d_L_law_863 : decode (mB M_L_law) 863 = .ok (.i2l, 1) := by decide +kernel
theorem d_L_law_864 : decode (mB M_L_law) 864 = .ok (.lcmp, 1) := by decide +kernel
theorem d_L_law_865 : decode (mB M_L_law) 865 = .ok (.ifCond .eq 5, 3) := by decide +kernel
theorem d_L_law_870 : decode (mB M_L_law) 870 = .ok (.goto 694, 3) := by decide +kernel
theorem k_longPush {E : mEnv} (hE : E.1.stackTraces = false) {b L k n0 : Nat} {xs : Nat → Int32} (hL : L ≤ 1536) (hk : k + 2 < L) {t u v : xT} {c c' : cT} {kk : Int32} {r : Int32} (h0 : Rh E M_L_longPush n0 [.ref 100, .int (xs (k + 1)), .int (xs (k + 2)), .ref 19] (mw t, cw c) (some (.int kk)) (mw v, cw c')) (h1 : Rt E M_X12_longPush 0 [.ref 0, .int (xs (k + 1)), .int (xs (k + 2))] (mw v, cw c') (some (.int r)) (mw u, cw c')) (h2 : rs u 9 = kk) (h3 : kk = 0 → ro u (Int32.toNatClampNeg 0) = r.toInt64) : GoL E b L xs M_L_law n0 (805, LL k, [], (mw t, cw c)) (.inl (1564, LL k, [], (mw u, cw c'))) := by
  refine l_go0 (g_aload_n d_L_law_805 rfl (g_end rfl)) ?_
  refine l_go0 (g_aload_n d_L_law_806 rfl (g_iload d_L_law_807 rfl (g_iconst (v := 1) d_L_law_809 (by decide) (g_iadd d_L_law_810 (g_end rfl))))) ?_
  refine l_sld (j := k + 1) d_L_law_811 (ix_1 k) (by omega) hL ?_
  refine l_go0 (g_aload_n d_L_law_812 rfl (g_iload d_L_law_813 rfl (g_iconst (v := 2) d_L_law_815 (by decide) (g_iadd d_L_law_816 (g_end rfl))))) ?_
  refine l_sld (j := k + 2) d_L_law_817 (ix_2 k) (by omega) hL ?_
  refine l_go (g_aload_n d_L_law_818 rfl (g_callH (As := [.ref 100, .int (xs (k + 1)), .int (xs (k + 2)), .ref 19]) d_L_law_819 o_L_longPush l_L_150 ⟨Nat.le_of_ble_eq_true rfl, Nat.le_of_ble_eq_true rfl⟩ h0 rfl rfl (g_istore (L' := LL5 k kk) d_L_law_822 rfl rfl (g_end rfl)) (Nat.add_zero _))) ?_ (Nat.add_zero _)
  refine l_go0 (g_aload_n d_L_law_824 rfl (g_end rfl)) ?_
  refine l_go0 (g_aload_n d_L_law_825 rfl (g_iload d_L_law_826 rfl (g_iconst (v := 1) d_L_law_828 (by decide) (g_iadd d_L_law_829 (g_end rfl))))) ?_
  refine l_sld (j := k + 1) d_L_law_830 (ix_1 k) (by omega) hL ?_
  refine l_go0 (g_aload_n d_L_law_831 rfl (g_iload d_L_law_832 rfl (g_iconst (v := 2) d_L_law_834 (by decide) (g_iadd d_L_law_835 (g_end rfl))))) ?_
  refine l_sld (j := k + 2) d_L_law_836 (ix_2 k) (by omega) hL ?_
  refine l_go0 (g_callV (As := [.int (xs (k + 1)), .int (xs (k + 2))]) d_L_law_837 o_X12_longPush l_L_152 ⟨Nat.le_of_ble_eq_true rfl, Nat.le_of_ble_eq_true rfl⟩ h1 rfl rfl rfl rfl rfl rfl (g_istore (L' := (LL6 k kk r)) d_L_law_840 rfl rfl (g_end rfl)) (Nat.zero_add _)) ?_
  refine l_go0 (g_aload_n d_L_law_842 rfl (g_callV (As := []) d_L_law_843 o_X12_thrown l_L_113 ⟨Nat.le_of_ble_eq_true rfl, Nat.le_of_ble_eq_true rfl⟩ (c_m_thrown hE _ u) rfl rfl rfl rfl rfl rfl (g_iload d_L_law_846 rfl (g_icmp_eq (tgt := 853) d_L_law_848 (by decide) (fun _ => g_end rfl) (fun z => absurd h2 z))) (Nat.zero_add _))) ?_
  refine GoL.of (g_iload d_L_law_853 rfl (g_if_ne (tgt := 870) d_L_law_855 (by decide) (fun _ => g_goto (tgt := 1564) d_L_law_870 (by decide) (g_drop [5, 6, 7] rfl (g_end rfl))) (fun z => g_aload_n d_L_law_858 rfl (g_iconst (v := 0) d_L_law_859 (by decide) (g_lald (f := ro u) d_L_law_860 rfl (show ¬ ((0 : Int32) < 0 ∨ 1 ≤ Int32.toNatClampNeg 0) by decide) (g_iload d_L_law_861 rfl (g_i2l d_L_law_863 (g_lcmp_eq (tgt := 870) d_L_law_864 d_L_law_865 (by decide) (fun _ => g_goto (tgt := 1564) d_L_law_870 (by decide) (g_drop [5, 6, 7] rfl (g_end rfl))) (fun y => absurd (h3 z) y)))))))))
