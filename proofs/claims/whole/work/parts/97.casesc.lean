/-! The law's cases: one call of the class, the same of the model. -/
theorem dL_law_678 : decode cL_law 678 = .ok (.aload_n 1, 1) := by decide +kernel
theorem dL_law_679 : decode cL_law 679 = .ok (.aload_n 0, 1) := by decide +kernel
theorem dL_law_680 : decode cL_law 680 = .ok (.iload_n 3, 1) := by decide +kernel
theorem dL_law_681 : decode cL_law 681 = .ok (.iconst 1, 1) := by decide +kernel
theorem dL_law_682 : decode cL_law 682 = .ok (.iadd, 1) := by decide +kernel
theorem dL_law_683 : decode cL_law 683 = .ok (.iaload, 1) := by decide +kernel
theorem dL_law_684 : decode cL_law 684 = .ok (.aload_n 0, 1) := by decide +kernel
theorem dL_law_685 : decode cL_law 685 = .ok (.iload_n 3, 1) := by decide +kernel
theorem dL_law_686 : decode cL_law 686 = .ok (.iconst 2, 1) := by decide +kernel
theorem dL_law_687 : decode cL_law 687 = .ok (.iadd, 1) := by decide +kernel
theorem dL_law_688 : decode cL_law 688 = .ok (.iaload, 1) := by decide +kernel
theorem dL_law_689 : decode cL_law 689 = .ok (.aload_n 0, 1) := by decide +kernel
theorem dL_law_690 : decode cL_law 690 = .ok (.iload_n 3, 1) := by decide +kernel
theorem dL_law_691 : decode cL_law 691 = .ok (.iconst 3, 1) := by decide +kernel
theorem dL_law_692 : decode cL_law 692 = .ok (.iadd, 1) := by decide +kernel
theorem dL_law_693 : decode cL_law 693 = .ok (.iaload, 1) := by decide +kernel
theorem dL_law_694 : decode cL_law 694 = .ok (.aload_n 0, 1) := by decide +kernel
theorem dL_law_695 : decode cL_law 695 = .ok (.iload_n 3, 1) := by decide +kernel
theorem dL_law_696 : decode cL_law 696 = .ok (.iconst 4, 1) := by decide +kernel
theorem dL_law_697 : decode cL_law 697 = .ok (.iadd, 1) := by decide +kernel
theorem dL_law_698 : decode cL_law 698 = .ok (.iaload, 1) := by decide +kernel
theorem dL_law_699 : decode cL_law 699 = .ok (.aload_n 0, 1) := by decide +kernel
theorem dL_law_700 : decode cL_law 700 = .ok (.iload_n 3, 1) := by decide +kernel
theorem dL_law_701 : decode cL_law 701 = .ok (.iconst 5, 1) := by decide +kernel
theorem dL_law_702 : decode cL_law 702 = .ok (.iadd, 1) := by decide +kernel
theorem dL_law_703 : decode cL_law 703 = .ok (.iaload, 1) := by decide +kernel
theorem dL_law_704 : decode cL_law 704 = .ok (.invokevirtual 66, 3) := by decide +kernel
theorem dL_law_707 : decode cL_law 707 = .ok (.aload_n 2, 1) := by decide +kernel
theorem dL_law_708 : decode cL_law 708 = .ok (.aload_n 0, 1) := by decide +kernel
theorem dL_law_709 : decode cL_law 709 = .ok (.iload_n 3, 1) := by decide +kernel
theorem dL_law_710 : decode cL_law 710 = .ok (.iconst 1, 1) := by decide +kernel
theorem dL_law_711 : decode cL_law 711 = .ok (.iadd, 1) := by decide +kernel
theorem dL_law_712 : decode cL_law 712 = .ok (.iaload, 1) := by decide +kernel
theorem dL_law_713 : decode cL_law 713 = .ok (.aload_n 0, 1) := by decide +kernel
theorem dL_law_714 : decode cL_law 714 = .ok (.iload_n 3, 1) := by decide +kernel
theorem dL_law_715 : decode cL_law 715 = .ok (.iconst 2, 1) := by decide +kernel
theorem dL_law_716 : decode cL_law 716 = .ok (.iadd, 1) := by decide +kernel
theorem dL_law_717 : decode cL_law 717 = .ok (.iaload, 1) := by decide +kernel
theorem dL_law_718 : decode cL_law 718 = .ok (.aload_n 0, 1) := by decide +kernel
theorem dL_law_719 : decode cL_law 719 = .ok (.iload_n 3, 1) := by decide +kernel
theorem dL_law_720 : decode cL_law 720 = .ok (.iconst 3, 1) := by decide +kernel
theorem dL_law_721 : decode cL_law 721 = .ok (.iadd, 1) := by decide +kernel
theorem dL_law_722 : decode cL_law 722 = .ok (.iaload, 1) := by decide +kernel
theorem dL_law_723 : decode cL_law 723 = .ok (.aload_n 0, 1) := by decide +kernel
theorem dL_law_724 : decode cL_law 724 = .ok (.iload_n 3, 1) := by decide +kernel
theorem dL_law_725 : decode cL_law 725 = .ok (.iconst 4, 1) := by decide +kernel
theorem dL_law_726 : decode cL_law 726 = .ok (.iadd, 1) := by decide +kernel
theorem dL_law_727 : decode cL_law 727 = .ok (.iaload, 1) := by decide +kernel
theorem dL_law_728 : decode cL_law 728 = .ok (.aload_n 0, 1) := by decide +kernel
theorem dL_law_729 : decode cL_law 729 = .ok (.iload_n 3, 1) := by decide +kernel
theorem dL_law_730 : decode cL_law 730 = .ok (.iconst 5, 1) := by decide +kernel
theorem dL_law_731 : decode cL_law 731 = .ok (.iadd, 1) := by decide +kernel
theorem dL_law_732 : decode cL_law 732 = .ok (.iaload, 1) := by decide +kernel
theorem dL_law_733 : decode cL_law 733 = .ok (.invokevirtual 69, 3) := by decide +kernel
theorem dL_law_736 : decode cL_law 736 = .ok (.if_icmp .eq 608, 3) := by decide +kernel
theorem dL_law_741 : decode cL_law 741 = .ok (.aload_n 1, 1) := by decide +kernel
theorem dL_law_742 : decode cL_law 742 = .ok (.aload_n 0, 1) := by decide +kernel
theorem dL_law_743 : decode cL_law 743 = .ok (.iload_n 3, 1) := by decide +kernel
theorem dL_law_744 : decode cL_law 744 = .ok (.iconst 1, 1) := by decide +kernel
theorem dL_law_745 : decode cL_law 745 = .ok (.iadd, 1) := by decide +kernel
theorem dL_law_746 : decode cL_law 746 = .ok (.iaload, 1) := by decide +kernel
theorem dL_law_747 : decode cL_law 747 = .ok (.invokevirtual 70, 3) := by decide +kernel
theorem dL_law_750 : decode cL_law 750 = .ok (.aload_n 2, 1) := by decide +kernel
theorem dL_law_751 : decode cL_law 751 = .ok (.aload_n 0, 1) := by decide +kernel
theorem dL_law_752 : decode cL_law 752 = .ok (.iload_n 3, 1) := by decide +kernel
theorem dL_law_753 : decode cL_law 753 = .ok (.iconst 1, 1) := by decide +kernel
theorem dL_law_754 : decode cL_law 754 = .ok (.iadd, 1) := by decide +kernel
theorem dL_law_755 : decode cL_law 755 = .ok (.iaload, 1) := by decide +kernel
theorem dL_law_756 : decode cL_law 756 = .ok (.invokevirtual 73, 3) := by decide +kernel
theorem dL_law_759 : decode cL_law 759 = .ok (.if_icmp .eq 585, 3) := by decide +kernel
theorem dL_law_764 : decode cL_law 764 = .ok (.aload_n 1, 1) := by decide +kernel
theorem dL_law_765 : decode cL_law 765 = .ok (.invokevirtual 74, 3) := by decide +kernel
theorem dL_law_768 : decode cL_law 768 = .ok (.aload_n 2, 1) := by decide +kernel
theorem dL_law_769 : decode cL_law 769 = .ok (.invokevirtual 78, 3) := by decide +kernel
theorem dL_law_772 : decode cL_law 772 = .ok (.if_icmp .eq 572, 3) := by decide +kernel
theorem dL_law_777 : decode cL_law 777 = .ok (.aload_n 1, 1) := by decide +kernel
theorem dL_law_778 : decode cL_law 778 = .ok (.invokevirtual 79, 3) := by decide +kernel
theorem dL_law_781 : decode cL_law 781 = .ok (.aload_n 2, 1) := by decide +kernel
theorem dL_law_782 : decode cL_law 782 = .ok (.invokevirtual 82, 3) := by decide +kernel
theorem dL_law_785 : decode cL_law 785 = .ok (.if_icmp .eq 559, 3) := by decide +kernel
theorem dL_law_790 : decode cL_law 790 = .ok (.aload_n 1, 1) := by decide +kernel
theorem dL_law_791 : decode cL_law 791 = .ok (.aload_n 0, 1) := by decide +kernel
theorem dL_law_792 : decode cL_law 792 = .ok (.iload_n 3, 1) := by decide +kernel
theorem dL_law_793 : decode cL_law 793 = .ok (.iconst 1, 1) := by decide +kernel
theorem dL_law_794 : decode cL_law 794 = .ok (.iadd, 1) := by decide +kernel
theorem dL_law_795 : decode cL_law 795 = .ok (.iaload, 1) := by decide +kernel
theorem dL_law_796 : decode cL_law 796 = .ok (.invokevirtual 83, 3) := by decide +kernel
theorem dL_law_799 : decode cL_law 799 = .ok (.aload_n 2, 1) := by decide +kernel
theorem dL_law_800 : decode cL_law 800 = .ok (.aload_n 0, 1) := by decide +kernel
theorem dL_law_801 : decode cL_law 801 = .ok (.iload_n 3, 1) := by decide +kernel
theorem dL_law_802 : decode cL_law 802 = .ok (.iconst 1, 1) := by decide +kernel
theorem dL_law_803 : decode cL_law 803 = .ok (.iadd, 1) := by decide +kernel
theorem dL_law_804 : decode cL_law 804 = .ok (.iaload, 1) := by decide +kernel
theorem dL_law_805 : decode cL_law 805 = .ok (.invokevirtual 86, 3) := by decide +kernel
theorem dL_law_808 : decode cL_law 808 = .ok (.if_icmp .eq 536, 3) := by decide +kernel
theorem dL_law_813 : decode cL_law 813 = .ok (.aload_n 1, 1) := by decide +kernel
theorem dL_law_814 : decode cL_law 814 = .ok (.aload_n 0, 1) := by decide +kernel
theorem dL_law_815 : decode cL_law 815 = .ok (.iload_n 3, 1) := by decide +kernel
theorem dL_law_816 : decode cL_law 816 = .ok (.iconst 1, 1) := by decide +kernel
theorem dL_law_817 : decode cL_law 817 = .ok (.iadd, 1) := by decide +kernel
theorem dL_law_818 : decode cL_law 818 = .ok (.iaload, 1) := by decide +kernel
theorem dL_law_819 : decode cL_law 819 = .ok (.aload_n 0, 1) := by decide +kernel
theorem dL_law_820 : decode cL_law 820 = .ok (.iload_n 3, 1) := by decide +kernel
theorem dL_law_821 : decode cL_law 821 = .ok (.iconst 2, 1) := by decide +kernel
theorem dL_law_822 : decode cL_law 822 = .ok (.iadd, 1) := by decide +kernel
theorem dL_law_823 : decode cL_law 823 = .ok (.iaload, 1) := by decide +kernel
theorem dL_law_824 : decode cL_law 824 = .ok (.invokevirtual 87, 3) := by decide +kernel
theorem dL_law_827 : decode cL_law 827 = .ok (.aload_n 2, 1) := by decide +kernel
theorem dL_law_828 : decode cL_law 828 = .ok (.aload_n 0, 1) := by decide +kernel
theorem dL_law_829 : decode cL_law 829 = .ok (.iload_n 3, 1) := by decide +kernel
theorem dL_law_830 : decode cL_law 830 = .ok (.iconst 1, 1) := by decide +kernel
theorem dL_law_831 : decode cL_law 831 = .ok (.iadd, 1) := by decide +kernel
theorem dL_law_832 : decode cL_law 832 = .ok (.iaload, 1) := by decide +kernel
theorem dL_law_833 : decode cL_law 833 = .ok (.aload_n 0, 1) := by decide +kernel
theorem dL_law_834 : decode cL_law 834 = .ok (.iload_n 3, 1) := by decide +kernel
theorem dL_law_835 : decode cL_law 835 = .ok (.iconst 2, 1) := by decide +kernel
theorem dL_law_836 : decode cL_law 836 = .ok (.iadd, 1) := by decide +kernel
theorem dL_law_837 : decode cL_law 837 = .ok (.iaload, 1) := by decide +kernel
theorem dL_law_838 : decode cL_law 838 = .ok (.invokevirtual 90, 3) := by decide +kernel
theorem dL_law_841 : decode cL_law 841 = .ok (.if_icmp .eq 503, 3) := by decide +kernel
section LWK
variable {p : Program} {l : Launch} {e : Env} {s : State} {m : MethodId} {below : List Frame} {meth : Method} {c : Code} {cells slots : Nat} {Q : State → Prop} {D : va_G} {G : pm_G} {b L sa sv : Nat} {xs : Nat → Int32}
set_option maxHeartbeats 4000000 in
set_option maxRecDepth 100000 in
theorem law_c12 (C : lw_C p s m c b L xs D G sa sv) {i : Nat} (hi : i + 6 ≤ L) {ls : Array Slot} (hl : lv_has ls 4 (lw_L s b i)) {j : pH} {H : Heap} {locs : List Loc} (I : lw_I D G s j H locs) (hcs : cells ≤ 600000 ∧ slots ≤ 7302250) (kk : ∀ (j1 : pH) (H1 : Heap) (locs1 : List Loc), lw_I D G s j1 H1 locs1 → W p l e room_1 s m #[Value.ref b] below meth c H1 locs1 cells slots Q (F0 m 1344 ls [])) : W p l e room_1 s m #[Value.ref b] below meth c H locs cells slots Q (F0 m 678 ls []) := by
  obtain ⟨hx, hb, hml, hown, hts, -, -, -, -, -, hL3⟩ := id C
  obtain ⟨hok, al, ft, hP, hS⟩ := I
  obtain ⟨a1, a2, ft2⟩ := joint (H := fun h => H_X11_steady (lw_x xs i 1).toInt (lw_x xs i 2).toInt (lw_x xs i 3).toInt (lw_x xs i 4).toInt (lw_x xs i 5).toInt h) (G := fun g => H_X12_steady (lw_x xs i 1).toInt (lw_x xs i 2).toInt (lw_x xs i 3).toInt (lw_x xs i 4).toInt (lw_x xs i 5).toInt g) al ft (fun h g al => (m_steady al (lw_x xs i 1).toInt (lw_x xs i 2).toInt (lw_x xs i 3).toInt (lw_x xs i 4).toInt (lw_x xs i 5).toInt).2.2.2)
  have a1 : AL j (H_X11_steady (lw_x xs i 1).toInt (lw_x xs i 2).toInt (lw_x xs i 3).toInt (lw_x xs i 4).toInt (lw_x xs i 5).toInt j) := a1
  have a2 : AL (H_X12_steady (lw_x xs i 1).toInt (lw_x xs i 2).toInt (lw_x xs i 3).toInt (lw_x xs i 4).toInt (lw_x xs i 5).toInt (H_X11_steady (lw_x xs i 1).toInt (lw_x xs i 2).toInt (lw_x xs i 3).toInt (lw_x xs i 4).toInt (lw_x xs i 5).toInt j)) (H_X12_steady (lw_x xs i 1).toInt (lw_x xs i 2).toInt (lw_x xs i 3).toInt (lw_x xs i 4).toInt (lw_x xs i 5).toInt (H_X11_steady (lw_x xs i 1).toInt (lw_x xs i 2).toInt (lw_x xs i 3).toInt (lw_x xs i 4).toInt (lw_x xs i 5).toInt j)) := a2
  have ft2 : FIT (H_X12_steady (lw_x xs i 1).toInt (lw_x xs i 2).toInt (lw_x xs i 3).toInt (lw_x xs i 4).toInt (lw_x xs i 5).toInt (H_X11_steady (lw_x xs i 1).toInt (lw_x xs i 2).toInt (lw_x xs i 3).toInt (lw_x xs i 4).toInt (lw_x xs i 5).toInt j)) := ft2
  have q1 := m_steady al (lw_x xs i 1).toInt (lw_x xs i 2).toInt (lw_x xs i 3).toInt (lw_x xs i 4).toInt (lw_x xs i 5).toInt
  have q2 := m_steady a1 (lw_x xs i 1).toInt (lw_x xs i 2).toInt (lw_x xs i 3).toInt (lw_x xs i 4).toInt (lw_x xs i 5).toInt
  have hF : (F_X11_steady (lw_x xs i 1).toInt (lw_x xs i 2).toInt (lw_x xs i 3).toInt (lw_x xs i 4).toInt (lw_x xs i 5).toInt j) = (F_X12_steady (lw_x xs i 1).toInt (lw_x xs i 2).toInt (lw_x xs i 3).toInt (lw_x xs i 4).toInt (lw_x xs i 5).toInt (H_X11_steady (lw_x xs i 1).toInt (lw_x xs i 2).toInt (lw_x xs i 3).toInt (lw_x xs i 4).toInt (lw_x xs i 5).toInt j)) := q2.2.2.1
  refine lv_aload_n hx hb dL_law_678 rfl (lv_at hl 2 rfl) ?_
  refine lw_ld C (kn := 1) (by omega) hl hS dL_law_679 dL_law_680 dL_law_681 (by decide) dL_law_682 dL_law_683 ?_
  refine lw_ld C (kn := 2) (by omega) hl hS dL_law_684 dL_law_685 dL_law_686 (by decide) dL_law_687 dL_law_688 ?_
  refine lw_ld C (kn := 3) (by omega) hl hS dL_law_689 dL_law_690 dL_law_691 (by decide) dL_law_692 dL_law_693 ?_
  refine lw_ld C (kn := 4) (by omega) hl hS dL_law_694 dL_law_695 dL_law_696 (by decide) dL_law_697 dL_law_698 ?_
  refine lw_ld C (kn := 5) (by omega) hl hS dL_law_699 dL_law_700 dL_law_701 (by decide) dL_law_702 dL_law_703 ?_
  refine lw_call C (k := 108) (tag := 13) (a := 0) (as := [(0, (lw_x xs i 1).toInt), (0, (lw_x xs i 2).toInt), (0, (lw_x xs i 3).toInt), (0, (lw_x xs i 4).toInt), (0, (lw_x xs i 5).toInt)]) (rv := .int (Int32.ofInt (F_X11_steady (lw_x xs i 1).toInt (lw_x xs i 2).toInt (lw_x xs i 3).toInt (lw_x xs i 4).toInt (lw_x xs i 5).toInt j))) (rest := []) (by decide) hok hP hS (c_X11_steady (lw_x xs i 1).toInt (lw_x xs i 2).toInt (lw_x xs i 3).toInt (lw_x xs i 4).toInt (lw_x xs i 5).toInt j (q1.1)) rfl rfl (by decide) (List.forall_mem_cons.mpr ⟨lw_ok0, List.forall_mem_cons.mpr ⟨lw_oki (lw_x xs i 1), List.forall_mem_cons.mpr ⟨lw_oki (lw_x xs i 2), List.forall_mem_cons.mpr ⟨lw_oki (lw_x xs i 3), List.forall_mem_cons.mpr ⟨lw_oki (lw_x xs i 4), List.forall_mem_cons.mpr ⟨lw_oki (lw_x xs i 5), fun _ h => absurd h List.not_mem_nil⟩⟩⟩⟩⟩⟩) (pm_TB_in (j := 653) (by decide +kernel) rfl) (by decide +kernel) hl.1 (Nat.le_of_ble_eq_true rfl) (by rw [show ([(0, (lw_x xs i 1).toInt), (0, (lw_x xs i 2).toInt), (0, (lw_x xs i 3).toInt), (0, (lw_x xs i 4).toInt), (0, (lw_x xs i 5).toInt)] : List pV).map (pm_emb (lw_ad s) sa) = [Value.int (lw_x xs i 1), Value.int (lw_x xs i 2), Value.int (lw_x xs i 3), Value.int (lw_x xs i 4), Value.int (lw_x xs i 5)] from by simp only [List.map_cons, List.map_nil, lw_ei, lw_el]]; rfl) rfl hcs dL_law_704 (fun H locs hok hP hS => ?_)
  refine lv_aload_n hx hb dL_law_707 rfl (lv_at hl 3 rfl) ?_
  refine lw_ld C (kn := 1) (by omega) hl hS dL_law_708 dL_law_709 dL_law_710 (by decide) dL_law_711 dL_law_712 ?_
  refine lw_ld C (kn := 2) (by omega) hl hS dL_law_713 dL_law_714 dL_law_715 (by decide) dL_law_716 dL_law_717 ?_
  refine lw_ld C (kn := 3) (by omega) hl hS dL_law_718 dL_law_719 dL_law_720 (by decide) dL_law_721 dL_law_722 ?_
  refine lw_ld C (kn := 4) (by omega) hl hS dL_law_723 dL_law_724 dL_law_725 (by decide) dL_law_726 dL_law_727 ?_
  refine lw_ld C (kn := 5) (by omega) hl hS dL_law_728 dL_law_729 dL_law_730 (by decide) dL_law_731 dL_law_732 ?_
  refine lw_call C (k := 161) (tag := 14) (a := 248) (as := [(0, (lw_x xs i 1).toInt), (0, (lw_x xs i 2).toInt), (0, (lw_x xs i 3).toInt), (0, (lw_x xs i 4).toInt), (0, (lw_x xs i 5).toInt)]) (rv := .int (Int32.ofInt (F_X12_steady (lw_x xs i 1).toInt (lw_x xs i 2).toInt (lw_x xs i 3).toInt (lw_x xs i 4).toInt (lw_x xs i 5).toInt (H_X11_steady (lw_x xs i 1).toInt (lw_x xs i 2).toInt (lw_x xs i 3).toInt (lw_x xs i 4).toInt (lw_x xs i 5).toInt j)))) (rest := [Value.int (Int32.ofInt (F_X11_steady (lw_x xs i 1).toInt (lw_x xs i 2).toInt (lw_x xs i 3).toInt (lw_x xs i 4).toInt (lw_x xs i 5).toInt j))]) (by decide) hok hP hS (c_X12_steady (lw_x xs i 1).toInt (lw_x xs i 2).toInt (lw_x xs i 3).toInt (lw_x xs i 4).toInt (lw_x xs i 5).toInt (H_X11_steady (lw_x xs i 1).toInt (lw_x xs i 2).toInt (lw_x xs i 3).toInt (lw_x xs i 4).toInt (lw_x xs i 5).toInt j) (q2.2.1)) rfl rfl (by decide) (List.forall_mem_cons.mpr ⟨lw_ok248, List.forall_mem_cons.mpr ⟨lw_oki (lw_x xs i 1), List.forall_mem_cons.mpr ⟨lw_oki (lw_x xs i 2), List.forall_mem_cons.mpr ⟨lw_oki (lw_x xs i 3), List.forall_mem_cons.mpr ⟨lw_oki (lw_x xs i 4), List.forall_mem_cons.mpr ⟨lw_oki (lw_x xs i 5), fun _ h => absurd h List.not_mem_nil⟩⟩⟩⟩⟩⟩) (pm_TB_in (j := 1457) (by decide +kernel) rfl) (by decide +kernel) hl.1 (Nat.le_of_ble_eq_true rfl) (by rw [show ([(0, (lw_x xs i 1).toInt), (0, (lw_x xs i 2).toInt), (0, (lw_x xs i 3).toInt), (0, (lw_x xs i 4).toInt), (0, (lw_x xs i 5).toInt)] : List pV).map (pm_emb (lw_ad s) sa) = [Value.int (lw_x xs i 1), Value.int (lw_x xs i 2), Value.int (lw_x xs i 3), Value.int (lw_x xs i 4), Value.int (lw_x xs i 5)] from by simp only [List.map_cons, List.map_nil, lw_ei, lw_el]]; rfl) rfl hcs dL_law_733 (fun H locs hok hP hS => ?_)
  exact lv_icmp_eq (tgt := 1344) hx hb dL_law_736 (by decide) (fun _ => kk _ H locs ⟨hok, a2, ft2, hP, hS⟩) (fun c9 => absurd (congrArg Int32.ofInt hF) c9)
set_option maxHeartbeats 4000000 in
set_option maxRecDepth 100000 in
theorem law_c13 (C : lw_C p s m c b L xs D G sa sv) {i : Nat} (hi : i + 6 ≤ L) {ls : Array Slot} (hl : lv_has ls 4 (lw_L s b i)) {j : pH} {H : Heap} {locs : List Loc} (I : lw_I D G s j H locs) (hcs : cells ≤ 600000 ∧ slots ≤ 7302250) (kk : ∀ (j1 : pH) (H1 : Heap) (locs1 : List Loc), lw_I D G s j1 H1 locs1 → W p l e room_1 s m #[Value.ref b] below meth c H1 locs1 cells slots Q (F0 m 1344 ls [])) : W p l e room_1 s m #[Value.ref b] below meth c H locs cells slots Q (F0 m 741 ls []) := by
  obtain ⟨hx, hb, hml, hown, hts, -, -, -, -, -, hL3⟩ := id C
  obtain ⟨hok, al, ft, hP, hS⟩ := I
  obtain ⟨a1, a2, ft2⟩ := joint (H := fun h => H_X11_write (lw_x xs i 1).toInt h) (G := fun g => H_X12_write (lw_x xs i 1).toInt g) al ft (fun h g al => (m_write al (lw_x xs i 1).toInt).2.2.2)
  have a1 : AL j (H_X11_write (lw_x xs i 1).toInt j) := a1
  have a2 : AL (H_X12_write (lw_x xs i 1).toInt (H_X11_write (lw_x xs i 1).toInt j)) (H_X12_write (lw_x xs i 1).toInt (H_X11_write (lw_x xs i 1).toInt j)) := a2
  have ft2 : FIT (H_X12_write (lw_x xs i 1).toInt (H_X11_write (lw_x xs i 1).toInt j)) := ft2
  have q1 := m_write al (lw_x xs i 1).toInt
  have q2 := m_write a1 (lw_x xs i 1).toInt
  have hF : (F_X11_write (lw_x xs i 1).toInt j) = (F_X12_write (lw_x xs i 1).toInt (H_X11_write (lw_x xs i 1).toInt j)) := q2.2.2.1
  refine lv_aload_n hx hb dL_law_741 rfl (lv_at hl 2 rfl) ?_
  refine lw_ld C (kn := 1) (by omega) hl hS dL_law_742 dL_law_743 dL_law_744 (by decide) dL_law_745 dL_law_746 ?_
  refine lw_call C (k := 109) (tag := 13) (a := 0) (as := [(0, (lw_x xs i 1).toInt)]) (rv := .int (Int32.ofInt (F_X11_write (lw_x xs i 1).toInt j))) (rest := []) (by decide) hok hP hS (c_X11_write (lw_x xs i 1).toInt j (q1.1)) rfl rfl (by decide) (List.forall_mem_cons.mpr ⟨lw_ok0, List.forall_mem_cons.mpr ⟨lw_oki (lw_x xs i 1), fun _ h => absurd h List.not_mem_nil⟩⟩) (pm_TB_in (j := 661) (by decide +kernel) rfl) (by decide +kernel) hl.1 (Nat.le_of_ble_eq_true rfl) (by rw [show ([(0, (lw_x xs i 1).toInt)] : List pV).map (pm_emb (lw_ad s) sa) = [Value.int (lw_x xs i 1)] from by simp only [List.map_cons, List.map_nil, lw_ei, lw_el]]; rfl) rfl hcs dL_law_747 (fun H locs hok hP hS => ?_)
  refine lv_aload_n hx hb dL_law_750 rfl (lv_at hl 3 rfl) ?_
  refine lw_ld C (kn := 1) (by omega) hl hS dL_law_751 dL_law_752 dL_law_753 (by decide) dL_law_754 dL_law_755 ?_
  refine lw_call C (k := 162) (tag := 14) (a := 248) (as := [(0, (lw_x xs i 1).toInt)]) (rv := .int (Int32.ofInt (F_X12_write (lw_x xs i 1).toInt (H_X11_write (lw_x xs i 1).toInt j)))) (rest := [Value.int (Int32.ofInt (F_X11_write (lw_x xs i 1).toInt j))]) (by decide) hok hP hS (c_X12_write (lw_x xs i 1).toInt (H_X11_write (lw_x xs i 1).toInt j) (q2.2.1)) rfl rfl (by decide) (List.forall_mem_cons.mpr ⟨lw_ok248, List.forall_mem_cons.mpr ⟨lw_oki (lw_x xs i 1), fun _ h => absurd h List.not_mem_nil⟩⟩) (pm_TB_in (j := 1461) (by decide +kernel) rfl) (by decide +kernel) hl.1 (Nat.le_of_ble_eq_true rfl) (by rw [show ([(0, (lw_x xs i 1).toInt)] : List pV).map (pm_emb (lw_ad s) sa) = [Value.int (lw_x xs i 1)] from by simp only [List.map_cons, List.map_nil, lw_ei, lw_el]]; rfl) rfl hcs dL_law_756 (fun H locs hok hP hS => ?_)
  exact lv_icmp_eq (tgt := 1344) hx hb dL_law_759 (by decide) (fun _ => kk _ H locs ⟨hok, a2, ft2, hP, hS⟩) (fun c9 => absurd (congrArg Int32.ofInt hF) c9)
set_option maxHeartbeats 4000000 in
set_option maxRecDepth 100000 in
theorem law_c14 (C : lw_C p s m c b L xs D G sa sv) {i : Nat} (hi : i + 6 ≤ L) {ls : Array Slot} (hl : lv_has ls 4 (lw_L s b i)) {j : pH} {H : Heap} {locs : List Loc} (I : lw_I D G s j H locs) (hcs : cells ≤ 600000 ∧ slots ≤ 7302250) (kk : ∀ (j1 : pH) (H1 : Heap) (locs1 : List Loc), lw_I D G s j1 H1 locs1 → W p l e room_1 s m #[Value.ref b] below meth c H1 locs1 cells slots Q (F0 m 1344 ls [])) : W p l e room_1 s m #[Value.ref b] below meth c H locs cells slots Q (F0 m 764 ls []) := by
  obtain ⟨hx, hb, hml, hown, hts, -, -, -, -, -, hL3⟩ := id C
  obtain ⟨hok, al, ft, hP, hS⟩ := I
  obtain ⟨a1, a2, ft2⟩ := joint (H := fun h => H_X11_erase h) (G := fun g => H_X12_erase g) al ft (fun h g al => (m_erase al).2.2.2)
  have a1 : AL j (H_X11_erase j) := a1
  have a2 : AL (H_X12_erase (H_X11_erase j)) (H_X12_erase (H_X11_erase j)) := a2
  have ft2 : FIT (H_X12_erase (H_X11_erase j)) := ft2
  have q1 := m_erase al
  have q2 := m_erase a1
  have hF : (F_X11_erase j) = (F_X12_erase (H_X11_erase j)) := q2.2.2.1
  refine lv_aload_n hx hb dL_law_764 rfl (lv_at hl 2 rfl) ?_
  refine lw_call C (k := 110) (tag := 13) (a := 0) (as := []) (rv := .int (Int32.ofInt (F_X11_erase j))) (rest := []) (by decide) hok hP hS (c_X11_erase j (q1.1)) rfl rfl (by decide) (List.forall_mem_cons.mpr ⟨lw_ok0, fun _ h => absurd h List.not_mem_nil⟩) (pm_TB_in (j := 804) (by decide +kernel) rfl) (by decide +kernel) hl.1 (Nat.le_of_ble_eq_true rfl) (by rw [show ([] : List pV).map (pm_emb (lw_ad s) sa) = [] from by simp only [List.map_cons, List.map_nil, lw_ei, lw_el]]; rfl) rfl hcs dL_law_765 (fun H locs hok hP hS => ?_)
  refine lv_aload_n hx hb dL_law_768 rfl (lv_at hl 3 rfl) ?_
  refine lw_call C (k := 163) (tag := 14) (a := 248) (as := []) (rv := .int (Int32.ofInt (F_X12_erase (H_X11_erase j)))) (rest := [Value.int (Int32.ofInt (F_X11_erase j))]) (by decide) hok hP hS (c_X12_erase (H_X11_erase j) (q2.2.1)) rfl rfl (by decide) (List.forall_mem_cons.mpr ⟨lw_ok248, fun _ h => absurd h List.not_mem_nil⟩) (pm_TB_in (j := 1467) (by decide +kernel) rfl) (by decide +kernel) hl.1 (Nat.le_of_ble_eq_true rfl) (by rw [show ([] : List pV).map (pm_emb (lw_ad s) sa) = [] from by simp only [List.map_cons, List.map_nil, lw_ei, lw_el]]; rfl) rfl hcs dL_law_769 (fun H locs hok hP hS => ?_)
  exact lv_icmp_eq (tgt := 1344) hx hb dL_law_772 (by decide) (fun _ => kk _ H locs ⟨hok, a2, ft2, hP, hS⟩) (fun c9 => absurd (congrArg Int32.ofInt hF) c9)
set_option maxHeartbeats 4000000 in
set_option maxRecDepth 100000 in
theorem law_c15 (C : lw_C p s m c b L xs D G sa sv) {i : Nat} (hi : i + 6 ≤ L) {ls : Array Slot} (hl : lv_has ls 4 (lw_L s b i)) {j : pH} {H : Heap} {locs : List Loc} (I : lw_I D G s j H locs) (hcs : cells ≤ 600000 ∧ slots ≤ 7302250) (kk : ∀ (j1 : pH) (H1 : Heap) (locs1 : List Loc), lw_I D G s j1 H1 locs1 → W p l e room_1 s m #[Value.ref b] below meth c H1 locs1 cells slots Q (F0 m 1344 ls [])) : W p l e room_1 s m #[Value.ref b] below meth c H locs cells slots Q (F0 m 777 ls []) := by
  obtain ⟨hx, hb, hml, hown, hts, -, -, -, -, -, hL3⟩ := id C
  obtain ⟨hok, al, ft, hP, hS⟩ := I
  obtain ⟨a1, a2, ft2⟩ := joint (H := fun h => h) (G := fun g => H_X12_fault g) al ft (fun h g al => (m_fault al).2.2)
  have a1 : AL j j := a1
  have a2 : AL (H_X12_fault j) (H_X12_fault j) := a2
  have ft2 : FIT (H_X12_fault j) := ft2
  have q1 := m_fault al
  have q2 := m_fault a1
  have hF : (F_X11_fault j) = (F_X12_fault j) := q2.2.1
  refine lv_aload_n hx hb dL_law_777 rfl (lv_at hl 2 rfl) ?_
  refine lw_call C (k := 111) (tag := 13) (a := 0) (as := []) (rv := .int (Int32.ofInt (F_X11_fault j))) (rest := []) (by decide) hok hP hS (c_X11_fault j) rfl rfl (by decide) (List.forall_mem_cons.mpr ⟨lw_ok0, fun _ h => absurd h List.not_mem_nil⟩) (pm_TB_in (j := 812) (by decide +kernel) rfl) (by decide +kernel) hl.1 (Nat.le_of_ble_eq_true rfl) (by rw [show ([] : List pV).map (pm_emb (lw_ad s) sa) = [] from by simp only [List.map_cons, List.map_nil, lw_ei, lw_el]]; rfl) rfl hcs dL_law_778 (fun H locs hok hP hS => ?_)
  refine lv_aload_n hx hb dL_law_781 rfl (lv_at hl 3 rfl) ?_
  refine lw_call C (k := 175) (tag := 14) (a := 248) (as := []) (rv := .int (Int32.ofInt (F_X12_fault j))) (rest := [Value.int (Int32.ofInt (F_X11_fault j))]) (by decide) hok hP hS (c_X12_fault j (q2.1)) rfl rfl (by decide) (List.forall_mem_cons.mpr ⟨lw_ok248, fun _ h => absurd h List.not_mem_nil⟩) (pm_TB_in (j := 1471) (by decide +kernel) rfl) (by decide +kernel) hl.1 (Nat.le_of_ble_eq_true rfl) (by rw [show ([] : List pV).map (pm_emb (lw_ad s) sa) = [] from by simp only [List.map_cons, List.map_nil, lw_ei, lw_el]]; rfl) rfl hcs dL_law_782 (fun H locs hok hP hS => ?_)
  exact lv_icmp_eq (tgt := 1344) hx hb dL_law_785 (by decide) (fun _ => kk _ H locs ⟨hok, a2, ft2, hP, hS⟩) (fun c9 => absurd (congrArg Int32.ofInt hF) c9)
set_option maxHeartbeats 4000000 in
set_option maxRecDepth 100000 in
theorem law_c16 (C : lw_C p s m c b L xs D G sa sv) {i : Nat} (hi : i + 6 ≤ L) {ls : Array Slot} (hl : lv_has ls 4 (lw_L s b i)) {j : pH} {H : Heap} {locs : List Loc} (I : lw_I D G s j H locs) (hcs : cells ≤ 600000 ∧ slots ≤ 7302250) (kk : ∀ (j1 : pH) (H1 : Heap) (locs1 : List Loc), lw_I D G s j1 H1 locs1 → W p l e room_1 s m #[Value.ref b] below meth c H1 locs1 cells slots Q (F0 m 1344 ls [])) : W p l e room_1 s m #[Value.ref b] below meth c H locs cells slots Q (F0 m 790 ls []) := by
  obtain ⟨hx, hb, hml, hown, hts, -, -, -, -, -, hL3⟩ := id C
  obtain ⟨hok, al, ft, hP, hS⟩ := I
  obtain ⟨a1, a2, ft2⟩ := joint (H := fun h => H_X11_minutes (lw_x xs i 1).toInt h) (G := fun g => H_X12_minutes (lw_x xs i 1).toInt g) al ft (fun h g al => (m_minutes al (lw_x xs i 1).toInt).2.2.2)
  have a1 : AL j (H_X11_minutes (lw_x xs i 1).toInt j) := a1
  have a2 : AL (H_X12_minutes (lw_x xs i 1).toInt (H_X11_minutes (lw_x xs i 1).toInt j)) (H_X12_minutes (lw_x xs i 1).toInt (H_X11_minutes (lw_x xs i 1).toInt j)) := a2
  have ft2 : FIT (H_X12_minutes (lw_x xs i 1).toInt (H_X11_minutes (lw_x xs i 1).toInt j)) := ft2
  have q1 := m_minutes al (lw_x xs i 1).toInt
  have q2 := m_minutes a1 (lw_x xs i 1).toInt
  have hF : (F_X11_minutes (lw_x xs i 1).toInt j) = (F_X12_minutes (lw_x xs i 1).toInt (H_X11_minutes (lw_x xs i 1).toInt j)) := q2.2.2.1
  refine lv_aload_n hx hb dL_law_790 rfl (lv_at hl 2 rfl) ?_
  refine lw_ld C (kn := 1) (by omega) hl hS dL_law_791 dL_law_792 dL_law_793 (by decide) dL_law_794 dL_law_795 ?_
  refine lw_call C (k := 112) (tag := 13) (a := 0) (as := [(0, (lw_x xs i 1).toInt)]) (rv := .int (Int32.ofInt (F_X11_minutes (lw_x xs i 1).toInt j))) (rest := []) (by decide) hok hP hS (c_X11_minutes (lw_x xs i 1).toInt j (q1.1)) rfl rfl (by decide) (List.forall_mem_cons.mpr ⟨lw_ok0, List.forall_mem_cons.mpr ⟨lw_oki (lw_x xs i 1), fun _ h => absurd h List.not_mem_nil⟩⟩) (pm_TB_in (j := 816) (by decide +kernel) rfl) (by decide +kernel) hl.1 (Nat.le_of_ble_eq_true rfl) (by rw [show ([(0, (lw_x xs i 1).toInt)] : List pV).map (pm_emb (lw_ad s) sa) = [Value.int (lw_x xs i 1)] from by simp only [List.map_cons, List.map_nil, lw_ei, lw_el]]; rfl) rfl hcs dL_law_796 (fun H locs hok hP hS => ?_)
  refine lv_aload_n hx hb dL_law_799 rfl (lv_at hl 3 rfl) ?_
  refine lw_ld C (kn := 1) (by omega) hl hS dL_law_800 dL_law_801 dL_law_802 (by decide) dL_law_803 dL_law_804 ?_
  refine lw_call C (k := 195) (tag := 14) (a := 248) (as := [(0, (lw_x xs i 1).toInt)]) (rv := .int (Int32.ofInt (F_X12_minutes (lw_x xs i 1).toInt (H_X11_minutes (lw_x xs i 1).toInt j)))) (rest := [Value.int (Int32.ofInt (F_X11_minutes (lw_x xs i 1).toInt j))]) (by decide) hok hP hS (c_X12_minutes (lw_x xs i 1).toInt (H_X11_minutes (lw_x xs i 1).toInt j) (q2.2.1)) rfl rfl (by decide) (List.forall_mem_cons.mpr ⟨lw_ok248, List.forall_mem_cons.mpr ⟨lw_oki (lw_x xs i 1), fun _ h => absurd h List.not_mem_nil⟩⟩) (pm_TB_in (j := 1525) (by decide +kernel) rfl) (by decide +kernel) hl.1 (Nat.le_of_ble_eq_true rfl) (by rw [show ([(0, (lw_x xs i 1).toInt)] : List pV).map (pm_emb (lw_ad s) sa) = [Value.int (lw_x xs i 1)] from by simp only [List.map_cons, List.map_nil, lw_ei, lw_el]]; rfl) rfl hcs dL_law_805 (fun H locs hok hP hS => ?_)
  exact lv_icmp_eq (tgt := 1344) hx hb dL_law_808 (by decide) (fun _ => kk _ H locs ⟨hok, a2, ft2, hP, hS⟩) (fun c9 => absurd (congrArg Int32.ofInt hF) c9)
set_option maxHeartbeats 4000000 in
set_option maxRecDepth 100000 in
theorem law_c17 (C : lw_C p s m c b L xs D G sa sv) {i : Nat} (hi : i + 6 ≤ L) {ls : Array Slot} (hl : lv_has ls 4 (lw_L s b i)) {j : pH} {H : Heap} {locs : List Loc} (I : lw_I D G s j H locs) (hcs : cells ≤ 600000 ∧ slots ≤ 7302250) (kk : ∀ (j1 : pH) (H1 : Heap) (locs1 : List Loc), lw_I D G s j1 H1 locs1 → W p l e room_1 s m #[Value.ref b] below meth c H1 locs1 cells slots Q (F0 m 1344 ls [])) : W p l e room_1 s m #[Value.ref b] below meth c H locs cells slots Q (F0 m 813 ls []) := by
  obtain ⟨hx, hb, hml, hown, hts, -, -, -, -, -, hL3⟩ := id C
  obtain ⟨hok, al, ft, hP, hS⟩ := I
  have q1 := m_cell al (lw_x xs i 1).toInt (lw_x xs i 2).toInt
  have a2 := al
  have ft2 := ft
  have hF : (F_X11_cell (lw_x xs i 1).toInt (lw_x xs i 2).toInt j) = (F_X12_cell (lw_x xs i 1).toInt (lw_x xs i 2).toInt j) := q1.2.2
  refine lv_aload_n hx hb dL_law_813 rfl (lv_at hl 2 rfl) ?_
  refine lw_ld C (kn := 1) (by omega) hl hS dL_law_814 dL_law_815 dL_law_816 (by decide) dL_law_817 dL_law_818 ?_
  refine lw_ld C (kn := 2) (by omega) hl hS dL_law_819 dL_law_820 dL_law_821 (by decide) dL_law_822 dL_law_823 ?_
  refine lw_call C (k := 113) (tag := 13) (a := 0) (as := [(0, (lw_x xs i 1).toInt), (0, (lw_x xs i 2).toInt)]) (rv := .int (Int32.ofInt (F_X11_cell (lw_x xs i 1).toInt (lw_x xs i 2).toInt j))) (rest := []) (by decide) hok hP hS (c_X11_cell (lw_x xs i 1).toInt (lw_x xs i 2).toInt j (q1.1)) rfl rfl (by decide) (List.forall_mem_cons.mpr ⟨lw_ok0, List.forall_mem_cons.mpr ⟨lw_oki (lw_x xs i 1), List.forall_mem_cons.mpr ⟨lw_oki (lw_x xs i 2), fun _ h => absurd h List.not_mem_nil⟩⟩⟩) (pm_TB_in (j := 1015) (by decide +kernel) rfl) (by decide +kernel) hl.1 (Nat.le_of_ble_eq_true rfl) (by rw [show ([(0, (lw_x xs i 1).toInt), (0, (lw_x xs i 2).toInt)] : List pV).map (pm_emb (lw_ad s) sa) = [Value.int (lw_x xs i 1), Value.int (lw_x xs i 2)] from by simp only [List.map_cons, List.map_nil, lw_ei, lw_el]]; rfl) rfl hcs dL_law_824 (fun H locs hok hP hS => ?_)
  refine lv_aload_n hx hb dL_law_827 rfl (lv_at hl 3 rfl) ?_
  refine lw_ld C (kn := 1) (by omega) hl hS dL_law_828 dL_law_829 dL_law_830 (by decide) dL_law_831 dL_law_832 ?_
  refine lw_ld C (kn := 2) (by omega) hl hS dL_law_833 dL_law_834 dL_law_835 (by decide) dL_law_836 dL_law_837 ?_
  refine lw_call C (k := 196) (tag := 14) (a := 248) (as := [(0, (lw_x xs i 1).toInt), (0, (lw_x xs i 2).toInt)]) (rv := .int (Int32.ofInt (F_X12_cell (lw_x xs i 1).toInt (lw_x xs i 2).toInt j))) (rest := [Value.int (Int32.ofInt (F_X11_cell (lw_x xs i 1).toInt (lw_x xs i 2).toInt j))]) (by decide) hok hP hS (c_X12_cell (lw_x xs i 1).toInt (lw_x xs i 2).toInt j (q1.2.1)) rfl rfl (by decide) (List.forall_mem_cons.mpr ⟨lw_ok248, List.forall_mem_cons.mpr ⟨lw_oki (lw_x xs i 1), List.forall_mem_cons.mpr ⟨lw_oki (lw_x xs i 2), fun _ h => absurd h List.not_mem_nil⟩⟩⟩) (pm_TB_in (j := 1601) (by decide +kernel) rfl) (by decide +kernel) hl.1 (Nat.le_of_ble_eq_true rfl) (by rw [show ([(0, (lw_x xs i 1).toInt), (0, (lw_x xs i 2).toInt)] : List pV).map (pm_emb (lw_ad s) sa) = [Value.int (lw_x xs i 1), Value.int (lw_x xs i 2)] from by simp only [List.map_cons, List.map_nil, lw_ei, lw_el]]; rfl) rfl hcs dL_law_838 (fun H locs hok hP hS => ?_)
  exact lv_icmp_eq (tgt := 1344) hx hb dL_law_841 (by decide) (fun _ => kk _ H locs ⟨hok, a2, ft2, hP, hS⟩) (fun c9 => absurd (congrArg Int32.ofInt hF) c9)
end LWK
