/-! the law: cases 14 to 20 -/
theorem d_law_706 : decode code 706 = .ok (.aload_n 1, 1) := by decide +kernel
theorem d_law_707 : decode code 707 = .ok (.aload_n 0, 1) := by decide +kernel
theorem d_law_708 : decode code 708 = .ok (.iload_n 3, 1) := by decide +kernel
theorem d_law_709 : decode code 709 = .ok (.iconst 1, 1) := by decide +kernel
theorem d_law_710 : decode code 710 = .ok (.iadd, 1) := by decide +kernel
theorem d_law_711 : decode code 711 = .ok (.iaload, 1) := by decide +kernel
theorem d_law_712 : decode code 712 = .ok (.aload_n 0, 1) := by decide +kernel
theorem d_law_713 : decode code 713 = .ok (.iload_n 3, 1) := by decide +kernel
theorem d_law_714 : decode code 714 = .ok (.iconst 2, 1) := by decide +kernel
theorem d_law_715 : decode code 715 = .ok (.iadd, 1) := by decide +kernel
theorem d_law_716 : decode code 716 = .ok (.iaload, 1) := by decide +kernel
theorem d_law_717 : decode code 717 = .ok (.invokevirtual 73, 3) := by decide +kernel
theorem d_law_720 : decode code 720 = .ok (.aload_n 2, 1) := by decide +kernel
theorem d_law_721 : decode code 721 = .ok (.aload_n 0, 1) := by decide +kernel
theorem d_law_722 : decode code 722 = .ok (.iload_n 3, 1) := by decide +kernel
theorem d_law_723 : decode code 723 = .ok (.iconst 1, 1) := by decide +kernel
theorem d_law_724 : decode code 724 = .ok (.iadd, 1) := by decide +kernel
theorem d_law_725 : decode code 725 = .ok (.iaload, 1) := by decide +kernel
theorem d_law_726 : decode code 726 = .ok (.aload_n 0, 1) := by decide +kernel
theorem d_law_727 : decode code 727 = .ok (.iload_n 3, 1) := by decide +kernel
theorem d_law_728 : decode code 728 = .ok (.iconst 2, 1) := by decide +kernel
theorem d_law_729 : decode code 729 = .ok (.iadd, 1) := by decide +kernel
theorem d_law_730 : decode code 730 = .ok (.iaload, 1) := by decide +kernel
theorem d_law_731 : decode code 731 = .ok (.invokevirtual 76, 3) := by decide +kernel
theorem d_law_734 : decode code 734 = .ok (.if_icmp .eq 860, 3) := by decide +kernel
theorem law_c14 {Γ : GmT} {b L : Nat} {xs : Nat → Int32} {CL SL : Nat} {G : Dt → Nat → List (Nat × Value) → List Value → Prop} (C : LawG Γ b L xs CL SL G) {D : Dt} {i : Int32} (hI : Inv D) (hin : vp_in (i + 1) L ∧ vp_in (i + 2) L ∧ vp_in (i + 3) L ∧ vp_in (i + 4) L ∧ vp_in (i + 5) L) (next : ∀ D2, Inv D2 → G D2 1594 (lvL Γ b i) []) : G D 706 (lvL Γ b i) [] := by
  obtain ⟨x, D1, D2, h1, h2, hI2⟩ := both_shut hI (xs (i + 1).toNatClampNeg) (xs (i + 2).toNatClampNeg)
  refine l_aload C 1 d_law_706 rfl rfl ?_
  refine l_arg C d_law_707 d_law_708 d_law_709 rfl d_law_710 d_law_711 rfl rfl hin.1 ?_
  refine l_arg C d_law_712 d_law_713 d_law_714 rfl d_law_715 d_law_716 rfl rfl hin.2.1 ?_
  refine l_call C (As := [.int (xs (i + 1).toNatClampNeg), .int (xs (i + 2).toNatClampNeg)]) (rest := []) ok_Root_shut (List.mem_of_getElem? (i := 591) (by decide +kernel)) k_id0 (by decide) ⟨Nat.le_of_ble_eq_true rfl, Nat.le_of_ble_eq_true rfl⟩ rfl rfl (Nat.le_of_ble_eq_true rfl) d_law_717 (c_Root_shut Γ h1) ?_
  refine l_aload C 2 d_law_720 rfl rfl ?_
  refine l_arg C d_law_721 d_law_722 d_law_723 rfl d_law_724 d_law_725 rfl rfl hin.1 ?_
  refine l_arg C d_law_726 d_law_727 d_law_728 rfl d_law_729 d_law_730 rfl rfl hin.2.1 ?_
  refine l_call C (As := [.int (xs (i + 1).toNatClampNeg), .int (xs (i + 2).toNatClampNeg)]) (rest := [.int x]) ok_Model_shut (List.mem_of_getElem? (i := 1378) (by decide +kernel)) k_id176 (by decide) ⟨Nat.le_of_ble_eq_true rfl, Nat.le_of_ble_eq_true rfl⟩ rfl rfl (Nat.le_of_ble_eq_true rfl) d_law_731 (c_Model_shut Γ h2) ?_
  refine l_icmpeq C d_law_734 (tgt := 1594) (by decide) ?_
  exact next D2 hI2
theorem d_law_739 : decode code 739 = .ok (.aload_n 1, 1) := by decide +kernel
theorem d_law_740 : decode code 740 = .ok (.aload_n 0, 1) := by decide +kernel
theorem d_law_741 : decode code 741 = .ok (.iload_n 3, 1) := by decide +kernel
theorem d_law_742 : decode code 742 = .ok (.iconst 1, 1) := by decide +kernel
theorem d_law_743 : decode code 743 = .ok (.iadd, 1) := by decide +kernel
theorem d_law_744 : decode code 744 = .ok (.iaload, 1) := by decide +kernel
theorem d_law_745 : decode code 745 = .ok (.invokevirtual 77, 3) := by decide +kernel
theorem d_law_748 : decode code 748 = .ok (.aload_n 2, 1) := by decide +kernel
theorem d_law_749 : decode code 749 = .ok (.aload_n 0, 1) := by decide +kernel
theorem d_law_750 : decode code 750 = .ok (.iload_n 3, 1) := by decide +kernel
theorem d_law_751 : decode code 751 = .ok (.iconst 1, 1) := by decide +kernel
theorem d_law_752 : decode code 752 = .ok (.iadd, 1) := by decide +kernel
theorem d_law_753 : decode code 753 = .ok (.iaload, 1) := by decide +kernel
theorem d_law_754 : decode code 754 = .ok (.invokevirtual 80, 3) := by decide +kernel
theorem d_law_757 : decode code 757 = .ok (.if_icmp .eq 837, 3) := by decide +kernel
theorem law_c15 {Γ : GmT} {b L : Nat} {xs : Nat → Int32} {CL SL : Nat} {G : Dt → Nat → List (Nat × Value) → List Value → Prop} (C : LawG Γ b L xs CL SL G) {D : Dt} {i : Int32} (hI : Inv D) (hin : vp_in (i + 1) L ∧ vp_in (i + 2) L ∧ vp_in (i + 3) L ∧ vp_in (i + 4) L ∧ vp_in (i + 5) L) (next : ∀ D2, Inv D2 → G D2 1594 (lvL Γ b i) []) : G D 739 (lvL Γ b i) [] := by
  obtain ⟨x, D1, D2, h1, h2, hI2⟩ := both_pump hI (xs (i + 1).toNatClampNeg)
  refine l_aload C 1 d_law_739 rfl rfl ?_
  refine l_arg C d_law_740 d_law_741 d_law_742 rfl d_law_743 d_law_744 rfl rfl hin.1 ?_
  refine l_call C (As := [.int (xs (i + 1).toNatClampNeg)]) (rest := []) ok_Root_pump (List.mem_of_getElem? (i := 595) (by decide +kernel)) k_id0 (by decide) ⟨Nat.le_of_ble_eq_true rfl, Nat.le_of_ble_eq_true rfl⟩ rfl rfl (Nat.le_of_ble_eq_true rfl) d_law_745 (c_Root_pump Γ h1) ?_
  refine l_aload C 2 d_law_748 rfl rfl ?_
  refine l_arg C d_law_749 d_law_750 d_law_751 rfl d_law_752 d_law_753 rfl rfl hin.1 ?_
  refine l_call C (As := [.int (xs (i + 1).toNatClampNeg)]) (rest := [.int x]) ok_Model_pump (List.mem_of_getElem? (i := 1382) (by decide +kernel)) k_id176 (by decide) ⟨Nat.le_of_ble_eq_true rfl, Nat.le_of_ble_eq_true rfl⟩ rfl rfl (Nat.le_of_ble_eq_true rfl) d_law_754 (c_Model_pump Γ h2) ?_
  refine l_icmpeq C d_law_757 (tgt := 1594) (by decide) ?_
  exact next D2 hI2
theorem d_law_762 : decode code 762 = .ok (.aload_n 1, 1) := by decide +kernel
theorem d_law_763 : decode code 763 = .ok (.aload_n 0, 1) := by decide +kernel
theorem d_law_764 : decode code 764 = .ok (.iload_n 3, 1) := by decide +kernel
theorem d_law_765 : decode code 765 = .ok (.iconst 1, 1) := by decide +kernel
theorem d_law_766 : decode code 766 = .ok (.iadd, 1) := by decide +kernel
theorem d_law_767 : decode code 767 = .ok (.iaload, 1) := by decide +kernel
theorem d_law_768 : decode code 768 = .ok (.invokevirtual 81, 3) := by decide +kernel
theorem d_law_771 : decode code 771 = .ok (.aload_n 2, 1) := by decide +kernel
theorem d_law_772 : decode code 772 = .ok (.aload_n 0, 1) := by decide +kernel
theorem d_law_773 : decode code 773 = .ok (.iload_n 3, 1) := by decide +kernel
theorem d_law_774 : decode code 774 = .ok (.iconst 1, 1) := by decide +kernel
theorem d_law_775 : decode code 775 = .ok (.iadd, 1) := by decide +kernel
theorem d_law_776 : decode code 776 = .ok (.iaload, 1) := by decide +kernel
theorem d_law_777 : decode code 777 = .ok (.invokevirtual 84, 3) := by decide +kernel
theorem d_law_780 : decode code 780 = .ok (.if_icmp .eq 814, 3) := by decide +kernel
theorem law_c16 {Γ : GmT} {b L : Nat} {xs : Nat → Int32} {CL SL : Nat} {G : Dt → Nat → List (Nat × Value) → List Value → Prop} (C : LawG Γ b L xs CL SL G) {D : Dt} {i : Int32} (hI : Inv D) (hin : vp_in (i + 1) L ∧ vp_in (i + 2) L ∧ vp_in (i + 3) L ∧ vp_in (i + 4) L ∧ vp_in (i + 5) L) (next : ∀ D2, Inv D2 → G D2 1594 (lvL Γ b i) []) : G D 762 (lvL Γ b i) [] := by
  obtain ⟨x, D1, D2, h1, h2, hI2⟩ := both_hour hI (xs (i + 1).toNatClampNeg)
  refine l_aload C 1 d_law_762 rfl rfl ?_
  refine l_arg C d_law_763 d_law_764 d_law_765 rfl d_law_766 d_law_767 rfl rfl hin.1 ?_
  refine l_call C (As := [.int (xs (i + 1).toNatClampNeg)]) (rest := []) ok_Root_hour (List.mem_of_getElem? (i := 603) (by decide +kernel)) k_id0 (by decide) ⟨Nat.le_of_ble_eq_true rfl, Nat.le_of_ble_eq_true rfl⟩ rfl rfl (Nat.le_of_ble_eq_true rfl) d_law_768 (c_Root_hour Γ h1) ?_
  refine l_aload C 2 d_law_771 rfl rfl ?_
  refine l_arg C d_law_772 d_law_773 d_law_774 rfl d_law_775 d_law_776 rfl rfl hin.1 ?_
  refine l_call C (As := [.int (xs (i + 1).toNatClampNeg)]) (rest := [.int x]) ok_Model_hour (List.mem_of_getElem? (i := 1386) (by decide +kernel)) k_id176 (by decide) ⟨Nat.le_of_ble_eq_true rfl, Nat.le_of_ble_eq_true rfl⟩ rfl rfl (Nat.le_of_ble_eq_true rfl) d_law_777 (c_Model_hour Γ h2) ?_
  refine l_icmpeq C d_law_780 (tgt := 1594) (by decide) ?_
  exact next D2 hI2
theorem d_law_785 : decode code 785 = .ok (.aload_n 1, 1) := by decide +kernel
theorem d_law_786 : decode code 786 = .ok (.aload_n 0, 1) := by decide +kernel
theorem d_law_787 : decode code 787 = .ok (.iload_n 3, 1) := by decide +kernel
theorem d_law_788 : decode code 788 = .ok (.iconst 1, 1) := by decide +kernel
theorem d_law_789 : decode code 789 = .ok (.iadd, 1) := by decide +kernel
theorem d_law_790 : decode code 790 = .ok (.iaload, 1) := by decide +kernel
theorem d_law_791 : decode code 791 = .ok (.invokevirtual 85, 3) := by decide +kernel
theorem d_law_794 : decode code 794 = .ok (.aload_n 2, 1) := by decide +kernel
theorem d_law_795 : decode code 795 = .ok (.aload_n 0, 1) := by decide +kernel
theorem d_law_796 : decode code 796 = .ok (.iload_n 3, 1) := by decide +kernel
theorem d_law_797 : decode code 797 = .ok (.iconst 1, 1) := by decide +kernel
theorem d_law_798 : decode code 798 = .ok (.iadd, 1) := by decide +kernel
theorem d_law_799 : decode code 799 = .ok (.iaload, 1) := by decide +kernel
theorem d_law_800 : decode code 800 = .ok (.invokevirtual 88, 3) := by decide +kernel
theorem d_law_803 : decode code 803 = .ok (.if_icmp .eq 791, 3) := by decide +kernel
theorem law_c17 {Γ : GmT} {b L : Nat} {xs : Nat → Int32} {CL SL : Nat} {G : Dt → Nat → List (Nat × Value) → List Value → Prop} (C : LawG Γ b L xs CL SL G) {D : Dt} {i : Int32} (hI : Inv D) (hin : vp_in (i + 1) L ∧ vp_in (i + 2) L ∧ vp_in (i + 3) L ∧ vp_in (i + 4) L ∧ vp_in (i + 5) L) (next : ∀ D2, Inv D2 → G D2 1594 (lvL Γ b i) []) : G D 785 (lvL Γ b i) [] := by
  obtain ⟨x, D1, D2, h1, h2, hI2⟩ := both_undo hI (xs (i + 1).toNatClampNeg)
  refine l_aload C 1 d_law_785 rfl rfl ?_
  refine l_arg C d_law_786 d_law_787 d_law_788 rfl d_law_789 d_law_790 rfl rfl hin.1 ?_
  refine l_call C (As := [.int (xs (i + 1).toNatClampNeg)]) (rest := []) ok_Root_undo (List.mem_of_getElem? (i := 627) (by decide +kernel)) k_id0 (by decide) ⟨Nat.le_of_ble_eq_true rfl, Nat.le_of_ble_eq_true rfl⟩ rfl rfl (Nat.le_of_ble_eq_true rfl) d_law_791 (c_Root_undo Γ h1) ?_
  refine l_aload C 2 d_law_794 rfl rfl ?_
  refine l_arg C d_law_795 d_law_796 d_law_797 rfl d_law_798 d_law_799 rfl rfl hin.1 ?_
  refine l_call C (As := [.int (xs (i + 1).toNatClampNeg)]) (rest := [.int x]) ok_Model_undo (List.mem_of_getElem? (i := 1398) (by decide +kernel)) k_id176 (by decide) ⟨Nat.le_of_ble_eq_true rfl, Nat.le_of_ble_eq_true rfl⟩ rfl rfl (Nat.le_of_ble_eq_true rfl) d_law_800 (c_Model_undo Γ h2) ?_
  refine l_icmpeq C d_law_803 (tgt := 1594) (by decide) ?_
  exact next D2 hI2
theorem d_law_808 : decode code 808 = .ok (.aload_n 1, 1) := by decide +kernel
theorem d_law_809 : decode code 809 = .ok (.invokevirtual 89, 3) := by decide +kernel
theorem d_law_812 : decode code 812 = .ok (.aload_n 2, 1) := by decide +kernel
theorem d_law_813 : decode code 813 = .ok (.invokevirtual 93, 3) := by decide +kernel
theorem d_law_816 : decode code 816 = .ok (.if_icmp .eq 778, 3) := by decide +kernel
theorem law_c18 {Γ : GmT} {b L : Nat} {xs : Nat → Int32} {CL SL : Nat} {G : Dt → Nat → List (Nat × Value) → List Value → Prop} (C : LawG Γ b L xs CL SL G) {D : Dt} {i : Int32} (hI : Inv D) (hin : vp_in (i + 1) L ∧ vp_in (i + 2) L ∧ vp_in (i + 3) L ∧ vp_in (i + 4) L ∧ vp_in (i + 5) L) (next : ∀ D2, Inv D2 → G D2 1594 (lvL Γ b i) []) : G D 808 (lvL Γ b i) [] := by
  obtain ⟨x, D1, D2, h1, h2, hI2⟩ := both_water hI
  refine l_aload C 1 d_law_808 rfl rfl ?_
  refine l_call C (As := []) (rest := []) ok_Root_water (List.mem_of_getElem? (i := 639) (by decide +kernel)) k_id0 (by decide) ⟨Nat.le_of_ble_eq_true rfl, Nat.le_of_ble_eq_true rfl⟩ rfl rfl (Nat.le_of_ble_eq_true rfl) d_law_809 (c_Root_water Γ h1) ?_
  refine l_aload C 2 d_law_812 rfl rfl ?_
  refine l_call C (As := []) (rest := [.int x]) ok_Model_water (List.mem_of_getElem? (i := 1402) (by decide +kernel)) k_id176 (by decide) ⟨Nat.le_of_ble_eq_true rfl, Nat.le_of_ble_eq_true rfl⟩ rfl rfl (Nat.le_of_ble_eq_true rfl) d_law_813 (c_Model_water Γ h2) ?_
  refine l_icmpeq C d_law_816 (tgt := 1594) (by decide) ?_
  exact next D2 hI2
theorem d_law_821 : decode code 821 = .ok (.aload_n 1, 1) := by decide +kernel
theorem d_law_822 : decode code 822 = .ok (.aload_n 0, 1) := by decide +kernel
theorem d_law_823 : decode code 823 = .ok (.iload_n 3, 1) := by decide +kernel
theorem d_law_824 : decode code 824 = .ok (.iconst 1, 1) := by decide +kernel
theorem d_law_825 : decode code 825 = .ok (.iadd, 1) := by decide +kernel
theorem d_law_826 : decode code 826 = .ok (.iaload, 1) := by decide +kernel
theorem d_law_827 : decode code 827 = .ok (.invokevirtual 94, 3) := by decide +kernel
theorem d_law_830 : decode code 830 = .ok (.aload_n 2, 1) := by decide +kernel
theorem d_law_831 : decode code 831 = .ok (.aload_n 0, 1) := by decide +kernel
theorem d_law_832 : decode code 832 = .ok (.iload_n 3, 1) := by decide +kernel
theorem d_law_833 : decode code 833 = .ok (.iconst 1, 1) := by decide +kernel
theorem d_law_834 : decode code 834 = .ok (.iadd, 1) := by decide +kernel
theorem d_law_835 : decode code 835 = .ok (.iaload, 1) := by decide +kernel
theorem d_law_836 : decode code 836 = .ok (.invokevirtual 97, 3) := by decide +kernel
theorem d_law_839 : decode code 839 = .ok (.if_icmp .eq 755, 3) := by decide +kernel
theorem law_c19 {Γ : GmT} {b L : Nat} {xs : Nat → Int32} {CL SL : Nat} {G : Dt → Nat → List (Nat × Value) → List Value → Prop} (C : LawG Γ b L xs CL SL G) {D : Dt} {i : Int32} (hI : Inv D) (hin : vp_in (i + 1) L ∧ vp_in (i + 2) L ∧ vp_in (i + 3) L ∧ vp_in (i + 4) L ∧ vp_in (i + 5) L) (next : ∀ D2, Inv D2 → G D2 1594 (lvL Γ b i) []) : G D 821 (lvL Γ b i) [] := by
  obtain ⟨x, D1, D2, h1, h2, hI2⟩ := both_keep hI (xs (i + 1).toNatClampNeg)
  refine l_aload C 1 d_law_821 rfl rfl ?_
  refine l_arg C d_law_822 d_law_823 d_law_824 rfl d_law_825 d_law_826 rfl rfl hin.1 ?_
  refine l_call C (As := [.int (xs (i + 1).toNatClampNeg)]) (rest := []) ok_Root_keep (List.mem_of_getElem? (i := 643) (by decide +kernel)) k_id0 (by decide) ⟨Nat.le_of_ble_eq_true rfl, Nat.le_of_ble_eq_true rfl⟩ rfl rfl (Nat.le_of_ble_eq_true rfl) d_law_827 (c_Root_keep Γ h1) ?_
  refine l_aload C 2 d_law_830 rfl rfl ?_
  refine l_arg C d_law_831 d_law_832 d_law_833 rfl d_law_834 d_law_835 rfl rfl hin.1 ?_
  refine l_call C (As := [.int (xs (i + 1).toNatClampNeg)]) (rest := [.int x]) ok_Model_keep (List.mem_of_getElem? (i := 1406) (by decide +kernel)) k_id176 (by decide) ⟨Nat.le_of_ble_eq_true rfl, Nat.le_of_ble_eq_true rfl⟩ rfl rfl (Nat.le_of_ble_eq_true rfl) d_law_836 (c_Model_keep Γ h2) ?_
  refine l_icmpeq C d_law_839 (tgt := 1594) (by decide) ?_
  exact next D2 hI2
theorem d_law_844 : decode code 844 = .ok (.aload_n 1, 1) := by decide +kernel
theorem d_law_845 : decode code 845 = .ok (.aload_n 0, 1) := by decide +kernel
theorem d_law_846 : decode code 846 = .ok (.iload_n 3, 1) := by decide +kernel
theorem d_law_847 : decode code 847 = .ok (.iconst 1, 1) := by decide +kernel
theorem d_law_848 : decode code 848 = .ok (.iadd, 1) := by decide +kernel
theorem d_law_849 : decode code 849 = .ok (.iaload, 1) := by decide +kernel
theorem d_law_850 : decode code 850 = .ok (.invokevirtual 98, 3) := by decide +kernel
theorem d_law_853 : decode code 853 = .ok (.aload_n 2, 1) := by decide +kernel
theorem d_law_854 : decode code 854 = .ok (.aload_n 0, 1) := by decide +kernel
theorem d_law_855 : decode code 855 = .ok (.iload_n 3, 1) := by decide +kernel
theorem d_law_856 : decode code 856 = .ok (.iconst 1, 1) := by decide +kernel
theorem d_law_857 : decode code 857 = .ok (.iadd, 1) := by decide +kernel
theorem d_law_858 : decode code 858 = .ok (.iaload, 1) := by decide +kernel
theorem d_law_859 : decode code 859 = .ok (.invokevirtual 101, 3) := by decide +kernel
theorem d_law_862 : decode code 862 = .ok (.if_icmp .eq 732, 3) := by decide +kernel
theorem law_c20 {Γ : GmT} {b L : Nat} {xs : Nat → Int32} {CL SL : Nat} {G : Dt → Nat → List (Nat × Value) → List Value → Prop} (C : LawG Γ b L xs CL SL G) {D : Dt} {i : Int32} (hI : Inv D) (hin : vp_in (i + 1) L ∧ vp_in (i + 2) L ∧ vp_in (i + 3) L ∧ vp_in (i + 4) L ∧ vp_in (i + 5) L) (next : ∀ D2, Inv D2 → G D2 1594 (lvL Γ b i) []) : G D 844 (lvL Γ b i) [] := by
  obtain ⟨x, D1, D2, h1, h2, hI2⟩ := both_on hI (xs (i + 1).toNatClampNeg)
  refine l_aload C 1 d_law_844 rfl rfl ?_
  refine l_arg C d_law_845 d_law_846 d_law_847 rfl d_law_848 d_law_849 rfl rfl hin.1 ?_
  refine l_call C (As := [.int (xs (i + 1).toNatClampNeg)]) (rest := []) ok_Root_on (List.mem_of_getElem? (i := 653) (by decide +kernel)) k_id0 (by decide) ⟨Nat.le_of_ble_eq_true rfl, Nat.le_of_ble_eq_true rfl⟩ rfl rfl (Nat.le_of_ble_eq_true rfl) d_law_850 (c_Root_on Γ h1) ?_
  refine l_aload C 2 d_law_853 rfl rfl ?_
  refine l_arg C d_law_854 d_law_855 d_law_856 rfl d_law_857 d_law_858 rfl rfl hin.1 ?_
  refine l_call C (As := [.int (xs (i + 1).toNatClampNeg)]) (rest := [.int x]) ok_Model_on (List.mem_of_getElem? (i := 1410) (by decide +kernel)) k_id176 (by decide) ⟨Nat.le_of_ble_eq_true rfl, Nat.le_of_ble_eq_true rfl⟩ rfl rfl (Nat.le_of_ble_eq_true rfl) d_law_859 (c_Model_on Γ h2) ?_
  refine l_icmpeq C d_law_862 (tgt := 1594) (by decide) ?_
  exact next D2 hI2
