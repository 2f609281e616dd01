/-! the law: cases 21 to 27 -/
theorem d_law_867 : decode code 867 = .ok (.aload_n 1, 1) := by decide +kernel
theorem d_law_868 : decode code 868 = .ok (.aload_n 0, 1) := by decide +kernel
theorem d_law_869 : decode code 869 = .ok (.iload_n 3, 1) := by decide +kernel
theorem d_law_870 : decode code 870 = .ok (.iconst 1, 1) := by decide +kernel
theorem d_law_871 : decode code 871 = .ok (.iadd, 1) := by decide +kernel
theorem d_law_872 : decode code 872 = .ok (.iaload, 1) := by decide +kernel
theorem d_law_873 : decode code 873 = .ok (.invokevirtual 102, 3) := by decide +kernel
theorem d_law_876 : decode code 876 = .ok (.aload_n 2, 1) := by decide +kernel
theorem d_law_877 : decode code 877 = .ok (.aload_n 0, 1) := by decide +kernel
theorem d_law_878 : decode code 878 = .ok (.iload_n 3, 1) := by decide +kernel
theorem d_law_879 : decode code 879 = .ok (.iconst 1, 1) := by decide +kernel
theorem d_law_880 : decode code 880 = .ok (.iadd, 1) := by decide +kernel
theorem d_law_881 : decode code 881 = .ok (.iaload, 1) := by decide +kernel
theorem d_law_882 : decode code 882 = .ok (.invokevirtual 105, 3) := by decide +kernel
theorem d_law_885 : decode code 885 = .ok (.if_icmp .eq 709, 3) := by decide +kernel
theorem law_c21 {Γ : GmT} {b L : Nat} {xs : Nat → Int32} {CL SL : Nat} {G : Dt → Nat → List (Nat × Value) → List Value → Prop} (C : LawG Γ b L xs CL SL G) {D : Dt} {i : Int32} (hI : Inv D) (hin : vp_in (i + 1) L ∧ vp_in (i + 2) L ∧ vp_in (i + 3) L ∧ vp_in (i + 4) L ∧ vp_in (i + 5) L) (next : ∀ D2, Inv D2 → G D2 1594 (lvL Γ b i) []) : G D 867 (lvL Γ b i) [] := by
  obtain ⟨x, D1, D2, h1, h2, hI2⟩ := both_harm hI (xs (i + 1).toNatClampNeg)
  refine l_aload C 1 d_law_867 rfl rfl ?_
  refine l_arg C d_law_868 d_law_869 d_law_870 rfl d_law_871 d_law_872 rfl rfl hin.1 ?_
  refine l_call C (As := [.int (xs (i + 1).toNatClampNeg)]) (rest := []) ok_Root_harm (List.mem_of_getElem? (i := 657) (by decide +kernel)) k_id0 (by decide) ⟨Nat.le_of_ble_eq_true rfl, Nat.le_of_ble_eq_true rfl⟩ rfl rfl (Nat.le_of_ble_eq_true rfl) d_law_873 (c_Root_harm Γ h1) ?_
  refine l_aload C 2 d_law_876 rfl rfl ?_
  refine l_arg C d_law_877 d_law_878 d_law_879 rfl d_law_880 d_law_881 rfl rfl hin.1 ?_
  refine l_call C (As := [.int (xs (i + 1).toNatClampNeg)]) (rest := [.int x]) ok_Model_harm (List.mem_of_getElem? (i := 1418) (by decide +kernel)) k_id176 (by decide) ⟨Nat.le_of_ble_eq_true rfl, Nat.le_of_ble_eq_true rfl⟩ rfl rfl (Nat.le_of_ble_eq_true rfl) d_law_882 (c_Model_harm Γ h2) ?_
  refine l_icmpeq C d_law_885 (tgt := 1594) (by decide) ?_
  exact next D2 hI2
theorem d_law_890 : decode code 890 = .ok (.aload_n 1, 1) := by decide +kernel
theorem d_law_891 : decode code 891 = .ok (.aload_n 0, 1) := by decide +kernel
theorem d_law_892 : decode code 892 = .ok (.iload_n 3, 1) := by decide +kernel
theorem d_law_893 : decode code 893 = .ok (.iconst 1, 1) := by decide +kernel
theorem d_law_894 : decode code 894 = .ok (.iadd, 1) := by decide +kernel
theorem d_law_895 : decode code 895 = .ok (.iaload, 1) := by decide +kernel
theorem d_law_896 : decode code 896 = .ok (.invokevirtual 106, 3) := by decide +kernel
theorem d_law_899 : decode code 899 = .ok (.aload_n 2, 1) := by decide +kernel
theorem d_law_900 : decode code 900 = .ok (.aload_n 0, 1) := by decide +kernel
theorem d_law_901 : decode code 901 = .ok (.iload_n 3, 1) := by decide +kernel
theorem d_law_902 : decode code 902 = .ok (.iconst 1, 1) := by decide +kernel
theorem d_law_903 : decode code 903 = .ok (.iadd, 1) := by decide +kernel
theorem d_law_904 : decode code 904 = .ok (.iaload, 1) := by decide +kernel
theorem d_law_905 : decode code 905 = .ok (.invokevirtual 109, 3) := by decide +kernel
theorem d_law_908 : decode code 908 = .ok (.if_icmp .eq 686, 3) := by decide +kernel
theorem law_c22 {Γ : GmT} {b L : Nat} {xs : Nat → Int32} {CL SL : Nat} {G : Dt → Nat → List (Nat × Value) → List Value → Prop} (C : LawG Γ b L xs CL SL G) {D : Dt} {i : Int32} (hI : Inv D) (hin : vp_in (i + 1) L ∧ vp_in (i + 2) L ∧ vp_in (i + 3) L ∧ vp_in (i + 4) L ∧ vp_in (i + 5) L) (next : ∀ D2, Inv D2 → G D2 1594 (lvL Γ b i) []) : G D 890 (lvL Γ b i) [] := by
  obtain ⟨x, D1, D2, h1, h2, hI2⟩ := both_wet hI (xs (i + 1).toNatClampNeg)
  refine l_aload C 1 d_law_890 rfl rfl ?_
  refine l_arg C d_law_891 d_law_892 d_law_893 rfl d_law_894 d_law_895 rfl rfl hin.1 ?_
  refine l_call C (As := [.int (xs (i + 1).toNatClampNeg)]) (rest := []) ok_Root_wet (List.mem_of_getElem? (i := 717) (by decide +kernel)) k_id0 (by decide) ⟨Nat.le_of_ble_eq_true rfl, Nat.le_of_ble_eq_true rfl⟩ rfl rfl (Nat.le_of_ble_eq_true rfl) d_law_896 (c_Root_wet Γ h1) ?_
  refine l_aload C 2 d_law_899 rfl rfl ?_
  refine l_arg C d_law_900 d_law_901 d_law_902 rfl d_law_903 d_law_904 rfl rfl hin.1 ?_
  refine l_call C (As := [.int (xs (i + 1).toNatClampNeg)]) (rest := [.int x]) ok_Model_wet (List.mem_of_getElem? (i := 1452) (by decide +kernel)) k_id176 (by decide) ⟨Nat.le_of_ble_eq_true rfl, Nat.le_of_ble_eq_true rfl⟩ rfl rfl (Nat.le_of_ble_eq_true rfl) d_law_905 (c_Model_wet Γ h2) ?_
  refine l_icmpeq C d_law_908 (tgt := 1594) (by decide) ?_
  exact next D2 hI2
theorem d_law_913 : decode code 913 = .ok (.aload_n 1, 1) := by decide +kernel
theorem d_law_914 : decode code 914 = .ok (.aload_n 0, 1) := by decide +kernel
theorem d_law_915 : decode code 915 = .ok (.iload_n 3, 1) := by decide +kernel
theorem d_law_916 : decode code 916 = .ok (.iconst 1, 1) := by decide +kernel
theorem d_law_917 : decode code 917 = .ok (.iadd, 1) := by decide +kernel
theorem d_law_918 : decode code 918 = .ok (.iaload, 1) := by decide +kernel
theorem d_law_919 : decode code 919 = .ok (.aload_n 0, 1) := by decide +kernel
theorem d_law_920 : decode code 920 = .ok (.iload_n 3, 1) := by decide +kernel
theorem d_law_921 : decode code 921 = .ok (.iconst 2, 1) := by decide +kernel
theorem d_law_922 : decode code 922 = .ok (.iadd, 1) := by decide +kernel
theorem d_law_923 : decode code 923 = .ok (.iaload, 1) := by decide +kernel
theorem d_law_924 : decode code 924 = .ok (.invokevirtual 110, 3) := by decide +kernel
theorem d_law_927 : decode code 927 = .ok (.aload_n 2, 1) := by decide +kernel
theorem d_law_928 : decode code 928 = .ok (.aload_n 0, 1) := by decide +kernel
theorem d_law_929 : decode code 929 = .ok (.iload_n 3, 1) := by decide +kernel
theorem d_law_930 : decode code 930 = .ok (.iconst 1, 1) := by decide +kernel
theorem d_law_931 : decode code 931 = .ok (.iadd, 1) := by decide +kernel
theorem d_law_932 : decode code 932 = .ok (.iaload, 1) := by decide +kernel
theorem d_law_933 : decode code 933 = .ok (.aload_n 0, 1) := by decide +kernel
theorem d_law_934 : decode code 934 = .ok (.iload_n 3, 1) := by decide +kernel
theorem d_law_935 : decode code 935 = .ok (.iconst 2, 1) := by decide +kernel
theorem d_law_936 : decode code 936 = .ok (.iadd, 1) := by decide +kernel
theorem d_law_937 : decode code 937 = .ok (.iaload, 1) := by decide +kernel
theorem d_law_938 : decode code 938 = .ok (.invokevirtual 113, 3) := by decide +kernel
theorem d_law_941 : decode code 941 = .ok (.if_icmp .eq 653, 3) := by decide +kernel
theorem law_c23 {Γ : GmT} {b L : Nat} {xs : Nat → Int32} {CL SL : Nat} {G : Dt → Nat → List (Nat × Value) → List Value → Prop} (C : LawG Γ b L xs CL SL G) {D : Dt} {i : Int32} (hI : Inv D) (hin : vp_in (i + 1) L ∧ vp_in (i + 2) L ∧ vp_in (i + 3) L ∧ vp_in (i + 4) L ∧ vp_in (i + 5) L) (next : ∀ D2, Inv D2 → G D2 1594 (lvL Γ b i) []) : G D 913 (lvL Γ b i) [] := by
  obtain ⟨x, D1, D2, h1, h2, hI2⟩ := both_when hI (xs (i + 1).toNatClampNeg) (xs (i + 2).toNatClampNeg)
  refine l_aload C 1 d_law_913 rfl rfl ?_
  refine l_arg C d_law_914 d_law_915 d_law_916 rfl d_law_917 d_law_918 rfl rfl hin.1 ?_
  refine l_arg C d_law_919 d_law_920 d_law_921 rfl d_law_922 d_law_923 rfl rfl hin.2.1 ?_
  refine l_call C (As := [.int (xs (i + 1).toNatClampNeg), .int (xs (i + 2).toNatClampNeg)]) (rest := []) ok_Root_when (List.mem_of_getElem? (i := 722) (by decide +kernel)) k_id0 (by decide) ⟨Nat.le_of_ble_eq_true rfl, Nat.le_of_ble_eq_true rfl⟩ rfl rfl (Nat.le_of_ble_eq_true rfl) d_law_924 (c_Root_when Γ h1) ?_
  refine l_aload C 2 d_law_927 rfl rfl ?_
  refine l_arg C d_law_928 d_law_929 d_law_930 rfl d_law_931 d_law_932 rfl rfl hin.1 ?_
  refine l_arg C d_law_933 d_law_934 d_law_935 rfl d_law_936 d_law_937 rfl rfl hin.2.1 ?_
  refine l_call C (As := [.int (xs (i + 1).toNatClampNeg), .int (xs (i + 2).toNatClampNeg)]) (rest := [.int x]) ok_Model_when (List.mem_of_getElem? (i := 1459) (by decide +kernel)) k_id176 (by decide) ⟨Nat.le_of_ble_eq_true rfl, Nat.le_of_ble_eq_true rfl⟩ rfl rfl (Nat.le_of_ble_eq_true rfl) d_law_938 (c_Model_when Γ h2) ?_
  refine l_icmpeq C d_law_941 (tgt := 1594) (by decide) ?_
  exact next D2 hI2
theorem d_law_946 : decode code 946 = .ok (.aload_n 1, 1) := by decide +kernel
theorem d_law_947 : decode code 947 = .ok (.aload_n 0, 1) := by decide +kernel
theorem d_law_948 : decode code 948 = .ok (.iload_n 3, 1) := by decide +kernel
theorem d_law_949 : decode code 949 = .ok (.iconst 1, 1) := by decide +kernel
theorem d_law_950 : decode code 950 = .ok (.iadd, 1) := by decide +kernel
theorem d_law_951 : decode code 951 = .ok (.iaload, 1) := by decide +kernel
theorem d_law_952 : decode code 952 = .ok (.aload_n 0, 1) := by decide +kernel
theorem d_law_953 : decode code 953 = .ok (.iload_n 3, 1) := by decide +kernel
theorem d_law_954 : decode code 954 = .ok (.iconst 2, 1) := by decide +kernel
theorem d_law_955 : decode code 955 = .ok (.iadd, 1) := by decide +kernel
theorem d_law_956 : decode code 956 = .ok (.iaload, 1) := by decide +kernel
theorem d_law_957 : decode code 957 = .ok (.invokevirtual 114, 3) := by decide +kernel
theorem d_law_960 : decode code 960 = .ok (.aload_n 2, 1) := by decide +kernel
theorem d_law_961 : decode code 961 = .ok (.aload_n 0, 1) := by decide +kernel
theorem d_law_962 : decode code 962 = .ok (.iload_n 3, 1) := by decide +kernel
theorem d_law_963 : decode code 963 = .ok (.iconst 1, 1) := by decide +kernel
theorem d_law_964 : decode code 964 = .ok (.iadd, 1) := by decide +kernel
theorem d_law_965 : decode code 965 = .ok (.iaload, 1) := by decide +kernel
theorem d_law_966 : decode code 966 = .ok (.aload_n 0, 1) := by decide +kernel
theorem d_law_967 : decode code 967 = .ok (.iload_n 3, 1) := by decide +kernel
theorem d_law_968 : decode code 968 = .ok (.iconst 2, 1) := by decide +kernel
theorem d_law_969 : decode code 969 = .ok (.iadd, 1) := by decide +kernel
theorem d_law_970 : decode code 970 = .ok (.iaload, 1) := by decide +kernel
theorem d_law_971 : decode code 971 = .ok (.invokevirtual 117, 3) := by decide +kernel
theorem d_law_974 : decode code 974 = .ok (.if_icmp .eq 620, 3) := by decide +kernel
theorem law_c24 {Γ : GmT} {b L : Nat} {xs : Nat → Int32} {CL SL : Nat} {G : Dt → Nat → List (Nat × Value) → List Value → Prop} (C : LawG Γ b L xs CL SL G) {D : Dt} {i : Int32} (hI : Inv D) (hin : vp_in (i + 1) L ∧ vp_in (i + 2) L ∧ vp_in (i + 3) L ∧ vp_in (i + 4) L ∧ vp_in (i + 5) L) (next : ∀ D2, Inv D2 → G D2 1594 (lvL Γ b i) []) : G D 946 (lvL Γ b i) [] := by
  obtain ⟨x, D1, D2, h1, h2, hI2⟩ := both_cut hI (xs (i + 1).toNatClampNeg) (xs (i + 2).toNatClampNeg)
  refine l_aload C 1 d_law_946 rfl rfl ?_
  refine l_arg C d_law_947 d_law_948 d_law_949 rfl d_law_950 d_law_951 rfl rfl hin.1 ?_
  refine l_arg C d_law_952 d_law_953 d_law_954 rfl d_law_955 d_law_956 rfl rfl hin.2.1 ?_
  refine l_call C (As := [.int (xs (i + 1).toNatClampNeg), .int (xs (i + 2).toNatClampNeg)]) (rest := []) ok_Root_cut (List.mem_of_getElem? (i := 729) (by decide +kernel)) k_id0 (by decide) ⟨Nat.le_of_ble_eq_true rfl, Nat.le_of_ble_eq_true rfl⟩ rfl rfl (Nat.le_of_ble_eq_true rfl) d_law_957 (c_Root_cut Γ h1) ?_
  refine l_aload C 2 d_law_960 rfl rfl ?_
  refine l_arg C d_law_961 d_law_962 d_law_963 rfl d_law_964 d_law_965 rfl rfl hin.1 ?_
  refine l_arg C d_law_966 d_law_967 d_law_968 rfl d_law_969 d_law_970 rfl rfl hin.2.1 ?_
  refine l_call C (As := [.int (xs (i + 1).toNatClampNeg), .int (xs (i + 2).toNatClampNeg)]) (rest := [.int x]) ok_Model_cut (List.mem_of_getElem? (i := 1463) (by decide +kernel)) k_id176 (by decide) ⟨Nat.le_of_ble_eq_true rfl, Nat.le_of_ble_eq_true rfl⟩ rfl rfl (Nat.le_of_ble_eq_true rfl) d_law_971 (c_Model_cut Γ h2) ?_
  refine l_icmpeq C d_law_974 (tgt := 1594) (by decide) ?_
  exact next D2 hI2
theorem d_law_979 : decode code 979 = .ok (.aload_n 1, 1) := by decide +kernel
theorem d_law_980 : decode code 980 = .ok (.aload_n 0, 1) := by decide +kernel
theorem d_law_981 : decode code 981 = .ok (.iload_n 3, 1) := by decide +kernel
theorem d_law_982 : decode code 982 = .ok (.iconst 1, 1) := by decide +kernel
theorem d_law_983 : decode code 983 = .ok (.iadd, 1) := by decide +kernel
theorem d_law_984 : decode code 984 = .ok (.iaload, 1) := by decide +kernel
theorem d_law_985 : decode code 985 = .ok (.aload_n 0, 1) := by decide +kernel
theorem d_law_986 : decode code 986 = .ok (.iload_n 3, 1) := by decide +kernel
theorem d_law_987 : decode code 987 = .ok (.iconst 2, 1) := by decide +kernel
theorem d_law_988 : decode code 988 = .ok (.iadd, 1) := by decide +kernel
theorem d_law_989 : decode code 989 = .ok (.iaload, 1) := by decide +kernel
theorem d_law_990 : decode code 990 = .ok (.aload_n 0, 1) := by decide +kernel
theorem d_law_991 : decode code 991 = .ok (.iload_n 3, 1) := by decide +kernel
theorem d_law_992 : decode code 992 = .ok (.iconst 3, 1) := by decide +kernel
theorem d_law_993 : decode code 993 = .ok (.iadd, 1) := by decide +kernel
theorem d_law_994 : decode code 994 = .ok (.iaload, 1) := by decide +kernel
theorem d_law_995 : decode code 995 = .ok (.aload_n 0, 1) := by decide +kernel
theorem d_law_996 : decode code 996 = .ok (.iload_n 3, 1) := by decide +kernel
theorem d_law_997 : decode code 997 = .ok (.iconst 4, 1) := by decide +kernel
theorem d_law_998 : decode code 998 = .ok (.iadd, 1) := by decide +kernel
theorem d_law_999 : decode code 999 = .ok (.iaload, 1) := by decide +kernel
theorem d_law_1000 : decode code 1000 = .ok (.invokevirtual 118, 3) := by decide +kernel
theorem d_law_1003 : decode code 1003 = .ok (.aload_n 2, 1) := by decide +kernel
theorem d_law_1004 : decode code 1004 = .ok (.aload_n 0, 1) := by decide +kernel
theorem d_law_1005 : decode code 1005 = .ok (.iload_n 3, 1) := by decide +kernel
theorem d_law_1006 : decode code 1006 = .ok (.iconst 1, 1) := by decide +kernel
theorem d_law_1007 : decode code 1007 = .ok (.iadd, 1) := by decide +kernel
theorem d_law_1008 : decode code 1008 = .ok (.iaload, 1) := by decide +kernel
theorem d_law_1009 : decode code 1009 = .ok (.aload_n 0, 1) := by decide +kernel
theorem d_law_1010 : decode code 1010 = .ok (.iload_n 3, 1) := by decide +kernel
theorem d_law_1011 : decode code 1011 = .ok (.iconst 2, 1) := by decide +kernel
theorem d_law_1012 : decode code 1012 = .ok (.iadd, 1) := by decide +kernel
theorem d_law_1013 : decode code 1013 = .ok (.iaload, 1) := by decide +kernel
theorem d_law_1014 : decode code 1014 = .ok (.aload_n 0, 1) := by decide +kernel
theorem d_law_1015 : decode code 1015 = .ok (.iload_n 3, 1) := by decide +kernel
theorem d_law_1016 : decode code 1016 = .ok (.iconst 3, 1) := by decide +kernel
theorem d_law_1017 : decode code 1017 = .ok (.iadd, 1) := by decide +kernel
theorem d_law_1018 : decode code 1018 = .ok (.iaload, 1) := by decide +kernel
theorem d_law_1019 : decode code 1019 = .ok (.aload_n 0, 1) := by decide +kernel
theorem d_law_1020 : decode code 1020 = .ok (.iload_n 3, 1) := by decide +kernel
theorem d_law_1021 : decode code 1021 = .ok (.iconst 4, 1) := by decide +kernel
theorem d_law_1022 : decode code 1022 = .ok (.iadd, 1) := by decide +kernel
theorem d_law_1023 : decode code 1023 = .ok (.iaload, 1) := by decide +kernel
theorem d_law_1024 : decode code 1024 = .ok (.invokevirtual 122, 3) := by decide +kernel
theorem d_law_1027 : decode code 1027 = .ok (.if_icmp .eq 567, 3) := by decide +kernel
theorem law_c25 {Γ : GmT} {b L : Nat} {xs : Nat → Int32} {CL SL : Nat} {G : Dt → Nat → List (Nat × Value) → List Value → Prop} (C : LawG Γ b L xs CL SL G) {D : Dt} {i : Int32} (hI : Inv D) (hin : vp_in (i + 1) L ∧ vp_in (i + 2) L ∧ vp_in (i + 3) L ∧ vp_in (i + 4) L ∧ vp_in (i + 5) L) (next : ∀ D2, Inv D2 → G D2 1594 (lvL Γ b i) []) : G D 979 (lvL Γ b i) [] := by
  obtain ⟨x, D1, D2, h1, h2, hI2⟩ := both_boat hI (xs (i + 1).toNatClampNeg) (xs (i + 2).toNatClampNeg) (xs (i + 3).toNatClampNeg) (xs (i + 4).toNatClampNeg)
  refine l_aload C 1 d_law_979 rfl rfl ?_
  refine l_arg C d_law_980 d_law_981 d_law_982 rfl d_law_983 d_law_984 rfl rfl hin.1 ?_
  refine l_arg C d_law_985 d_law_986 d_law_987 rfl d_law_988 d_law_989 rfl rfl hin.2.1 ?_
  refine l_arg C d_law_990 d_law_991 d_law_992 rfl d_law_993 d_law_994 rfl rfl hin.2.2.1 ?_
  refine l_arg C d_law_995 d_law_996 d_law_997 rfl d_law_998 d_law_999 rfl rfl hin.2.2.2.1 ?_
  refine l_call C (As := [.int (xs (i + 1).toNatClampNeg), .int (xs (i + 2).toNatClampNeg), .int (xs (i + 3).toNatClampNeg), .int (xs (i + 4).toNatClampNeg)]) (rest := []) ok_Root_boat (List.mem_of_getElem? (i := 740) (by decide +kernel)) k_id0 (by decide) ⟨Nat.le_of_ble_eq_true rfl, Nat.le_of_ble_eq_true rfl⟩ rfl rfl (Nat.le_of_ble_eq_true rfl) d_law_1000 (c_Root_boat Γ h1) ?_
  refine l_aload C 2 d_law_1003 rfl rfl ?_
  refine l_arg C d_law_1004 d_law_1005 d_law_1006 rfl d_law_1007 d_law_1008 rfl rfl hin.1 ?_
  refine l_arg C d_law_1009 d_law_1010 d_law_1011 rfl d_law_1012 d_law_1013 rfl rfl hin.2.1 ?_
  refine l_arg C d_law_1014 d_law_1015 d_law_1016 rfl d_law_1017 d_law_1018 rfl rfl hin.2.2.1 ?_
  refine l_arg C d_law_1019 d_law_1020 d_law_1021 rfl d_law_1022 d_law_1023 rfl rfl hin.2.2.2.1 ?_
  refine l_call C (As := [.int (xs (i + 1).toNatClampNeg), .int (xs (i + 2).toNatClampNeg), .int (xs (i + 3).toNatClampNeg), .int (xs (i + 4).toNatClampNeg)]) (rest := [.int x]) ok_Model_boat (List.mem_of_getElem? (i := 1467) (by decide +kernel)) k_id176 (by decide) ⟨Nat.le_of_ble_eq_true rfl, Nat.le_of_ble_eq_true rfl⟩ rfl rfl (Nat.le_of_ble_eq_true rfl) d_law_1024 (c_Model_boat Γ h2) ?_
  refine l_icmpeq C d_law_1027 (tgt := 1594) (by decide) ?_
  exact next D2 hI2
theorem d_law_1032 : decode code 1032 = .ok (.aload_n 1, 1) := by decide +kernel
theorem d_law_1033 : decode code 1033 = .ok (.aload_n 0, 1) := by decide +kernel
theorem d_law_1034 : decode code 1034 = .ok (.iload_n 3, 1) := by decide +kernel
theorem d_law_1035 : decode code 1035 = .ok (.iconst 1, 1) := by decide +kernel
theorem d_law_1036 : decode code 1036 = .ok (.iadd, 1) := by decide +kernel
theorem d_law_1037 : decode code 1037 = .ok (.iaload, 1) := by decide +kernel
theorem d_law_1038 : decode code 1038 = .ok (.invokevirtual 123, 3) := by decide +kernel
theorem d_law_1041 : decode code 1041 = .ok (.aload_n 2, 1) := by decide +kernel
theorem d_law_1042 : decode code 1042 = .ok (.aload_n 0, 1) := by decide +kernel
theorem d_law_1043 : decode code 1043 = .ok (.iload_n 3, 1) := by decide +kernel
theorem d_law_1044 : decode code 1044 = .ok (.iconst 1, 1) := by decide +kernel
theorem d_law_1045 : decode code 1045 = .ok (.iadd, 1) := by decide +kernel
theorem d_law_1046 : decode code 1046 = .ok (.iaload, 1) := by decide +kernel
theorem d_law_1047 : decode code 1047 = .ok (.invokevirtual 126, 3) := by decide +kernel
theorem d_law_1050 : decode code 1050 = .ok (.if_icmp .eq 544, 3) := by decide +kernel
theorem law_c26 {Γ : GmT} {b L : Nat} {xs : Nat → Int32} {CL SL : Nat} {G : Dt → Nat → List (Nat × Value) → List Value → Prop} (C : LawG Γ b L xs CL SL G) {D : Dt} {i : Int32} (hI : Inv D) (hin : vp_in (i + 1) L ∧ vp_in (i + 2) L ∧ vp_in (i + 3) L ∧ vp_in (i + 4) L ∧ vp_in (i + 5) L) (next : ∀ D2, Inv D2 → G D2 1594 (lvL Γ b i) []) : G D 1032 (lvL Γ b i) [] := by
  obtain ⟨x, D1, D2, h1, h2, hI2⟩ := both_trade hI (xs (i + 1).toNatClampNeg)
  refine l_aload C 1 d_law_1032 rfl rfl ?_
  refine l_arg C d_law_1033 d_law_1034 d_law_1035 rfl d_law_1036 d_law_1037 rfl rfl hin.1 ?_
  refine l_call C (As := [.int (xs (i + 1).toNatClampNeg)]) (rest := []) ok_Root_trade (List.mem_of_getElem? (i := 746) (by decide +kernel)) k_id0 (by decide) ⟨Nat.le_of_ble_eq_true rfl, Nat.le_of_ble_eq_true rfl⟩ rfl rfl (Nat.le_of_ble_eq_true rfl) d_law_1038 (c_Root_trade Γ h1) ?_
  refine l_aload C 2 d_law_1041 rfl rfl ?_
  refine l_arg C d_law_1042 d_law_1043 d_law_1044 rfl d_law_1045 d_law_1046 rfl rfl hin.1 ?_
  refine l_call C (As := [.int (xs (i + 1).toNatClampNeg)]) (rest := [.int x]) ok_Model_trade (List.mem_of_getElem? (i := 1474) (by decide +kernel)) k_id176 (by decide) ⟨Nat.le_of_ble_eq_true rfl, Nat.le_of_ble_eq_true rfl⟩ rfl rfl (Nat.le_of_ble_eq_true rfl) d_law_1047 (c_Model_trade Γ h2) ?_
  refine l_icmpeq C d_law_1050 (tgt := 1594) (by decide) ?_
  exact next D2 hI2
theorem d_law_1055 : decode code 1055 = .ok (.aload_n 1, 1) := by decide +kernel
theorem d_law_1056 : decode code 1056 = .ok (.aload_n 0, 1) := by decide +kernel
theorem d_law_1057 : decode code 1057 = .ok (.iload_n 3, 1) := by decide +kernel
theorem d_law_1058 : decode code 1058 = .ok (.iconst 1, 1) := by decide +kernel
theorem d_law_1059 : decode code 1059 = .ok (.iadd, 1) := by decide +kernel
theorem d_law_1060 : decode code 1060 = .ok (.iaload, 1) := by decide +kernel
theorem d_law_1061 : decode code 1061 = .ok (.aload_n 0, 1) := by decide +kernel
theorem d_law_1062 : decode code 1062 = .ok (.iload_n 3, 1) := by decide +kernel
theorem d_law_1063 : decode code 1063 = .ok (.iconst 2, 1) := by decide +kernel
theorem d_law_1064 : decode code 1064 = .ok (.iadd, 1) := by decide +kernel
theorem d_law_1065 : decode code 1065 = .ok (.iaload, 1) := by decide +kernel
theorem d_law_1066 : decode code 1066 = .ok (.invokevirtual 127, 3) := by decide +kernel
theorem d_law_1069 : decode code 1069 = .ok (.aload_n 2, 1) := by decide +kernel
theorem d_law_1070 : decode code 1070 = .ok (.aload_n 0, 1) := by decide +kernel
theorem d_law_1071 : decode code 1071 = .ok (.iload_n 3, 1) := by decide +kernel
theorem d_law_1072 : decode code 1072 = .ok (.iconst 1, 1) := by decide +kernel
theorem d_law_1073 : decode code 1073 = .ok (.iadd, 1) := by decide +kernel
theorem d_law_1074 : decode code 1074 = .ok (.iaload, 1) := by decide +kernel
theorem d_law_1075 : decode code 1075 = .ok (.aload_n 0, 1) := by decide +kernel
theorem d_law_1076 : decode code 1076 = .ok (.iload_n 3, 1) := by decide +kernel
theorem d_law_1077 : decode code 1077 = .ok (.iconst 2, 1) := by decide +kernel
theorem d_law_1078 : decode code 1078 = .ok (.iadd, 1) := by decide +kernel
theorem d_law_1079 : decode code 1079 = .ok (.iaload, 1) := by decide +kernel
theorem d_law_1080 : decode code 1080 = .ok (.invokevirtual 130, 3) := by decide +kernel
theorem d_law_1083 : decode code 1083 = .ok (.if_icmp .eq 511, 3) := by decide +kernel
theorem law_c27 {Γ : GmT} {b L : Nat} {xs : Nat → Int32} {CL SL : Nat} {G : Dt → Nat → List (Nat × Value) → List Value → Prop} (C : LawG Γ b L xs CL SL G) {D : Dt} {i : Int32} (hI : Inv D) (hin : vp_in (i + 1) L ∧ vp_in (i + 2) L ∧ vp_in (i + 3) L ∧ vp_in (i + 4) L ∧ vp_in (i + 5) L) (next : ∀ D2, Inv D2 → G D2 1594 (lvL Γ b i) []) : G D 1055 (lvL Γ b i) [] := by
  obtain ⟨x, D1, D2, h1, h2, hI2⟩ := both_marks hI (xs (i + 1).toNatClampNeg) (xs (i + 2).toNatClampNeg)
  refine l_aload C 1 d_law_1055 rfl rfl ?_
  refine l_arg C d_law_1056 d_law_1057 d_law_1058 rfl d_law_1059 d_law_1060 rfl rfl hin.1 ?_
  refine l_arg C d_law_1061 d_law_1062 d_law_1063 rfl d_law_1064 d_law_1065 rfl rfl hin.2.1 ?_
  refine l_call C (As := [.int (xs (i + 1).toNatClampNeg), .int (xs (i + 2).toNatClampNeg)]) (rest := []) ok_Root_marks (List.mem_of_getElem? (i := 754) (by decide +kernel)) k_id0 (by decide) ⟨Nat.le_of_ble_eq_true rfl, Nat.le_of_ble_eq_true rfl⟩ rfl rfl (Nat.le_of_ble_eq_true rfl) d_law_1066 (c_Root_marks Γ h1) ?_
  refine l_aload C 2 d_law_1069 rfl rfl ?_
  refine l_arg C d_law_1070 d_law_1071 d_law_1072 rfl d_law_1073 d_law_1074 rfl rfl hin.1 ?_
  refine l_arg C d_law_1075 d_law_1076 d_law_1077 rfl d_law_1078 d_law_1079 rfl rfl hin.2.1 ?_
  refine l_call C (As := [.int (xs (i + 1).toNatClampNeg), .int (xs (i + 2).toNatClampNeg)]) (rest := [.int x]) ok_Model_marks (List.mem_of_getElem? (i := 1478) (by decide +kernel)) k_id176 (by decide) ⟨Nat.le_of_ble_eq_true rfl, Nat.le_of_ble_eq_true rfl⟩ rfl rfl (Nat.le_of_ble_eq_true rfl) d_law_1080 (c_Model_marks Γ h2) ?_
  refine l_icmpeq C d_law_1083 (tgt := 1594) (by decide) ?_
  exact next D2 hI2
