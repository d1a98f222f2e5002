/-! The law's cases: one call of the class, the same of the model. -/
theorem dL_law_846 : decode cL_law 846 = .ok (.aload_n 1, 1) := by decide +kernel
theorem dL_law_847 : decode cL_law 847 = .ok (.aload_n 0, 1) := by decide +kernel
theorem dL_law_848 : decode cL_law 848 = .ok (.iload_n 3, 1) := by decide +kernel
theorem dL_law_849 : decode cL_law 849 = .ok (.iconst 1, 1) := by decide +kernel
theorem dL_law_850 : decode cL_law 850 = .ok (.iadd, 1) := by decide +kernel
theorem dL_law_851 : decode cL_law 851 = .ok (.iaload, 1) := by decide +kernel
theorem dL_law_852 : decode cL_law 852 = .ok (.aload_n 0, 1) := by decide +kernel
theorem dL_law_853 : decode cL_law 853 = .ok (.iload_n 3, 1) := by decide +kernel
theorem dL_law_854 : decode cL_law 854 = .ok (.iconst 2, 1) := by decide +kernel
theorem dL_law_855 : decode cL_law 855 = .ok (.iadd, 1) := by decide +kernel
theorem dL_law_856 : decode cL_law 856 = .ok (.iaload, 1) := by decide +kernel
theorem dL_law_857 : decode cL_law 857 = .ok (.invokevirtual 91, 3) := by decide +kernel
theorem dL_law_860 : decode cL_law 860 = .ok (.aload_n 2, 1) := by decide +kernel
theorem dL_law_861 : decode cL_law 861 = .ok (.aload_n 0, 1) := by decide +kernel
theorem dL_law_862 : decode cL_law 862 = .ok (.iload_n 3, 1) := by decide +kernel
theorem dL_law_863 : decode cL_law 863 = .ok (.iconst 1, 1) := by decide +kernel
theorem dL_law_864 : decode cL_law 864 = .ok (.iadd, 1) := by decide +kernel
theorem dL_law_865 : decode cL_law 865 = .ok (.iaload, 1) := by decide +kernel
theorem dL_law_866 : decode cL_law 866 = .ok (.aload_n 0, 1) := by decide +kernel
theorem dL_law_867 : decode cL_law 867 = .ok (.iload_n 3, 1) := by decide +kernel
theorem dL_law_868 : decode cL_law 868 = .ok (.iconst 2, 1) := by decide +kernel
theorem dL_law_869 : decode cL_law 869 = .ok (.iadd, 1) := by decide +kernel
theorem dL_law_870 : decode cL_law 870 = .ok (.iaload, 1) := by decide +kernel
theorem dL_law_871 : decode cL_law 871 = .ok (.invokevirtual 94, 3) := by decide +kernel
theorem dL_law_874 : decode cL_law 874 = .ok (.if_icmp .eq 470, 3) := by decide +kernel
theorem dL_law_879 : decode cL_law 879 = .ok (.aload_n 1, 1) := by decide +kernel
theorem dL_law_880 : decode cL_law 880 = .ok (.aload_n 0, 1) := by decide +kernel
theorem dL_law_881 : decode cL_law 881 = .ok (.iload_n 3, 1) := by decide +kernel
theorem dL_law_882 : decode cL_law 882 = .ok (.iconst 1, 1) := by decide +kernel
theorem dL_law_883 : decode cL_law 883 = .ok (.iadd, 1) := by decide +kernel
theorem dL_law_884 : decode cL_law 884 = .ok (.iaload, 1) := by decide +kernel
theorem dL_law_885 : decode cL_law 885 = .ok (.aload_n 0, 1) := by decide +kernel
theorem dL_law_886 : decode cL_law 886 = .ok (.iload_n 3, 1) := by decide +kernel
theorem dL_law_887 : decode cL_law 887 = .ok (.iconst 2, 1) := by decide +kernel
theorem dL_law_888 : decode cL_law 888 = .ok (.iadd, 1) := by decide +kernel
theorem dL_law_889 : decode cL_law 889 = .ok (.iaload, 1) := by decide +kernel
theorem dL_law_890 : decode cL_law 890 = .ok (.invokevirtual 95, 3) := by decide +kernel
theorem dL_law_893 : decode cL_law 893 = .ok (.aload_n 2, 1) := by decide +kernel
theorem dL_law_894 : decode cL_law 894 = .ok (.aload_n 0, 1) := by decide +kernel
theorem dL_law_895 : decode cL_law 895 = .ok (.iload_n 3, 1) := by decide +kernel
theorem dL_law_896 : decode cL_law 896 = .ok (.iconst 1, 1) := by decide +kernel
theorem dL_law_897 : decode cL_law 897 = .ok (.iadd, 1) := by decide +kernel
theorem dL_law_898 : decode cL_law 898 = .ok (.iaload, 1) := by decide +kernel
theorem dL_law_899 : decode cL_law 899 = .ok (.aload_n 0, 1) := by decide +kernel
theorem dL_law_900 : decode cL_law 900 = .ok (.iload_n 3, 1) := by decide +kernel
theorem dL_law_901 : decode cL_law 901 = .ok (.iconst 2, 1) := by decide +kernel
theorem dL_law_902 : decode cL_law 902 = .ok (.iadd, 1) := by decide +kernel
theorem dL_law_903 : decode cL_law 903 = .ok (.iaload, 1) := by decide +kernel
theorem dL_law_904 : decode cL_law 904 = .ok (.invokevirtual 98, 3) := by decide +kernel
theorem dL_law_907 : decode cL_law 907 = .ok (.if_icmp .eq 437, 3) := by decide +kernel
theorem dL_law_912 : decode cL_law 912 = .ok (.aload_n 1, 1) := by decide +kernel
theorem dL_law_913 : decode cL_law 913 = .ok (.aload_n 0, 1) := by decide +kernel
theorem dL_law_914 : decode cL_law 914 = .ok (.iload_n 3, 1) := by decide +kernel
theorem dL_law_915 : decode cL_law 915 = .ok (.iconst 1, 1) := by decide +kernel
theorem dL_law_916 : decode cL_law 916 = .ok (.iadd, 1) := by decide +kernel
theorem dL_law_917 : decode cL_law 917 = .ok (.iaload, 1) := by decide +kernel
theorem dL_law_918 : decode cL_law 918 = .ok (.invokevirtual 99, 3) := by decide +kernel
theorem dL_law_921 : decode cL_law 921 = .ok (.aload_n 2, 1) := by decide +kernel
theorem dL_law_922 : decode cL_law 922 = .ok (.aload_n 0, 1) := by decide +kernel
theorem dL_law_923 : decode cL_law 923 = .ok (.iload_n 3, 1) := by decide +kernel
theorem dL_law_924 : decode cL_law 924 = .ok (.iconst 1, 1) := by decide +kernel
theorem dL_law_925 : decode cL_law 925 = .ok (.iadd, 1) := by decide +kernel
theorem dL_law_926 : decode cL_law 926 = .ok (.iaload, 1) := by decide +kernel
theorem dL_law_927 : decode cL_law 927 = .ok (.invokevirtual 103, 3) := by decide +kernel
theorem dL_law_930 : decode cL_law 930 = .ok (.lcmp, 1) := by decide +kernel
theorem dL_law_931 : decode cL_law 931 = .ok (.ifCond .eq 413, 3) := by decide +kernel
theorem dL_law_936 : decode cL_law 936 = .ok (.aload_n 1, 1) := by decide +kernel
theorem dL_law_937 : decode cL_law 937 = .ok (.aload_n 0, 1) := by decide +kernel
theorem dL_law_938 : decode cL_law 938 = .ok (.iload_n 3, 1) := by decide +kernel
theorem dL_law_939 : decode cL_law 939 = .ok (.iconst 1, 1) := by decide +kernel
theorem dL_law_940 : decode cL_law 940 = .ok (.iadd, 1) := by decide +kernel
theorem dL_law_941 : decode cL_law 941 = .ok (.iaload, 1) := by decide +kernel
theorem dL_law_942 : decode cL_law 942 = .ok (.invokevirtual 104, 3) := by decide +kernel
theorem dL_law_945 : decode cL_law 945 = .ok (.aload_n 2, 1) := by decide +kernel
theorem dL_law_946 : decode cL_law 946 = .ok (.aload_n 0, 1) := by decide +kernel
theorem dL_law_947 : decode cL_law 947 = .ok (.iload_n 3, 1) := by decide +kernel
theorem dL_law_948 : decode cL_law 948 = .ok (.iconst 1, 1) := by decide +kernel
theorem dL_law_949 : decode cL_law 949 = .ok (.iadd, 1) := by decide +kernel
theorem dL_law_950 : decode cL_law 950 = .ok (.iaload, 1) := by decide +kernel
theorem dL_law_951 : decode cL_law 951 = .ok (.invokevirtual 107, 3) := by decide +kernel
theorem dL_law_954 : decode cL_law 954 = .ok (.if_icmp .eq 390, 3) := by decide +kernel
theorem dL_law_959 : decode cL_law 959 = .ok (.aload_n 1, 1) := by decide +kernel
theorem dL_law_960 : decode cL_law 960 = .ok (.aload_n 0, 1) := by decide +kernel
theorem dL_law_961 : decode cL_law 961 = .ok (.iload_n 3, 1) := by decide +kernel
theorem dL_law_962 : decode cL_law 962 = .ok (.iconst 1, 1) := by decide +kernel
theorem dL_law_963 : decode cL_law 963 = .ok (.iadd, 1) := by decide +kernel
theorem dL_law_964 : decode cL_law 964 = .ok (.iaload, 1) := by decide +kernel
theorem dL_law_965 : decode cL_law 965 = .ok (.invokevirtual 108, 3) := by decide +kernel
theorem dL_law_968 : decode cL_law 968 = .ok (.aload_n 2, 1) := by decide +kernel
theorem dL_law_969 : decode cL_law 969 = .ok (.aload_n 0, 1) := by decide +kernel
theorem dL_law_970 : decode cL_law 970 = .ok (.iload_n 3, 1) := by decide +kernel
theorem dL_law_971 : decode cL_law 971 = .ok (.iconst 1, 1) := by decide +kernel
theorem dL_law_972 : decode cL_law 972 = .ok (.iadd, 1) := by decide +kernel
theorem dL_law_973 : decode cL_law 973 = .ok (.iaload, 1) := by decide +kernel
theorem dL_law_974 : decode cL_law 974 = .ok (.invokevirtual 111, 3) := by decide +kernel
theorem dL_law_977 : decode cL_law 977 = .ok (.if_icmp .eq 367, 3) := by decide +kernel
theorem dL_law_982 : decode cL_law 982 = .ok (.aload_n 1, 1) := by decide +kernel
theorem dL_law_983 : decode cL_law 983 = .ok (.aload_n 0, 1) := by decide +kernel
theorem dL_law_984 : decode cL_law 984 = .ok (.iload_n 3, 1) := by decide +kernel
theorem dL_law_985 : decode cL_law 985 = .ok (.iconst 1, 1) := by decide +kernel
theorem dL_law_986 : decode cL_law 986 = .ok (.iadd, 1) := by decide +kernel
theorem dL_law_987 : decode cL_law 987 = .ok (.iaload, 1) := by decide +kernel
theorem dL_law_988 : decode cL_law 988 = .ok (.aload_n 0, 1) := by decide +kernel
theorem dL_law_989 : decode cL_law 989 = .ok (.iload_n 3, 1) := by decide +kernel
theorem dL_law_990 : decode cL_law 990 = .ok (.iconst 2, 1) := by decide +kernel
theorem dL_law_991 : decode cL_law 991 = .ok (.iadd, 1) := by decide +kernel
theorem dL_law_992 : decode cL_law 992 = .ok (.iaload, 1) := by decide +kernel
theorem dL_law_993 : decode cL_law 993 = .ok (.aload_n 0, 1) := by decide +kernel
theorem dL_law_994 : decode cL_law 994 = .ok (.iload_n 3, 1) := by decide +kernel
theorem dL_law_995 : decode cL_law 995 = .ok (.iconst 3, 1) := by decide +kernel
theorem dL_law_996 : decode cL_law 996 = .ok (.iadd, 1) := by decide +kernel
theorem dL_law_997 : decode cL_law 997 = .ok (.iaload, 1) := by decide +kernel
theorem dL_law_998 : decode cL_law 998 = .ok (.aload_n 0, 1) := by decide +kernel
theorem dL_law_999 : decode cL_law 999 = .ok (.iload_n 3, 1) := by decide +kernel
theorem dL_law_1000 : decode cL_law 1000 = .ok (.iconst 4, 1) := by decide +kernel
theorem dL_law_1001 : decode cL_law 1001 = .ok (.iadd, 1) := by decide +kernel
theorem dL_law_1002 : decode cL_law 1002 = .ok (.iaload, 1) := by decide +kernel
theorem dL_law_1003 : decode cL_law 1003 = .ok (.invokevirtual 112, 3) := by decide +kernel
theorem dL_law_1006 : decode cL_law 1006 = .ok (.aload_n 2, 1) := by decide +kernel
theorem dL_law_1007 : decode cL_law 1007 = .ok (.aload_n 0, 1) := by decide +kernel
theorem dL_law_1008 : decode cL_law 1008 = .ok (.iload_n 3, 1) := by decide +kernel
theorem dL_law_1009 : decode cL_law 1009 = .ok (.iconst 1, 1) := by decide +kernel
theorem dL_law_1010 : decode cL_law 1010 = .ok (.iadd, 1) := by decide +kernel
theorem dL_law_1011 : decode cL_law 1011 = .ok (.iaload, 1) := by decide +kernel
theorem dL_law_1012 : decode cL_law 1012 = .ok (.aload_n 0, 1) := by decide +kernel
theorem dL_law_1013 : decode cL_law 1013 = .ok (.iload_n 3, 1) := by decide +kernel
theorem dL_law_1014 : decode cL_law 1014 = .ok (.iconst 2, 1) := by decide +kernel
theorem dL_law_1015 : decode cL_law 1015 = .ok (.iadd, 1) := by decide +kernel
theorem dL_law_1016 : decode cL_law 1016 = .ok (.iaload, 1) := by decide +kernel
theorem dL_law_1017 : decode cL_law 1017 = .ok (.aload_n 0, 1) := by decide +kernel
theorem dL_law_1018 : decode cL_law 1018 = .ok (.iload_n 3, 1) := by decide +kernel
theorem dL_law_1019 : decode cL_law 1019 = .ok (.iconst 3, 1) := by decide +kernel
theorem dL_law_1020 : decode cL_law 1020 = .ok (.iadd, 1) := by decide +kernel
theorem dL_law_1021 : decode cL_law 1021 = .ok (.iaload, 1) := by decide +kernel
theorem dL_law_1022 : decode cL_law 1022 = .ok (.aload_n 0, 1) := by decide +kernel
theorem dL_law_1023 : decode cL_law 1023 = .ok (.iload_n 3, 1) := by decide +kernel
theorem dL_law_1024 : decode cL_law 1024 = .ok (.iconst 4, 1) := by decide +kernel
theorem dL_law_1025 : decode cL_law 1025 = .ok (.iadd, 1) := by decide +kernel
theorem dL_law_1026 : decode cL_law 1026 = .ok (.iaload, 1) := by decide +kernel
theorem dL_law_1027 : decode cL_law 1027 = .ok (.invokevirtual 116, 3) := by decide +kernel
theorem dL_law_1030 : decode cL_law 1030 = .ok (.lcmp, 1) := by decide +kernel
theorem dL_law_1031 : decode cL_law 1031 = .ok (.ifCond .eq 313, 3) := by decide +kernel
section LWK
variable {p : Program} {l : Launch} {e : Env} {s : State} {m : MethodId} {below : List Frame} {meth : Method} {c : Code} {cells slots : Nat} {Q : State → Prop} {D : va_G} {G : pm_G} {b L sa sv : Nat} {xs : Nat → Int32}
set_option maxHeartbeats 4000000 in
set_option maxRecDepth 100000 in
theorem law_c18 (C : lw_C p s m c b L xs D G sa sv) {i : Nat} (hi : i + 6 ≤ L) {ls : Array Slot} (hl : lv_has ls 4 (lw_L s b i)) {j : pH} {H : Heap} {locs : List Loc} (I : lw_I D G s j H locs) (hcs : cells ≤ 600000 ∧ slots ≤ 7302250) (kk : ∀ (j1 : pH) (H1 : Heap) (locs1 : List Loc), lw_I D G s j1 H1 locs1 → W p l e room_1 s m #[Value.ref b] below meth c H1 locs1 cells slots Q (F0 m 1344 ls [])) : W p l e room_1 s m #[Value.ref b] below meth c H locs cells slots Q (F0 m 846 ls []) := by
  obtain ⟨hx, hb, hml, hown, hts, -, -, -, -, -, hL3⟩ := id C
  obtain ⟨hok, al, ft, hP, hS⟩ := I
  have q1 := m_of al (lw_x xs i 1).toInt (lw_x xs i 2).toInt
  have a2 := al
  have ft2 := ft
  have hF : (F_X11_of (lw_x xs i 1).toInt (lw_x xs i 2).toInt j) = (F_X12_of (lw_x xs i 1).toInt (lw_x xs i 2).toInt j) := q1.2.2
  refine lv_aload_n hx hb dL_law_846 rfl (lv_at hl 2 rfl) ?_
  refine lw_ld C (kn := 1) (by omega) hl hS dL_law_847 dL_law_848 dL_law_849 (by decide) dL_law_850 dL_law_851 ?_
  refine lw_ld C (kn := 2) (by omega) hl hS dL_law_852 dL_law_853 dL_law_854 (by decide) dL_law_855 dL_law_856 ?_
  refine lw_call C (k := 114) (tag := 13) (a := 0) (as := [(0, (lw_x xs i 1).toInt), (0, (lw_x xs i 2).toInt)]) (rv := .int (Int32.ofInt (F_X11_of (lw_x xs i 1).toInt (lw_x xs i 2).toInt j))) (rest := []) (by decide) hok hP hS (c_X11_of (lw_x xs i 1).toInt (lw_x xs i 2).toInt j (q1.1)) rfl rfl (by decide) (List.forall_mem_cons.mpr ⟨lw_ok0, List.forall_mem_cons.mpr ⟨lw_oki (lw_x xs i 1), List.forall_mem_cons.mpr ⟨lw_oki (lw_x xs i 2), fun _ h => absurd h List.not_mem_nil⟩⟩⟩) (pm_TB_in (j := 1020) (by decide +kernel) rfl) (by decide +kernel) hl.1 (Nat.le_of_ble_eq_true rfl) (by rw [show ([(0, (lw_x xs i 1).toInt), (0, (lw_x xs i 2).toInt)] : List pV).map (pm_emb (lw_ad s) sa) = [Value.int (lw_x xs i 1), Value.int (lw_x xs i 2)] from by simp only [List.map_cons, List.map_nil, lw_ei, lw_el]]; rfl) rfl hcs dL_law_857 (fun H locs hok hP hS => ?_)
  refine lv_aload_n hx hb dL_law_860 rfl (lv_at hl 3 rfl) ?_
  refine lw_ld C (kn := 1) (by omega) hl hS dL_law_861 dL_law_862 dL_law_863 (by decide) dL_law_864 dL_law_865 ?_
  refine lw_ld C (kn := 2) (by omega) hl hS dL_law_866 dL_law_867 dL_law_868 (by decide) dL_law_869 dL_law_870 ?_
  refine lw_call C (k := 198) (tag := 14) (a := 248) (as := [(0, (lw_x xs i 1).toInt), (0, (lw_x xs i 2).toInt)]) (rv := .int (Int32.ofInt (F_X12_of (lw_x xs i 1).toInt (lw_x xs i 2).toInt j))) (rest := [Value.int (Int32.ofInt (F_X11_of (lw_x xs i 1).toInt (lw_x xs i 2).toInt j))]) (by decide) hok hP hS (c_X12_of (lw_x xs i 1).toInt (lw_x xs i 2).toInt j (q1.2.1)) rfl rfl (by decide) (List.forall_mem_cons.mpr ⟨lw_ok248, List.forall_mem_cons.mpr ⟨lw_oki (lw_x xs i 1), List.forall_mem_cons.mpr ⟨lw_oki (lw_x xs i 2), fun _ h => absurd h List.not_mem_nil⟩⟩⟩) (pm_TB_in (j := 1605) (by decide +kernel) rfl) (by decide +kernel) hl.1 (Nat.le_of_ble_eq_true rfl) (by rw [show ([(0, (lw_x xs i 1).toInt), (0, (lw_x xs i 2).toInt)] : List pV).map (pm_emb (lw_ad s) sa) = [Value.int (lw_x xs i 1), Value.int (lw_x xs i 2)] from by simp only [List.map_cons, List.map_nil, lw_ei, lw_el]]; rfl) rfl hcs dL_law_871 (fun H locs hok hP hS => ?_)
  exact lv_icmp_eq (tgt := 1344) hx hb dL_law_874 (by decide) (fun _ => kk _ H locs ⟨hok, a2, ft2, hP, hS⟩) (fun c9 => absurd (congrArg Int32.ofInt hF) c9)
set_option maxHeartbeats 4000000 in
set_option maxRecDepth 100000 in
theorem law_c19 (C : lw_C p s m c b L xs D G sa sv) {i : Nat} (hi : i + 6 ≤ L) {ls : Array Slot} (hl : lv_has ls 4 (lw_L s b i)) {j : pH} {H : Heap} {locs : List Loc} (I : lw_I D G s j H locs) (hcs : cells ≤ 600000 ∧ slots ≤ 7302250) (kk : ∀ (j1 : pH) (H1 : Heap) (locs1 : List Loc), lw_I D G s j1 H1 locs1 → W p l e room_1 s m #[Value.ref b] below meth c H1 locs1 cells slots Q (F0 m 1344 ls [])) : W p l e room_1 s m #[Value.ref b] below meth c H locs cells slots Q (F0 m 879 ls []) := by
  obtain ⟨hx, hb, hml, hown, hts, -, -, -, -, -, hL3⟩ := id C
  obtain ⟨hok, al, ft, hP, hS⟩ := I
  have q1 := m_work al (lw_x xs i 1).toInt (lw_x xs i 2).toInt
  have a2 := al
  have ft2 := ft
  have hF : (F_X11_work (lw_x xs i 1).toInt (lw_x xs i 2).toInt j) = (F_X12_work (lw_x xs i 1).toInt (lw_x xs i 2).toInt j) := q1.2.2
  refine lv_aload_n hx hb dL_law_879 rfl (lv_at hl 2 rfl) ?_
  refine lw_ld C (kn := 1) (by omega) hl hS dL_law_880 dL_law_881 dL_law_882 (by decide) dL_law_883 dL_law_884 ?_
  refine lw_ld C (kn := 2) (by omega) hl hS dL_law_885 dL_law_886 dL_law_887 (by decide) dL_law_888 dL_law_889 ?_
  refine lw_call C (k := 115) (tag := 13) (a := 0) (as := [(0, (lw_x xs i 1).toInt), (0, (lw_x xs i 2).toInt)]) (rv := .int (Int32.ofInt (F_X11_work (lw_x xs i 1).toInt (lw_x xs i 2).toInt j))) (rest := []) (by decide) hok hP hS (c_X11_work (lw_x xs i 1).toInt (lw_x xs i 2).toInt j (q1.1)) rfl rfl (by decide) (List.forall_mem_cons.mpr ⟨lw_ok0, List.forall_mem_cons.mpr ⟨lw_oki (lw_x xs i 1), List.forall_mem_cons.mpr ⟨lw_oki (lw_x xs i 2), fun _ h => absurd h List.not_mem_nil⟩⟩⟩) (pm_TB_in (j := 1029) (by decide +kernel) rfl) (by decide +kernel) hl.1 (Nat.le_of_ble_eq_true rfl) (by rw [show ([(0, (lw_x xs i 1).toInt), (0, (lw_x xs i 2).toInt)] : List pV).map (pm_emb (lw_ad s) sa) = [Value.int (lw_x xs i 1), Value.int (lw_x xs i 2)] from by simp only [List.map_cons, List.map_nil, lw_ei, lw_el]]; rfl) rfl hcs dL_law_890 (fun H locs hok hP hS => ?_)
  refine lv_aload_n hx hb dL_law_893 rfl (lv_at hl 3 rfl) ?_
  refine lw_ld C (kn := 1) (by omega) hl hS dL_law_894 dL_law_895 dL_law_896 (by decide) dL_law_897 dL_law_898 ?_
  refine lw_ld C (kn := 2) (by omega) hl hS dL_law_899 dL_law_900 dL_law_901 (by decide) dL_law_902 dL_law_903 ?_
  refine lw_call C (k := 200) (tag := 14) (a := 248) (as := [(0, (lw_x xs i 1).toInt), (0, (lw_x xs i 2).toInt)]) (rv := .int (Int32.ofInt (F_X12_work (lw_x xs i 1).toInt (lw_x xs i 2).toInt j))) (rest := [Value.int (Int32.ofInt (F_X11_work (lw_x xs i 1).toInt (lw_x xs i 2).toInt j))]) (by decide) hok hP hS (c_X12_work (lw_x xs i 1).toInt (lw_x xs i 2).toInt j (q1.2.1)) rfl rfl (by decide) (List.forall_mem_cons.mpr ⟨lw_ok248, List.forall_mem_cons.mpr ⟨lw_oki (lw_x xs i 1), List.forall_mem_cons.mpr ⟨lw_oki (lw_x xs i 2), fun _ h => absurd h List.not_mem_nil⟩⟩⟩) (pm_TB_in (j := 1614) (by decide +kernel) rfl) (by decide +kernel) hl.1 (Nat.le_of_ble_eq_true rfl) (by rw [show ([(0, (lw_x xs i 1).toInt), (0, (lw_x xs i 2).toInt)] : List pV).map (pm_emb (lw_ad s) sa) = [Value.int (lw_x xs i 1), Value.int (lw_x xs i 2)] from by simp only [List.map_cons, List.map_nil, lw_ei, lw_el]]; rfl) rfl hcs dL_law_904 (fun H locs hok hP hS => ?_)
  exact lv_icmp_eq (tgt := 1344) hx hb dL_law_907 (by decide) (fun _ => kk _ H locs ⟨hok, a2, ft2, hP, hS⟩) (fun c9 => absurd (congrArg Int32.ofInt hF) c9)
set_option maxHeartbeats 4000000 in
set_option maxRecDepth 100000 in
theorem law_c20 (C : lw_C p s m c b L xs D G sa sv) {i : Nat} (hi : i + 6 ≤ L) {ls : Array Slot} (hl : lv_has ls 4 (lw_L s b i)) {j : pH} {H : Heap} {locs : List Loc} (I : lw_I D G s j H locs) (hcs : cells ≤ 600000 ∧ slots ≤ 7302250) (kk : ∀ (j1 : pH) (H1 : Heap) (locs1 : List Loc), lw_I D G s j1 H1 locs1 → W p l e room_1 s m #[Value.ref b] below meth c H1 locs1 cells slots Q (F0 m 1344 ls [])) : W p l e room_1 s m #[Value.ref b] below meth c H locs cells slots Q (F0 m 912 ls []) := by
  obtain ⟨hx, hb, hml, hown, hts, -, -, -, -, -, hL3⟩ := id C
  obtain ⟨hok, al, ft, hP, hS⟩ := I
  have q1 := m_now al (lw_x xs i 1).toInt
  have a2 := al
  have ft2 := ft
  have hF : (F_X11_now (lw_x xs i 1).toInt j) = (F_X12_now (lw_x xs i 1).toInt j) := q1.2.2
  refine lv_aload_n hx hb dL_law_912 rfl (lv_at hl 2 rfl) ?_
  refine lw_ld C (kn := 1) (by omega) hl hS dL_law_913 dL_law_914 dL_law_915 (by decide) dL_law_916 dL_law_917 ?_
  refine lw_call C (k := 116) (tag := 13) (a := 0) (as := [(0, (lw_x xs i 1).toInt)]) (rv := .long (Int64.ofInt (F_X11_now (lw_x xs i 1).toInt j))) (rest := []) (by decide) hok hP hS (c_X11_now (lw_x xs i 1).toInt j (q1.1)) rfl rfl (by decide) (List.forall_mem_cons.mpr ⟨lw_ok0, List.forall_mem_cons.mpr ⟨lw_oki (lw_x xs i 1), fun _ h => absurd h List.not_mem_nil⟩⟩) (pm_TB_in (j := 1038) (by decide +kernel) rfl) (by decide +kernel) hl.1 (Nat.le_of_ble_eq_true rfl) (by rw [show ([(0, (lw_x xs i 1).toInt)] : List pV).map (pm_emb (lw_ad s) sa) = [Value.int (lw_x xs i 1)] from by simp only [List.map_cons, List.map_nil, lw_ei, lw_el]]; rfl) rfl hcs dL_law_918 (fun H locs hok hP hS => ?_)
  refine lv_aload_n hx hb dL_law_921 rfl (lv_at hl 3 rfl) ?_
  refine lw_ld C (kn := 1) (by omega) hl hS dL_law_922 dL_law_923 dL_law_924 (by decide) dL_law_925 dL_law_926 ?_
  refine lw_call C (k := 201) (tag := 14) (a := 248) (as := [(0, (lw_x xs i 1).toInt)]) (rv := .long (Int64.ofInt (F_X12_now (lw_x xs i 1).toInt j))) (rest := [Value.long (Int64.ofInt (F_X11_now (lw_x xs i 1).toInt j))]) (by decide) hok hP hS (c_X12_now (lw_x xs i 1).toInt j (q1.2.1)) rfl rfl (by decide) (List.forall_mem_cons.mpr ⟨lw_ok248, List.forall_mem_cons.mpr ⟨lw_oki (lw_x xs i 1), fun _ h => absurd h List.not_mem_nil⟩⟩) (pm_TB_in (j := 1622) (by decide +kernel) rfl) (by decide +kernel) hl.1 (Nat.le_of_ble_eq_true rfl) (by rw [show ([(0, (lw_x xs i 1).toInt)] : List pV).map (pm_emb (lw_ad s) sa) = [Value.int (lw_x xs i 1)] from by simp only [List.map_cons, List.map_nil, lw_ei, lw_el]]; rfl) rfl hcs dL_law_927 (fun H locs hok hP hS => ?_)
  refine W.lcmp hx hb dL_law_930 ?_
  exact lv_if_eq (tgt := 1344) hx hb dL_law_931 (by decide) (fun _ => kk _ H locs ⟨hok, a2, ft2, hP, hS⟩) (fun c9 => absurd (lw_cmp hF) c9)
set_option maxHeartbeats 4000000 in
set_option maxRecDepth 100000 in
theorem law_c21 (C : lw_C p s m c b L xs D G sa sv) {i : Nat} (hi : i + 6 ≤ L) {ls : Array Slot} (hl : lv_has ls 4 (lw_L s b i)) {j : pH} {H : Heap} {locs : List Loc} (I : lw_I D G s j H locs) (hcs : cells ≤ 600000 ∧ slots ≤ 7302250) (kk : ∀ (j1 : pH) (H1 : Heap) (locs1 : List Loc), lw_I D G s j1 H1 locs1 → W p l e room_1 s m #[Value.ref b] below meth c H1 locs1 cells slots Q (F0 m 1344 ls [])) : W p l e room_1 s m #[Value.ref b] below meth c H locs cells slots Q (F0 m 936 ls []) := by
  obtain ⟨hx, hb, hml, hown, hts, -, -, -, -, -, hL3⟩ := id C
  obtain ⟨hok, al, ft, hP, hS⟩ := I
  obtain ⟨a1, a2, ft2⟩ := joint (H := fun h => H_X11_placing (lw_x xs i 1).toInt h) (G := fun g => H_X12_placing (lw_x xs i 1).toInt g) al ft (fun h g al => (m_placing al (lw_x xs i 1).toInt).2.2.2)
  have a1 : AL j (H_X11_placing (lw_x xs i 1).toInt j) := a1
  have a2 : AL (H_X12_placing (lw_x xs i 1).toInt (H_X11_placing (lw_x xs i 1).toInt j)) (H_X12_placing (lw_x xs i 1).toInt (H_X11_placing (lw_x xs i 1).toInt j)) := a2
  have ft2 : FIT (H_X12_placing (lw_x xs i 1).toInt (H_X11_placing (lw_x xs i 1).toInt j)) := ft2
  have q1 := m_placing al (lw_x xs i 1).toInt
  have q2 := m_placing a1 (lw_x xs i 1).toInt
  have hF : (F_X11_placing (lw_x xs i 1).toInt j) = (F_X12_placing (lw_x xs i 1).toInt (H_X11_placing (lw_x xs i 1).toInt j)) := q2.2.2.1
  refine lv_aload_n hx hb dL_law_936 rfl (lv_at hl 2 rfl) ?_
  refine lw_ld C (kn := 1) (by omega) hl hS dL_law_937 dL_law_938 dL_law_939 (by decide) dL_law_940 dL_law_941 ?_
  refine lw_call C (k := 117) (tag := 13) (a := 0) (as := [(0, (lw_x xs i 1).toInt)]) (rv := .int (Int32.ofInt (F_X11_placing (lw_x xs i 1).toInt j))) (rest := []) (by decide) hok hP hS (c_X11_placing (lw_x xs i 1).toInt j (q1.1)) rfl rfl (by decide) (List.forall_mem_cons.mpr ⟨lw_ok0, List.forall_mem_cons.mpr ⟨lw_oki (lw_x xs i 1), fun _ h => absurd h List.not_mem_nil⟩⟩) (pm_TB_in (j := 1045) (by decide +kernel) rfl) (by decide +kernel) hl.1 (Nat.le_of_ble_eq_true rfl) (by rw [show ([(0, (lw_x xs i 1).toInt)] : List pV).map (pm_emb (lw_ad s) sa) = [Value.int (lw_x xs i 1)] from by simp only [List.map_cons, List.map_nil, lw_ei, lw_el]]; rfl) rfl hcs dL_law_942 (fun H locs hok hP hS => ?_)
  refine lv_aload_n hx hb dL_law_945 rfl (lv_at hl 3 rfl) ?_
  refine lw_ld C (kn := 1) (by omega) hl hS dL_law_946 dL_law_947 dL_law_948 (by decide) dL_law_949 dL_law_950 ?_
  refine lw_call C (k := 204) (tag := 14) (a := 248) (as := [(0, (lw_x xs i 1).toInt)]) (rv := .int (Int32.ofInt (F_X12_placing (lw_x xs i 1).toInt (H_X11_placing (lw_x xs i 1).toInt j)))) (rest := [Value.int (Int32.ofInt (F_X11_placing (lw_x xs i 1).toInt j))]) (by decide) hok hP hS (c_X12_placing (lw_x xs i 1).toInt (H_X11_placing (lw_x xs i 1).toInt j) (q2.2.1)) rfl rfl (by decide) (List.forall_mem_cons.mpr ⟨lw_ok248, List.forall_mem_cons.mpr ⟨lw_oki (lw_x xs i 1), fun _ h => absurd h List.not_mem_nil⟩⟩) (pm_TB_in (j := 1627) (by decide +kernel) rfl) (by decide +kernel) hl.1 (Nat.le_of_ble_eq_true rfl) (by rw [show ([(0, (lw_x xs i 1).toInt)] : List pV).map (pm_emb (lw_ad s) sa) = [Value.int (lw_x xs i 1)] from by simp only [List.map_cons, List.map_nil, lw_ei, lw_el]]; rfl) rfl hcs dL_law_951 (fun H locs hok hP hS => ?_)
  exact lv_icmp_eq (tgt := 1344) hx hb dL_law_954 (by decide) (fun _ => kk _ H locs ⟨hok, a2, ft2, hP, hS⟩) (fun c9 => absurd (congrArg Int32.ofInt hF) c9)
set_option maxHeartbeats 4000000 in
set_option maxRecDepth 100000 in
theorem law_c22 (C : lw_C p s m c b L xs D G sa sv) {i : Nat} (hi : i + 6 ≤ L) {ls : Array Slot} (hl : lv_has ls 4 (lw_L s b i)) {j : pH} {H : Heap} {locs : List Loc} (I : lw_I D G s j H locs) (hcs : cells ≤ 600000 ∧ slots ≤ 7302250) (kk : ∀ (j1 : pH) (H1 : Heap) (locs1 : List Loc), lw_I D G s j1 H1 locs1 → W p l e room_1 s m #[Value.ref b] below meth c H1 locs1 cells slots Q (F0 m 1344 ls [])) : W p l e room_1 s m #[Value.ref b] below meth c H locs cells slots Q (F0 m 959 ls []) := by
  obtain ⟨hx, hb, hml, hown, hts, -, -, -, -, -, hL3⟩ := id C
  obtain ⟨hok, al, ft, hP, hS⟩ := I
  obtain ⟨a1, a2, ft2⟩ := joint (H := fun h => H_X11_without (lw_x xs i 1).toInt h) (G := fun g => H_X12_without (lw_x xs i 1).toInt g) al ft (fun h g al => (m_without al (lw_x xs i 1).toInt).2.2.2)
  have a1 : AL j (H_X11_without (lw_x xs i 1).toInt j) := a1
  have a2 : AL (H_X12_without (lw_x xs i 1).toInt (H_X11_without (lw_x xs i 1).toInt j)) (H_X12_without (lw_x xs i 1).toInt (H_X11_without (lw_x xs i 1).toInt j)) := a2
  have ft2 : FIT (H_X12_without (lw_x xs i 1).toInt (H_X11_without (lw_x xs i 1).toInt j)) := ft2
  have q1 := m_without al (lw_x xs i 1).toInt
  have q2 := m_without a1 (lw_x xs i 1).toInt
  have hF : (F_X11_without (lw_x xs i 1).toInt j) = (F_X12_without (lw_x xs i 1).toInt (H_X11_without (lw_x xs i 1).toInt j)) := q2.2.2.1
  refine lv_aload_n hx hb dL_law_959 rfl (lv_at hl 2 rfl) ?_
  refine lw_ld C (kn := 1) (by omega) hl hS dL_law_960 dL_law_961 dL_law_962 (by decide) dL_law_963 dL_law_964 ?_
  refine lw_call C (k := 118) (tag := 13) (a := 0) (as := [(0, (lw_x xs i 1).toInt)]) (rv := .int (Int32.ofInt (F_X11_without (lw_x xs i 1).toInt j))) (rest := []) (by decide) hok hP hS (c_X11_without (lw_x xs i 1).toInt j (q1.1)) rfl rfl (by decide) (List.forall_mem_cons.mpr ⟨lw_ok0, List.forall_mem_cons.mpr ⟨lw_oki (lw_x xs i 1), fun _ h => absurd h List.not_mem_nil⟩⟩) (pm_TB_in (j := 1089) (by decide +kernel) rfl) (by decide +kernel) hl.1 (Nat.le_of_ble_eq_true rfl) (by rw [show ([(0, (lw_x xs i 1).toInt)] : List pV).map (pm_emb (lw_ad s) sa) = [Value.int (lw_x xs i 1)] from by simp only [List.map_cons, List.map_nil, lw_ei, lw_el]]; rfl) rfl hcs dL_law_965 (fun H locs hok hP hS => ?_)
  refine lv_aload_n hx hb dL_law_968 rfl (lv_at hl 3 rfl) ?_
  refine lw_ld C (kn := 1) (by omega) hl hS dL_law_969 dL_law_970 dL_law_971 (by decide) dL_law_972 dL_law_973 ?_
  refine lw_call C (k := 206) (tag := 14) (a := 248) (as := [(0, (lw_x xs i 1).toInt)]) (rv := .int (Int32.ofInt (F_X12_without (lw_x xs i 1).toInt (H_X11_without (lw_x xs i 1).toInt j)))) (rest := [Value.int (Int32.ofInt (F_X11_without (lw_x xs i 1).toInt j))]) (by decide) hok hP hS (c_X12_without (lw_x xs i 1).toInt (H_X11_without (lw_x xs i 1).toInt j) (q2.2.1)) rfl rfl (by decide) (List.forall_mem_cons.mpr ⟨lw_ok248, List.forall_mem_cons.mpr ⟨lw_oki (lw_x xs i 1), fun _ h => absurd h List.not_mem_nil⟩⟩) (pm_TB_in (j := 1640) (by decide +kernel) rfl) (by decide +kernel) hl.1 (Nat.le_of_ble_eq_true rfl) (by rw [show ([(0, (lw_x xs i 1).toInt)] : List pV).map (pm_emb (lw_ad s) sa) = [Value.int (lw_x xs i 1)] from by simp only [List.map_cons, List.map_nil, lw_ei, lw_el]]; rfl) rfl hcs dL_law_974 (fun H locs hok hP hS => ?_)
  exact lv_icmp_eq (tgt := 1344) hx hb dL_law_977 (by decide) (fun _ => kk _ H locs ⟨hok, a2, ft2, hP, hS⟩) (fun c9 => absurd (congrArg Int32.ofInt hF) c9)
set_option maxHeartbeats 4000000 in
set_option maxRecDepth 100000 in
theorem law_c23 (C : lw_C p s m c b L xs D G sa sv) {i : Nat} (hi : i + 6 ≤ L) {ls : Array Slot} (hl : lv_has ls 4 (lw_L s b i)) {j : pH} {H : Heap} {locs : List Loc} (I : lw_I D G s j H locs) (hcs : cells ≤ 600000 ∧ slots ≤ 7302250) (kk : ∀ (j1 : pH) (H1 : Heap) (locs1 : List Loc), lw_I D G s j1 H1 locs1 → W p l e room_1 s m #[Value.ref b] below meth c H1 locs1 cells slots Q (F0 m 1344 ls [])) : W p l e room_1 s m #[Value.ref b] below meth c H locs cells slots Q (F0 m 982 ls []) := by
  obtain ⟨hx, hb, hml, hown, hts, -, -, -, -, -, hL3⟩ := id C
  obtain ⟨hok, al, ft, hP, hS⟩ := I
  obtain ⟨a1, a2, ft2⟩ := joint (H := fun h => H_X11_other (lw_x xs i 1).toInt (lw_x xs i 2).toInt (lw_x xs i 3).toInt (lw_x xs i 4).toInt h) (G := fun g => H_X12_other (lw_x xs i 1).toInt (lw_x xs i 2).toInt (lw_x xs i 3).toInt (lw_x xs i 4).toInt g) al ft (fun h g al => (m_other al (lw_x xs i 1).toInt (lw_x xs i 2).toInt (lw_x xs i 3).toInt (lw_x xs i 4).toInt).2.2.2)
  have a1 : AL j (H_X11_other (lw_x xs i 1).toInt (lw_x xs i 2).toInt (lw_x xs i 3).toInt (lw_x xs i 4).toInt j) := a1
  have a2 : AL (H_X12_other (lw_x xs i 1).toInt (lw_x xs i 2).toInt (lw_x xs i 3).toInt (lw_x xs i 4).toInt (H_X11_other (lw_x xs i 1).toInt (lw_x xs i 2).toInt (lw_x xs i 3).toInt (lw_x xs i 4).toInt j)) (H_X12_other (lw_x xs i 1).toInt (lw_x xs i 2).toInt (lw_x xs i 3).toInt (lw_x xs i 4).toInt (H_X11_other (lw_x xs i 1).toInt (lw_x xs i 2).toInt (lw_x xs i 3).toInt (lw_x xs i 4).toInt j)) := a2
  have ft2 : FIT (H_X12_other (lw_x xs i 1).toInt (lw_x xs i 2).toInt (lw_x xs i 3).toInt (lw_x xs i 4).toInt (H_X11_other (lw_x xs i 1).toInt (lw_x xs i 2).toInt (lw_x xs i 3).toInt (lw_x xs i 4).toInt j)) := ft2
  have q1 := m_other al (lw_x xs i 1).toInt (lw_x xs i 2).toInt (lw_x xs i 3).toInt (lw_x xs i 4).toInt
  have q2 := m_other a1 (lw_x xs i 1).toInt (lw_x xs i 2).toInt (lw_x xs i 3).toInt (lw_x xs i 4).toInt
  have hF : (F_X11_other (lw_x xs i 1).toInt (lw_x xs i 2).toInt (lw_x xs i 3).toInt (lw_x xs i 4).toInt j) = (F_X12_other (lw_x xs i 1).toInt (lw_x xs i 2).toInt (lw_x xs i 3).toInt (lw_x xs i 4).toInt (H_X11_other (lw_x xs i 1).toInt (lw_x xs i 2).toInt (lw_x xs i 3).toInt (lw_x xs i 4).toInt j)) := q2.2.2.1
  refine lv_aload_n hx hb dL_law_982 rfl (lv_at hl 2 rfl) ?_
  refine lw_ld C (kn := 1) (by omega) hl hS dL_law_983 dL_law_984 dL_law_985 (by decide) dL_law_986 dL_law_987 ?_
  refine lw_ld C (kn := 2) (by omega) hl hS dL_law_988 dL_law_989 dL_law_990 (by decide) dL_law_991 dL_law_992 ?_
  refine lw_ld C (kn := 3) (by omega) hl hS dL_law_993 dL_law_994 dL_law_995 (by decide) dL_law_996 dL_law_997 ?_
  refine lw_ld C (kn := 4) (by omega) hl hS dL_law_998 dL_law_999 dL_law_1000 (by decide) dL_law_1001 dL_law_1002 ?_
  refine lw_call C (k := 121) (tag := 13) (a := 0) (as := [(0, (lw_x xs i 1).toInt), (0, (lw_x xs i 2).toInt), (0, (lw_x xs i 3).toInt), (0, (lw_x xs i 4).toInt)]) (rv := .long (Int64.ofInt (F_X11_other (lw_x xs i 1).toInt (lw_x xs i 2).toInt (lw_x xs i 3).toInt (lw_x xs i 4).toInt j))) (rest := []) (by decide) hok hP hS (c_X11_other (lw_x xs i 1).toInt (lw_x xs i 2).toInt (lw_x xs i 3).toInt (lw_x xs i 4).toInt j (q1.1)) rfl rfl (by decide) (List.forall_mem_cons.mpr ⟨lw_ok0, List.forall_mem_cons.mpr ⟨lw_oki (lw_x xs i 1), List.forall_mem_cons.mpr ⟨lw_oki (lw_x xs i 2), List.forall_mem_cons.mpr ⟨lw_oki (lw_x xs i 3), List.forall_mem_cons.mpr ⟨lw_oki (lw_x xs i 4), fun _ h => absurd h List.not_mem_nil⟩⟩⟩⟩⟩) (pm_TB_in (j := 1147) (by decide +kernel) rfl) (by decide +kernel) hl.1 (Nat.le_of_ble_eq_true rfl) (by rw [show ([(0, (lw_x xs i 1).toInt), (0, (lw_x xs i 2).toInt), (0, (lw_x xs i 3).toInt), (0, (lw_x xs i 4).toInt)] : List pV).map (pm_emb (lw_ad s) sa) = [Value.int (lw_x xs i 1), Value.int (lw_x xs i 2), Value.int (lw_x xs i 3), Value.int (lw_x xs i 4)] from by simp only [List.map_cons, List.map_nil, lw_ei, lw_el]]; rfl) rfl hcs dL_law_1003 (fun H locs hok hP hS => ?_)
  refine lv_aload_n hx hb dL_law_1006 rfl (lv_at hl 3 rfl) ?_
  refine lw_ld C (kn := 1) (by omega) hl hS dL_law_1007 dL_law_1008 dL_law_1009 (by decide) dL_law_1010 dL_law_1011 ?_
  refine lw_ld C (kn := 2) (by omega) hl hS dL_law_1012 dL_law_1013 dL_law_1014 (by decide) dL_law_1015 dL_law_1016 ?_
  refine lw_ld C (kn := 3) (by omega) hl hS dL_law_1017 dL_law_1018 dL_law_1019 (by decide) dL_law_1020 dL_law_1021 ?_
  refine lw_ld C (kn := 4) (by omega) hl hS dL_law_1022 dL_law_1023 dL_law_1024 (by decide) dL_law_1025 dL_law_1026 ?_
  refine lw_call C (k := 208) (tag := 14) (a := 248) (as := [(0, (lw_x xs i 1).toInt), (0, (lw_x xs i 2).toInt), (0, (lw_x xs i 3).toInt), (0, (lw_x xs i 4).toInt)]) (rv := .long (Int64.ofInt (F_X12_other (lw_x xs i 1).toInt (lw_x xs i 2).toInt (lw_x xs i 3).toInt (lw_x xs i 4).toInt (H_X11_other (lw_x xs i 1).toInt (lw_x xs i 2).toInt (lw_x xs i 3).toInt (lw_x xs i 4).toInt j)))) (rest := [Value.long (Int64.ofInt (F_X11_other (lw_x xs i 1).toInt (lw_x xs i 2).toInt (lw_x xs i 3).toInt (lw_x xs i 4).toInt j))]) (by decide) hok hP hS (c_X12_other (lw_x xs i 1).toInt (lw_x xs i 2).toInt (lw_x xs i 3).toInt (lw_x xs i 4).toInt (H_X11_other (lw_x xs i 1).toInt (lw_x xs i 2).toInt (lw_x xs i 3).toInt (lw_x xs i 4).toInt j) (q2.2.1)) rfl rfl (by decide) (List.forall_mem_cons.mpr ⟨lw_ok248, List.forall_mem_cons.mpr ⟨lw_oki (lw_x xs i 1), List.forall_mem_cons.mpr ⟨lw_oki (lw_x xs i 2), List.forall_mem_cons.mpr ⟨lw_oki (lw_x xs i 3), List.forall_mem_cons.mpr ⟨lw_oki (lw_x xs i 4), fun _ h => absurd h List.not_mem_nil⟩⟩⟩⟩⟩) (pm_TB_in (j := 1651) (by decide +kernel) rfl) (by decide +kernel) hl.1 (Nat.le_of_ble_eq_true rfl) (by rw [show ([(0, (lw_x xs i 1).toInt), (0, (lw_x xs i 2).toInt), (0, (lw_x xs i 3).toInt), (0, (lw_x xs i 4).toInt)] : List pV).map (pm_emb (lw_ad s) sa) = [Value.int (lw_x xs i 1), Value.int (lw_x xs i 2), Value.int (lw_x xs i 3), Value.int (lw_x xs i 4)] from by simp only [List.map_cons, List.map_nil, lw_ei, lw_el]]; rfl) rfl hcs dL_law_1027 (fun H locs hok hP hS => ?_)
  refine W.lcmp hx hb dL_law_1030 ?_
  exact lv_if_eq (tgt := 1344) hx hb dL_law_1031 (by decide) (fun _ => kk _ H locs ⟨hok, a2, ft2, hP, hS⟩) (fun c9 => absurd (lw_cmp hF) c9)
end LWK
