/-! The law's cases: one call of the class, the same of the model. -/
theorem dL_law_1036 : decode cL_law 1036 = .ok (.aload_n 1, 1) := by decide +kernel
theorem dL_law_1037 : decode cL_law 1037 = .ok (.invokevirtual 117, 3) := by decide +kernel
theorem dL_law_1040 : decode cL_law 1040 = .ok (.aload_n 2, 1) := by decide +kernel
theorem dL_law_1041 : decode cL_law 1041 = .ok (.invokevirtual 120, 3) := by decide +kernel
theorem dL_law_1044 : decode cL_law 1044 = .ok (.if_icmp .eq 300, 3) := by decide +kernel
theorem dL_law_1049 : decode cL_law 1049 = .ok (.aload_n 1, 1) := by decide +kernel
theorem dL_law_1050 : decode cL_law 1050 = .ok (.aload_n 0, 1) := by decide +kernel
theorem dL_law_1051 : decode cL_law 1051 = .ok (.iload_n 3, 1) := by decide +kernel
theorem dL_law_1052 : decode cL_law 1052 = .ok (.iconst 1, 1) := by decide +kernel
theorem dL_law_1053 : decode cL_law 1053 = .ok (.iadd, 1) := by decide +kernel
theorem dL_law_1054 : decode cL_law 1054 = .ok (.iaload, 1) := by decide +kernel
theorem dL_law_1055 : decode cL_law 1055 = .ok (.aload_n 0, 1) := by decide +kernel
theorem dL_law_1056 : decode cL_law 1056 = .ok (.iload_n 3, 1) := by decide +kernel
theorem dL_law_1057 : decode cL_law 1057 = .ok (.iconst 2, 1) := by decide +kernel
theorem dL_law_1058 : decode cL_law 1058 = .ok (.iadd, 1) := by decide +kernel
theorem dL_law_1059 : decode cL_law 1059 = .ok (.iaload, 1) := by decide +kernel
theorem dL_law_1060 : decode cL_law 1060 = .ok (.aload_n 0, 1) := by decide +kernel
theorem dL_law_1061 : decode cL_law 1061 = .ok (.iload_n 3, 1) := by decide +kernel
theorem dL_law_1062 : decode cL_law 1062 = .ok (.iconst 3, 1) := by decide +kernel
theorem dL_law_1063 : decode cL_law 1063 = .ok (.iadd, 1) := by decide +kernel
theorem dL_law_1064 : decode cL_law 1064 = .ok (.iaload, 1) := by decide +kernel
theorem dL_law_1065 : decode cL_law 1065 = .ok (.aload_n 0, 1) := by decide +kernel
theorem dL_law_1066 : decode cL_law 1066 = .ok (.iload_n 3, 1) := by decide +kernel
theorem dL_law_1067 : decode cL_law 1067 = .ok (.iconst 4, 1) := by decide +kernel
theorem dL_law_1068 : decode cL_law 1068 = .ok (.iadd, 1) := by decide +kernel
theorem dL_law_1069 : decode cL_law 1069 = .ok (.iaload, 1) := by decide +kernel
theorem dL_law_1070 : decode cL_law 1070 = .ok (.invokevirtual 121, 3) := by decide +kernel
theorem dL_law_1073 : decode cL_law 1073 = .ok (.aload_n 2, 1) := by decide +kernel
theorem dL_law_1074 : decode cL_law 1074 = .ok (.aload_n 0, 1) := by decide +kernel
theorem dL_law_1075 : decode cL_law 1075 = .ok (.iload_n 3, 1) := by decide +kernel
theorem dL_law_1076 : decode cL_law 1076 = .ok (.iconst 1, 1) := by decide +kernel
theorem dL_law_1077 : decode cL_law 1077 = .ok (.iadd, 1) := by decide +kernel
theorem dL_law_1078 : decode cL_law 1078 = .ok (.iaload, 1) := by decide +kernel
theorem dL_law_1079 : decode cL_law 1079 = .ok (.aload_n 0, 1) := by decide +kernel
theorem dL_law_1080 : decode cL_law 1080 = .ok (.iload_n 3, 1) := by decide +kernel
theorem dL_law_1081 : decode cL_law 1081 = .ok (.iconst 2, 1) := by decide +kernel
theorem dL_law_1082 : decode cL_law 1082 = .ok (.iadd, 1) := by decide +kernel
theorem dL_law_1083 : decode cL_law 1083 = .ok (.iaload, 1) := by decide +kernel
theorem dL_law_1084 : decode cL_law 1084 = .ok (.aload_n 0, 1) := by decide +kernel
theorem dL_law_1085 : decode cL_law 1085 = .ok (.iload_n 3, 1) := by decide +kernel
theorem dL_law_1086 : decode cL_law 1086 = .ok (.iconst 3, 1) := by decide +kernel
theorem dL_law_1087 : decode cL_law 1087 = .ok (.iadd, 1) := by decide +kernel
theorem dL_law_1088 : decode cL_law 1088 = .ok (.iaload, 1) := by decide +kernel
theorem dL_law_1089 : decode cL_law 1089 = .ok (.aload_n 0, 1) := by decide +kernel
theorem dL_law_1090 : decode cL_law 1090 = .ok (.iload_n 3, 1) := by decide +kernel
theorem dL_law_1091 : decode cL_law 1091 = .ok (.iconst 4, 1) := by decide +kernel
theorem dL_law_1092 : decode cL_law 1092 = .ok (.iadd, 1) := by decide +kernel
theorem dL_law_1093 : decode cL_law 1093 = .ok (.iaload, 1) := by decide +kernel
theorem dL_law_1094 : decode cL_law 1094 = .ok (.invokevirtual 124, 3) := by decide +kernel
theorem dL_law_1097 : decode cL_law 1097 = .ok (.if_icmp .eq 247, 3) := by decide +kernel
theorem dL_law_1102 : decode cL_law 1102 = .ok (.aload_n 1, 1) := by decide +kernel
theorem dL_law_1103 : decode cL_law 1103 = .ok (.aload_n 0, 1) := by decide +kernel
theorem dL_law_1104 : decode cL_law 1104 = .ok (.iload_n 3, 1) := by decide +kernel
theorem dL_law_1105 : decode cL_law 1105 = .ok (.iconst 1, 1) := by decide +kernel
theorem dL_law_1106 : decode cL_law 1106 = .ok (.iadd, 1) := by decide +kernel
theorem dL_law_1107 : decode cL_law 1107 = .ok (.iaload, 1) := by decide +kernel
theorem dL_law_1108 : decode cL_law 1108 = .ok (.invokevirtual 125, 3) := by decide +kernel
theorem dL_law_1111 : decode cL_law 1111 = .ok (.aload_n 2, 1) := by decide +kernel
theorem dL_law_1112 : decode cL_law 1112 = .ok (.aload_n 0, 1) := by decide +kernel
theorem dL_law_1113 : decode cL_law 1113 = .ok (.iload_n 3, 1) := by decide +kernel
theorem dL_law_1114 : decode cL_law 1114 = .ok (.iconst 1, 1) := by decide +kernel
theorem dL_law_1115 : decode cL_law 1115 = .ok (.iadd, 1) := by decide +kernel
theorem dL_law_1116 : decode cL_law 1116 = .ok (.iaload, 1) := by decide +kernel
theorem dL_law_1117 : decode cL_law 1117 = .ok (.invokevirtual 128, 3) := by decide +kernel
theorem dL_law_1120 : decode cL_law 1120 = .ok (.if_icmp .eq 224, 3) := by decide +kernel
theorem dL_law_1125 : decode cL_law 1125 = .ok (.aload_n 1, 1) := by decide +kernel
theorem dL_law_1126 : decode cL_law 1126 = .ok (.aload_n 0, 1) := by decide +kernel
theorem dL_law_1127 : decode cL_law 1127 = .ok (.iload_n 3, 1) := by decide +kernel
theorem dL_law_1128 : decode cL_law 1128 = .ok (.iconst 1, 1) := by decide +kernel
theorem dL_law_1129 : decode cL_law 1129 = .ok (.iadd, 1) := by decide +kernel
theorem dL_law_1130 : decode cL_law 1130 = .ok (.iaload, 1) := by decide +kernel
theorem dL_law_1131 : decode cL_law 1131 = .ok (.invokevirtual 129, 3) := by decide +kernel
theorem dL_law_1134 : decode cL_law 1134 = .ok (.aload_n 2, 1) := by decide +kernel
theorem dL_law_1135 : decode cL_law 1135 = .ok (.aload_n 0, 1) := by decide +kernel
theorem dL_law_1136 : decode cL_law 1136 = .ok (.iload_n 3, 1) := by decide +kernel
theorem dL_law_1137 : decode cL_law 1137 = .ok (.iconst 1, 1) := by decide +kernel
theorem dL_law_1138 : decode cL_law 1138 = .ok (.iadd, 1) := by decide +kernel
theorem dL_law_1139 : decode cL_law 1139 = .ok (.iaload, 1) := by decide +kernel
theorem dL_law_1140 : decode cL_law 1140 = .ok (.invokevirtual 132, 3) := by decide +kernel
theorem dL_law_1143 : decode cL_law 1143 = .ok (.if_icmp .eq 201, 3) := by decide +kernel
theorem dL_law_1148 : decode cL_law 1148 = .ok (.aload_n 1, 1) := by decide +kernel
theorem dL_law_1149 : decode cL_law 1149 = .ok (.invokevirtual 133, 3) := by decide +kernel
theorem dL_law_1152 : decode cL_law 1152 = .ok (.aload_n 2, 1) := by decide +kernel
theorem dL_law_1153 : decode cL_law 1153 = .ok (.invokevirtual 136, 3) := by decide +kernel
theorem dL_law_1156 : decode cL_law 1156 = .ok (.if_icmp .eq 188, 3) := by decide +kernel
theorem dL_law_1161 : decode cL_law 1161 = .ok (.aload_n 1, 1) := by decide +kernel
theorem dL_law_1162 : decode cL_law 1162 = .ok (.aload_n 0, 1) := by decide +kernel
theorem dL_law_1163 : decode cL_law 1163 = .ok (.iload_n 3, 1) := by decide +kernel
theorem dL_law_1164 : decode cL_law 1164 = .ok (.iconst 1, 1) := by decide +kernel
theorem dL_law_1165 : decode cL_law 1165 = .ok (.iadd, 1) := by decide +kernel
theorem dL_law_1166 : decode cL_law 1166 = .ok (.iaload, 1) := by decide +kernel
theorem dL_law_1167 : decode cL_law 1167 = .ok (.invokevirtual 137, 3) := by decide +kernel
theorem dL_law_1170 : decode cL_law 1170 = .ok (.aload_n 2, 1) := by decide +kernel
theorem dL_law_1171 : decode cL_law 1171 = .ok (.aload_n 0, 1) := by decide +kernel
theorem dL_law_1172 : decode cL_law 1172 = .ok (.iload_n 3, 1) := by decide +kernel
theorem dL_law_1173 : decode cL_law 1173 = .ok (.iconst 1, 1) := by decide +kernel
theorem dL_law_1174 : decode cL_law 1174 = .ok (.iadd, 1) := by decide +kernel
theorem dL_law_1175 : decode cL_law 1175 = .ok (.iaload, 1) := by decide +kernel
theorem dL_law_1176 : decode cL_law 1176 = .ok (.invokevirtual 140, 3) := by decide +kernel
theorem dL_law_1179 : decode cL_law 1179 = .ok (.lcmp, 1) := by decide +kernel
theorem dL_law_1180 : decode cL_law 1180 = .ok (.ifCond .eq 164, 3) := by decide +kernel
section LWK
variable {p : Program} {l : Launch} {e : Env} {s : State} {m : MethodId} {below : List Frame} {meth : Method} {c : Code} {cells slots : Nat} {Q : State → Prop} {D : va_G} {G : pm_G} {b L sa sv : Nat} {xs : Nat → Int32}
set_option maxHeartbeats 4000000 in
set_option maxRecDepth 100000 in
theorem law_c24 (C : lw_C p s m c b L xs D G sa sv) {i : Nat} (hi : i + 6 ≤ L) {ls : Array Slot} (hl : lv_has ls 4 (lw_L s b i)) {j : pH} {H : Heap} {locs : List Loc} (I : lw_I D G s j H locs) (hcs : cells ≤ 600000 ∧ slots ≤ 7302250) (kk : ∀ (j1 : pH) (H1 : Heap) (locs1 : List Loc), lw_I D G s j1 H1 locs1 → W p l e room_1 s m #[Value.ref b] below meth c H1 locs1 cells slots Q (F0 m 1344 ls [])) : W p l e room_1 s m #[Value.ref b] below meth c H locs cells slots Q (F0 m 1036 ls []) := by
  obtain ⟨hx, hb, hml, hown, hts, -, -, -, -, -, hL3⟩ := id C
  obtain ⟨hok, al, ft, hP, hS⟩ := I
  obtain ⟨q1p, q2p, q2f, a2, ft2⟩ := joint_fitted al ft
  have hF : (F_X11_fitted j) = (F_X12_fitted (H_X11_fitted j)) := q2f
  refine lv_aload_n hx hb dL_law_1036 rfl (lv_at hl 2 rfl) ?_
  refine lw_call C (k := 122) (tag := 13) (a := 0) (as := []) (rv := .int (Int32.ofInt (F_X11_fitted j))) (rest := []) (by decide) hok hP hS (c_X11_fitted j (q1p)) rfl rfl (by decide) (List.forall_mem_cons.mpr ⟨lw_ok0, fun _ h => absurd h List.not_mem_nil⟩) (pm_TB_in (j := 1174) (by decide +kernel) rfl) (by decide +kernel) hl.1 (Nat.le_of_ble_eq_true rfl) (by rw [show ([] : List pV).map (pm_emb (lw_ad s) sa) = [] from by simp only [List.map_cons, List.map_nil, lw_ei, lw_el]]; rfl) rfl hcs dL_law_1037 (fun H locs hok hP hS => ?_)
  refine lv_aload_n hx hb dL_law_1040 rfl (lv_at hl 3 rfl) ?_
  refine lw_call C (k := 211) (tag := 14) (a := 248) (as := []) (rv := .int (Int32.ofInt (F_X12_fitted (H_X11_fitted j)))) (rest := [Value.int (Int32.ofInt (F_X11_fitted j))]) (by decide) hok hP hS (c_X12_fitted (H_X11_fitted j) (q2p)) rfl rfl (by decide) (List.forall_mem_cons.mpr ⟨lw_ok248, fun _ h => absurd h List.not_mem_nil⟩) (pm_TB_in (j := 1660) (by decide +kernel) rfl) (by decide +kernel) hl.1 (Nat.le_of_ble_eq_true rfl) (by rw [show ([] : List pV).map (pm_emb (lw_ad s) sa) = [] from by simp only [List.map_cons, List.map_nil, lw_ei, lw_el]]; rfl) rfl hcs dL_law_1041 (fun H locs hok hP hS => ?_)
  exact lv_icmp_eq (tgt := 1344) hx hb dL_law_1044 (by decide) (fun _ => kk _ H locs ⟨hok, a2, ft2, hP, hS⟩) (fun c9 => absurd (congrArg Int32.ofInt hF) c9)
set_option maxHeartbeats 4000000 in
set_option maxRecDepth 100000 in
theorem law_c25 (C : lw_C p s m c b L xs D G sa sv) {i : Nat} (hi : i + 6 ≤ L) {ls : Array Slot} (hl : lv_has ls 4 (lw_L s b i)) {j : pH} {H : Heap} {locs : List Loc} (I : lw_I D G s j H locs) (hcs : cells ≤ 600000 ∧ slots ≤ 7302250) (kk : ∀ (j1 : pH) (H1 : Heap) (locs1 : List Loc), lw_I D G s j1 H1 locs1 → W p l e room_1 s m #[Value.ref b] below meth c H1 locs1 cells slots Q (F0 m 1344 ls [])) : W p l e room_1 s m #[Value.ref b] below meth c H locs cells slots Q (F0 m 1049 ls []) := by
  obtain ⟨hx, hb, hml, hown, hts, -, -, -, -, -, hL3⟩ := id C
  obtain ⟨hok, al, ft, hP, hS⟩ := I
  obtain ⟨a1, a2, ft2⟩ := joint (H := fun h => H_X11_drill (lw_x xs i 1).toInt (lw_x xs i 2).toInt (lw_x xs i 3).toInt (lw_x xs i 4).toInt h) (G := fun g => H_X12_drill (lw_x xs i 1).toInt (lw_x xs i 2).toInt (lw_x xs i 3).toInt (lw_x xs i 4).toInt g) al ft (fun h g al => (m_drill al (lw_x xs i 1).toInt (lw_x xs i 2).toInt (lw_x xs i 3).toInt (lw_x xs i 4).toInt).2.2.2)
  have a1 : AL j (H_X11_drill (lw_x xs i 1).toInt (lw_x xs i 2).toInt (lw_x xs i 3).toInt (lw_x xs i 4).toInt j) := a1
  have a2 : AL (H_X12_drill (lw_x xs i 1).toInt (lw_x xs i 2).toInt (lw_x xs i 3).toInt (lw_x xs i 4).toInt (H_X11_drill (lw_x xs i 1).toInt (lw_x xs i 2).toInt (lw_x xs i 3).toInt (lw_x xs i 4).toInt j)) (H_X12_drill (lw_x xs i 1).toInt (lw_x xs i 2).toInt (lw_x xs i 3).toInt (lw_x xs i 4).toInt (H_X11_drill (lw_x xs i 1).toInt (lw_x xs i 2).toInt (lw_x xs i 3).toInt (lw_x xs i 4).toInt j)) := a2
  have ft2 : FIT (H_X12_drill (lw_x xs i 1).toInt (lw_x xs i 2).toInt (lw_x xs i 3).toInt (lw_x xs i 4).toInt (H_X11_drill (lw_x xs i 1).toInt (lw_x xs i 2).toInt (lw_x xs i 3).toInt (lw_x xs i 4).toInt j)) := ft2
  have q1 := m_drill al (lw_x xs i 1).toInt (lw_x xs i 2).toInt (lw_x xs i 3).toInt (lw_x xs i 4).toInt
  have q2 := m_drill a1 (lw_x xs i 1).toInt (lw_x xs i 2).toInt (lw_x xs i 3).toInt (lw_x xs i 4).toInt
  have hF : (F_X11_drill (lw_x xs i 1).toInt (lw_x xs i 2).toInt (lw_x xs i 3).toInt (lw_x xs i 4).toInt j) = (F_X12_drill (lw_x xs i 1).toInt (lw_x xs i 2).toInt (lw_x xs i 3).toInt (lw_x xs i 4).toInt (H_X11_drill (lw_x xs i 1).toInt (lw_x xs i 2).toInt (lw_x xs i 3).toInt (lw_x xs i 4).toInt j)) := q2.2.2.1
  refine lv_aload_n hx hb dL_law_1049 rfl (lv_at hl 2 rfl) ?_
  refine lw_ld C (kn := 1) (by omega) hl hS dL_law_1050 dL_law_1051 dL_law_1052 (by decide) dL_law_1053 dL_law_1054 ?_
  refine lw_ld C (kn := 2) (by omega) hl hS dL_law_1055 dL_law_1056 dL_law_1057 (by decide) dL_law_1058 dL_law_1059 ?_
  refine lw_ld C (kn := 3) (by omega) hl hS dL_law_1060 dL_law_1061 dL_law_1062 (by decide) dL_law_1063 dL_law_1064 ?_
  refine lw_ld C (kn := 4) (by omega) hl hS dL_law_1065 dL_law_1066 dL_law_1067 (by decide) dL_law_1068 dL_law_1069 ?_
  refine lw_call C (k := 123) (tag := 13) (a := 0) (as := [(0, (lw_x xs i 1).toInt), (0, (lw_x xs i 2).toInt), (0, (lw_x xs i 3).toInt), (0, (lw_x xs i 4).toInt)]) (rv := .int (Int32.ofInt (F_X11_drill (lw_x xs i 1).toInt (lw_x xs i 2).toInt (lw_x xs i 3).toInt (lw_x xs i 4).toInt j))) (rest := []) (by decide) hok hP hS (c_X11_drill (lw_x xs i 1).toInt (lw_x xs i 2).toInt (lw_x xs i 3).toInt (lw_x xs i 4).toInt j (q1.1)) rfl rfl (by decide) (List.forall_mem_cons.mpr ⟨lw_ok0, List.forall_mem_cons.mpr ⟨lw_oki (lw_x xs i 1), List.forall_mem_cons.mpr ⟨lw_oki (lw_x xs i 2), List.forall_mem_cons.mpr ⟨lw_oki (lw_x xs i 3), List.forall_mem_cons.mpr ⟨lw_oki (lw_x xs i 4), fun _ h => absurd h List.not_mem_nil⟩⟩⟩⟩⟩) (pm_TB_in (j := 1198) (by decide +kernel) rfl) (by decide +kernel) hl.1 (Nat.le_of_ble_eq_true rfl) (by rw [show ([(0, (lw_x xs i 1).toInt), (0, (lw_x xs i 2).toInt), (0, (lw_x xs i 3).toInt), (0, (lw_x xs i 4).toInt)] : List pV).map (pm_emb (lw_ad s) sa) = [Value.int (lw_x xs i 1), Value.int (lw_x xs i 2), Value.int (lw_x xs i 3), Value.int (lw_x xs i 4)] from by simp only [List.map_cons, List.map_nil, lw_ei, lw_el]]; rfl) rfl hcs dL_law_1070 (fun H locs hok hP hS => ?_)
  refine lv_aload_n hx hb dL_law_1073 rfl (lv_at hl 3 rfl) ?_
  refine lw_ld C (kn := 1) (by omega) hl hS dL_law_1074 dL_law_1075 dL_law_1076 (by decide) dL_law_1077 dL_law_1078 ?_
  refine lw_ld C (kn := 2) (by omega) hl hS dL_law_1079 dL_law_1080 dL_law_1081 (by decide) dL_law_1082 dL_law_1083 ?_
  refine lw_ld C (kn := 3) (by omega) hl hS dL_law_1084 dL_law_1085 dL_law_1086 (by decide) dL_law_1087 dL_law_1088 ?_
  refine lw_ld C (kn := 4) (by omega) hl hS dL_law_1089 dL_law_1090 dL_law_1091 (by decide) dL_law_1092 dL_law_1093 ?_
  refine lw_call C (k := 212) (tag := 14) (a := 248) (as := [(0, (lw_x xs i 1).toInt), (0, (lw_x xs i 2).toInt), (0, (lw_x xs i 3).toInt), (0, (lw_x xs i 4).toInt)]) (rv := .int (Int32.ofInt (F_X12_drill (lw_x xs i 1).toInt (lw_x xs i 2).toInt (lw_x xs i 3).toInt (lw_x xs i 4).toInt (H_X11_drill (lw_x xs i 1).toInt (lw_x xs i 2).toInt (lw_x xs i 3).toInt (lw_x xs i 4).toInt j)))) (rest := [Value.int (Int32.ofInt (F_X11_drill (lw_x xs i 1).toInt (lw_x xs i 2).toInt (lw_x xs i 3).toInt (lw_x xs i 4).toInt j))]) (by decide) hok hP hS (c_X12_drill (lw_x xs i 1).toInt (lw_x xs i 2).toInt (lw_x xs i 3).toInt (lw_x xs i 4).toInt (H_X11_drill (lw_x xs i 1).toInt (lw_x xs i 2).toInt (lw_x xs i 3).toInt (lw_x xs i 4).toInt j) (q2.2.1)) rfl rfl (by decide) (List.forall_mem_cons.mpr ⟨lw_ok248, List.forall_mem_cons.mpr ⟨lw_oki (lw_x xs i 1), List.forall_mem_cons.mpr ⟨lw_oki (lw_x xs i 2), List.forall_mem_cons.mpr ⟨lw_oki (lw_x xs i 3), List.forall_mem_cons.mpr ⟨lw_oki (lw_x xs i 4), fun _ h => absurd h List.not_mem_nil⟩⟩⟩⟩⟩) (pm_TB_in (j := 1673) (by decide +kernel) rfl) (by decide +kernel) hl.1 (Nat.le_of_ble_eq_true rfl) (by rw [show ([(0, (lw_x xs i 1).toInt), (0, (lw_x xs i 2).toInt), (0, (lw_x xs i 3).toInt), (0, (lw_x xs i 4).toInt)] : List pV).map (pm_emb (lw_ad s) sa) = [Value.int (lw_x xs i 1), Value.int (lw_x xs i 2), Value.int (lw_x xs i 3), Value.int (lw_x xs i 4)] from by simp only [List.map_cons, List.map_nil, lw_ei, lw_el]]; rfl) rfl hcs dL_law_1094 (fun H locs hok hP hS => ?_)
  exact lv_icmp_eq (tgt := 1344) hx hb dL_law_1097 (by decide) (fun _ => kk _ H locs ⟨hok, a2, ft2, hP, hS⟩) (fun c9 => absurd (congrArg Int32.ofInt hF) c9)
set_option maxHeartbeats 4000000 in
set_option maxRecDepth 100000 in
theorem law_c26 (C : lw_C p s m c b L xs D G sa sv) {i : Nat} (hi : i + 6 ≤ L) {ls : Array Slot} (hl : lv_has ls 4 (lw_L s b i)) {j : pH} {H : Heap} {locs : List Loc} (I : lw_I D G s j H locs) (hcs : cells ≤ 600000 ∧ slots ≤ 7302250) (kk : ∀ (j1 : pH) (H1 : Heap) (locs1 : List Loc), lw_I D G s j1 H1 locs1 → W p l e room_1 s m #[Value.ref b] below meth c H1 locs1 cells slots Q (F0 m 1344 ls [])) : W p l e room_1 s m #[Value.ref b] below meth c H locs cells slots Q (F0 m 1102 ls []) := by
  obtain ⟨hx, hb, hml, hown, hts, -, -, -, -, -, hL3⟩ := id C
  obtain ⟨hok, al, ft, hP, hS⟩ := I
  obtain ⟨a1, a2, ft2⟩ := joint (H := fun h => H_X11_worst (lw_x xs i 1).toInt h) (G := fun g => H_X12_worst (lw_x xs i 1).toInt g) al ft (fun h g al => (m_worst al (lw_x xs i 1).toInt).2.2.2)
  have a1 : AL j (H_X11_worst (lw_x xs i 1).toInt j) := a1
  have a2 : AL (H_X12_worst (lw_x xs i 1).toInt (H_X11_worst (lw_x xs i 1).toInt j)) (H_X12_worst (lw_x xs i 1).toInt (H_X11_worst (lw_x xs i 1).toInt j)) := a2
  have ft2 : FIT (H_X12_worst (lw_x xs i 1).toInt (H_X11_worst (lw_x xs i 1).toInt j)) := ft2
  have q1 := m_worst al (lw_x xs i 1).toInt
  have q2 := m_worst a1 (lw_x xs i 1).toInt
  have hF : (F_X11_worst (lw_x xs i 1).toInt j) = (F_X12_worst (lw_x xs i 1).toInt (H_X11_worst (lw_x xs i 1).toInt j)) := q2.2.2.1
  refine lv_aload_n hx hb dL_law_1102 rfl (lv_at hl 2 rfl) ?_
  refine lw_ld C (kn := 1) (by omega) hl hS dL_law_1103 dL_law_1104 dL_law_1105 (by decide) dL_law_1106 dL_law_1107 ?_
  refine lw_call C (k := 124) (tag := 13) (a := 0) (as := [(0, (lw_x xs i 1).toInt)]) (rv := .int (Int32.ofInt (F_X11_worst (lw_x xs i 1).toInt j))) (rest := []) (by decide) hok hP hS (c_X11_worst (lw_x xs i 1).toInt j (q1.1)) rfl rfl (by decide) (List.forall_mem_cons.mpr ⟨lw_ok0, List.forall_mem_cons.mpr ⟨lw_oki (lw_x xs i 1), fun _ h => absurd h List.not_mem_nil⟩⟩) (pm_TB_in (j := 1202) (by decide +kernel) rfl) (by decide +kernel) hl.1 (Nat.le_of_ble_eq_true rfl) (by rw [show ([(0, (lw_x xs i 1).toInt)] : List pV).map (pm_emb (lw_ad s) sa) = [Value.int (lw_x xs i 1)] from by simp only [List.map_cons, List.map_nil, lw_ei, lw_el]]; rfl) rfl hcs dL_law_1108 (fun H locs hok hP hS => ?_)
  refine lv_aload_n hx hb dL_law_1111 rfl (lv_at hl 3 rfl) ?_
  refine lw_ld C (kn := 1) (by omega) hl hS dL_law_1112 dL_law_1113 dL_law_1114 (by decide) dL_law_1115 dL_law_1116 ?_
  refine lw_call C (k := 213) (tag := 14) (a := 248) (as := [(0, (lw_x xs i 1).toInt)]) (rv := .int (Int32.ofInt (F_X12_worst (lw_x xs i 1).toInt (H_X11_worst (lw_x xs i 1).toInt j)))) (rest := [Value.int (Int32.ofInt (F_X11_worst (lw_x xs i 1).toInt j))]) (by decide) hok hP hS (c_X12_worst (lw_x xs i 1).toInt (H_X11_worst (lw_x xs i 1).toInt j) (q2.2.1)) rfl rfl (by decide) (List.forall_mem_cons.mpr ⟨lw_ok248, List.forall_mem_cons.mpr ⟨lw_oki (lw_x xs i 1), fun _ h => absurd h List.not_mem_nil⟩⟩) (pm_TB_in (j := 1677) (by decide +kernel) rfl) (by decide +kernel) hl.1 (Nat.le_of_ble_eq_true rfl) (by rw [show ([(0, (lw_x xs i 1).toInt)] : List pV).map (pm_emb (lw_ad s) sa) = [Value.int (lw_x xs i 1)] from by simp only [List.map_cons, List.map_nil, lw_ei, lw_el]]; rfl) rfl hcs dL_law_1117 (fun H locs hok hP hS => ?_)
  exact lv_icmp_eq (tgt := 1344) hx hb dL_law_1120 (by decide) (fun _ => kk _ H locs ⟨hok, a2, ft2, hP, hS⟩) (fun c9 => absurd (congrArg Int32.ofInt hF) c9)
set_option maxHeartbeats 4000000 in
set_option maxRecDepth 100000 in
theorem law_c27 (C : lw_C p s m c b L xs D G sa sv) {i : Nat} (hi : i + 6 ≤ L) {ls : Array Slot} (hl : lv_has ls 4 (lw_L s b i)) {j : pH} {H : Heap} {locs : List Loc} (I : lw_I D G s j H locs) (hcs : cells ≤ 600000 ∧ slots ≤ 7302250) (kk : ∀ (j1 : pH) (H1 : Heap) (locs1 : List Loc), lw_I D G s j1 H1 locs1 → W p l e room_1 s m #[Value.ref b] below meth c H1 locs1 cells slots Q (F0 m 1344 ls [])) : W p l e room_1 s m #[Value.ref b] below meth c H locs cells slots Q (F0 m 1125 ls []) := by
  obtain ⟨hx, hb, hml, hown, hts, -, -, -, -, -, hL3⟩ := id C
  obtain ⟨hok, al, ft, hP, hS⟩ := I
  have q1 := m_bill al (lw_x xs i 1).toInt
  have a2 := al
  have ft2 := ft
  have hF : (F_X11_bill (lw_x xs i 1).toInt j) = (F_X12_bill (lw_x xs i 1).toInt j) := q1.2.2.1
  refine lv_aload_n hx hb dL_law_1125 rfl (lv_at hl 2 rfl) ?_
  refine lw_ld C (kn := 1) (by omega) hl hS dL_law_1126 dL_law_1127 dL_law_1128 (by decide) dL_law_1129 dL_law_1130 ?_
  refine lw_call C (k := 126) (tag := 13) (a := 0) (as := [(0, (lw_x xs i 1).toInt)]) (rv := .int (Int32.ofInt (F_X11_bill (lw_x xs i 1).toInt j))) (rest := []) (by decide) hok hP hS (c_X11_bill (lw_x xs i 1).toInt j (q1.1)) rfl rfl (by decide) (List.forall_mem_cons.mpr ⟨lw_ok0, List.forall_mem_cons.mpr ⟨lw_oki (lw_x xs i 1), fun _ h => absurd h List.not_mem_nil⟩⟩) (pm_TB_in (j := 1210) (by decide +kernel) rfl) (by decide +kernel) hl.1 (Nat.le_of_ble_eq_true rfl) (by rw [show ([(0, (lw_x xs i 1).toInt)] : List pV).map (pm_emb (lw_ad s) sa) = [Value.int (lw_x xs i 1)] from by simp only [List.map_cons, List.map_nil, lw_ei, lw_el]]; rfl) rfl hcs dL_law_1131 (fun H locs hok hP hS => ?_)
  refine lv_aload_n hx hb dL_law_1134 rfl (lv_at hl 3 rfl) ?_
  refine lw_ld C (kn := 1) (by omega) hl hS dL_law_1135 dL_law_1136 dL_law_1137 (by decide) dL_law_1138 dL_law_1139 ?_
  refine lw_call C (k := 214) (tag := 14) (a := 248) (as := [(0, (lw_x xs i 1).toInt)]) (rv := .int (Int32.ofInt (F_X12_bill (lw_x xs i 1).toInt j))) (rest := [Value.int (Int32.ofInt (F_X11_bill (lw_x xs i 1).toInt j))]) (by decide) hok hP hS (c_X12_bill (lw_x xs i 1).toInt j (q1.2.1)) rfl rfl (by decide) (List.forall_mem_cons.mpr ⟨lw_ok248, List.forall_mem_cons.mpr ⟨lw_oki (lw_x xs i 1), fun _ h => absurd h List.not_mem_nil⟩⟩) (pm_TB_in (j := 1681) (by decide +kernel) rfl) (by decide +kernel) hl.1 (Nat.le_of_ble_eq_true rfl) (by rw [show ([(0, (lw_x xs i 1).toInt)] : List pV).map (pm_emb (lw_ad s) sa) = [Value.int (lw_x xs i 1)] from by simp only [List.map_cons, List.map_nil, lw_ei, lw_el]]; rfl) rfl hcs dL_law_1140 (fun H locs hok hP hS => ?_)
  exact lv_icmp_eq (tgt := 1344) hx hb dL_law_1143 (by decide) (fun _ => kk _ H locs ⟨hok, a2, ft2, hP, hS⟩) (fun c9 => absurd (congrArg Int32.ofInt hF) c9)
set_option maxHeartbeats 4000000 in
set_option maxRecDepth 100000 in
theorem law_c28 (C : lw_C p s m c b L xs D G sa sv) {i : Nat} (hi : i + 6 ≤ L) {ls : Array Slot} (hl : lv_has ls 4 (lw_L s b i)) {j : pH} {H : Heap} {locs : List Loc} (I : lw_I D G s j H locs) (hcs : cells ≤ 600000 ∧ slots ≤ 7302250) (kk : ∀ (j1 : pH) (H1 : Heap) (locs1 : List Loc), lw_I D G s j1 H1 locs1 → W p l e room_1 s m #[Value.ref b] below meth c H1 locs1 cells slots Q (F0 m 1344 ls [])) : W p l e room_1 s m #[Value.ref b] below meth c H locs cells slots Q (F0 m 1148 ls []) := by
  obtain ⟨hx, hb, hml, hown, hts, -, -, -, -, -, hL3⟩ := id C
  obtain ⟨hok, al, ft, hP, hS⟩ := I
  obtain ⟨a1, a2, ft2⟩ := joint (H := fun h => H_X11_begin h) (G := fun g => H_X12_begin g) al ft (fun h g al => (m_begin al).2.2)
  have a1 : AL j (H_X11_begin j) := a1
  have a2 : AL (H_X12_begin (H_X11_begin j)) (H_X12_begin (H_X11_begin j)) := a2
  have ft2 : FIT (H_X12_begin (H_X11_begin j)) := ft2
  have q1 := m_begin al
  have q2 := m_begin a1
  have hF : (F_X11_begin j) = (F_X12_begin (H_X11_begin j)) := q2.2.1
  refine lv_aload_n hx hb dL_law_1148 rfl (lv_at hl 2 rfl) ?_
  refine lw_call C (k := 127) (tag := 13) (a := 0) (as := []) (rv := .int (Int32.ofInt (F_X11_begin j))) (rest := []) (by decide) hok hP hS (c_X11_begin j) rfl rfl (by decide) (List.forall_mem_cons.mpr ⟨lw_ok0, fun _ h => absurd h List.not_mem_nil⟩) (pm_TB_in (j := 1219) (by decide +kernel) rfl) (by decide +kernel) hl.1 (Nat.le_of_ble_eq_true rfl) (by rw [show ([] : List pV).map (pm_emb (lw_ad s) sa) = [] from by simp only [List.map_cons, List.map_nil, lw_ei, lw_el]]; rfl) rfl hcs dL_law_1149 (fun H locs hok hP hS => ?_)
  refine lv_aload_n hx hb dL_law_1152 rfl (lv_at hl 3 rfl) ?_
  refine lw_call C (k := 215) (tag := 14) (a := 248) (as := []) (rv := .int (Int32.ofInt (F_X12_begin (H_X11_begin j)))) (rest := [Value.int (Int32.ofInt (F_X11_begin j))]) (by decide) hok hP hS (c_X12_begin (H_X11_begin j) (q2.1)) rfl rfl (by decide) (List.forall_mem_cons.mpr ⟨lw_ok248, fun _ h => absurd h List.not_mem_nil⟩) (pm_TB_in (j := 1686) (by decide +kernel) rfl) (by decide +kernel) hl.1 (Nat.le_of_ble_eq_true rfl) (by rw [show ([] : List pV).map (pm_emb (lw_ad s) sa) = [] from by simp only [List.map_cons, List.map_nil, lw_ei, lw_el]]; rfl) rfl hcs dL_law_1153 (fun H locs hok hP hS => ?_)
  exact lv_icmp_eq (tgt := 1344) hx hb dL_law_1156 (by decide) (fun _ => kk _ H locs ⟨hok, a2, ft2, hP, hS⟩) (fun c9 => absurd (congrArg Int32.ofInt hF) c9)
set_option maxHeartbeats 4000000 in
set_option maxRecDepth 100000 in
theorem law_c29 (C : lw_C p s m c b L xs D G sa sv) {i : Nat} (hi : i + 6 ≤ L) {ls : Array Slot} (hl : lv_has ls 4 (lw_L s b i)) {j : pH} {H : Heap} {locs : List Loc} (I : lw_I D G s j H locs) (hcs : cells ≤ 600000 ∧ slots ≤ 7302250) (kk : ∀ (j1 : pH) (H1 : Heap) (locs1 : List Loc), lw_I D G s j1 H1 locs1 → W p l e room_1 s m #[Value.ref b] below meth c H1 locs1 cells slots Q (F0 m 1344 ls [])) : W p l e room_1 s m #[Value.ref b] below meth c H locs cells slots Q (F0 m 1161 ls []) := by
  obtain ⟨hx, hb, hml, hown, hts, -, -, -, -, -, hL3⟩ := id C
  obtain ⟨hok, al, ft, hP, hS⟩ := I
  have q1 := m_record al (lw_x xs i 1).toInt
  have a2 := al
  have ft2 := ft
  have hF : (F_X11_record (lw_x xs i 1).toInt j) = (F_X12_record (lw_x xs i 1).toInt j) := q1.2.2
  refine lv_aload_n hx hb dL_law_1161 rfl (lv_at hl 2 rfl) ?_
  refine lw_ld C (kn := 1) (by omega) hl hS dL_law_1162 dL_law_1163 dL_law_1164 (by decide) dL_law_1165 dL_law_1166 ?_
  refine lw_call C (k := 128) (tag := 13) (a := 0) (as := [(0, (lw_x xs i 1).toInt)]) (rv := .long (Int64.ofInt (F_X11_record (lw_x xs i 1).toInt j))) (rest := []) (by decide) hok hP hS (c_X11_record (lw_x xs i 1).toInt j (q1.1)) rfl rfl (by decide) (List.forall_mem_cons.mpr ⟨lw_ok0, List.forall_mem_cons.mpr ⟨lw_oki (lw_x xs i 1), fun _ h => absurd h List.not_mem_nil⟩⟩) (pm_TB_in (j := 1228) (by decide +kernel) rfl) (by decide +kernel) hl.1 (Nat.le_of_ble_eq_true rfl) (by rw [show ([(0, (lw_x xs i 1).toInt)] : List pV).map (pm_emb (lw_ad s) sa) = [Value.int (lw_x xs i 1)] from by simp only [List.map_cons, List.map_nil, lw_ei, lw_el]]; rfl) rfl hcs dL_law_1167 (fun H locs hok hP hS => ?_)
  refine lv_aload_n hx hb dL_law_1170 rfl (lv_at hl 3 rfl) ?_
  refine lw_ld C (kn := 1) (by omega) hl hS dL_law_1171 dL_law_1172 dL_law_1173 (by decide) dL_law_1174 dL_law_1175 ?_
  refine lw_call C (k := 216) (tag := 14) (a := 248) (as := [(0, (lw_x xs i 1).toInt)]) (rv := .long (Int64.ofInt (F_X12_record (lw_x xs i 1).toInt j))) (rest := [Value.long (Int64.ofInt (F_X11_record (lw_x xs i 1).toInt j))]) (by decide) hok hP hS (c_X12_record (lw_x xs i 1).toInt j (q1.2.1)) rfl rfl (by decide) (List.forall_mem_cons.mpr ⟨lw_ok248, List.forall_mem_cons.mpr ⟨lw_oki (lw_x xs i 1), fun _ h => absurd h List.not_mem_nil⟩⟩) (pm_TB_in (j := 1690) (by decide +kernel) rfl) (by decide +kernel) hl.1 (Nat.le_of_ble_eq_true rfl) (by rw [show ([(0, (lw_x xs i 1).toInt)] : List pV).map (pm_emb (lw_ad s) sa) = [Value.int (lw_x xs i 1)] from by simp only [List.map_cons, List.map_nil, lw_ei, lw_el]]; rfl) rfl hcs dL_law_1176 (fun H locs hok hP hS => ?_)
  refine W.lcmp hx hb dL_law_1179 ?_
  exact lv_if_eq (tgt := 1344) hx hb dL_law_1180 (by decide) (fun _ => kk _ H locs ⟨hok, a2, ft2, hP, hS⟩) (fun c9 => absurd (lw_cmp hF) c9)
end LWK
