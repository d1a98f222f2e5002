/-! The law's cases: one call of the class, the same of the model. -/
theorem dL_law_1185 : decode cL_law 1185 = .ok (.aload_n 1, 1) := by decide +kernel
theorem dL_law_1186 : decode cL_law 1186 = .ok (.aload_n 0, 1) := by decide +kernel
theorem dL_law_1187 : decode cL_law 1187 = .ok (.iload_n 3, 1) := by decide +kernel
theorem dL_law_1188 : decode cL_law 1188 = .ok (.iconst 1, 1) := by decide +kernel
theorem dL_law_1189 : decode cL_law 1189 = .ok (.iadd, 1) := by decide +kernel
theorem dL_law_1190 : decode cL_law 1190 = .ok (.iaload, 1) := by decide +kernel
theorem dL_law_1191 : decode cL_law 1191 = .ok (.aload_n 0, 1) := by decide +kernel
theorem dL_law_1192 : decode cL_law 1192 = .ok (.iload_n 3, 1) := by decide +kernel
theorem dL_law_1193 : decode cL_law 1193 = .ok (.iconst 2, 1) := by decide +kernel
theorem dL_law_1194 : decode cL_law 1194 = .ok (.iadd, 1) := by decide +kernel
theorem dL_law_1195 : decode cL_law 1195 = .ok (.iaload, 1) := by decide +kernel
theorem dL_law_1196 : decode cL_law 1196 = .ok (.i2l, 1) := by decide +kernel
theorem dL_law_1197 : decode cL_law 1197 = .ok (.bipush 32, 2) := by decide +kernel
theorem dL_law_1199 : decode cL_law 1199 = .ok (.lshl, 1) := by decide +kernel
theorem dL_law_1200 : decode cL_law 1200 = .ok (.aload_n 0, 1) := by decide +kernel
theorem dL_law_1201 : decode cL_law 1201 = .ok (.iload_n 3, 1) := by decide +kernel
theorem dL_law_1202 : decode cL_law 1202 = .ok (.iconst 3, 1) := by decide +kernel
theorem dL_law_1203 : decode cL_law 1203 = .ok (.iadd, 1) := by decide +kernel
theorem dL_law_1204 : decode cL_law 1204 = .ok (.iaload, 1) := by decide +kernel
theorem dL_law_1205 : decode cL_law 1205 = .ok (.i2l, 1) := by decide +kernel
theorem dL_law_1206 : decode cL_law 1206 = .ok (.ldc2_w 141, 3) := by decide +kernel
theorem dL_law_1209 : decode cL_law 1209 = .ok (.land, 1) := by decide +kernel
theorem dL_law_1210 : decode cL_law 1210 = .ok (.lor, 1) := by decide +kernel
theorem dL_law_1211 : decode cL_law 1211 = .ok (.invokevirtual 143, 3) := by decide +kernel
theorem dL_law_1214 : decode cL_law 1214 = .ok (.aload_n 2, 1) := by decide +kernel
theorem dL_law_1215 : decode cL_law 1215 = .ok (.aload_n 0, 1) := by decide +kernel
theorem dL_law_1216 : decode cL_law 1216 = .ok (.iload_n 3, 1) := by decide +kernel
theorem dL_law_1217 : decode cL_law 1217 = .ok (.iconst 1, 1) := by decide +kernel
theorem dL_law_1218 : decode cL_law 1218 = .ok (.iadd, 1) := by decide +kernel
theorem dL_law_1219 : decode cL_law 1219 = .ok (.iaload, 1) := by decide +kernel
theorem dL_law_1220 : decode cL_law 1220 = .ok (.aload_n 0, 1) := by decide +kernel
theorem dL_law_1221 : decode cL_law 1221 = .ok (.iload_n 3, 1) := by decide +kernel
theorem dL_law_1222 : decode cL_law 1222 = .ok (.iconst 2, 1) := by decide +kernel
theorem dL_law_1223 : decode cL_law 1223 = .ok (.iadd, 1) := by decide +kernel
theorem dL_law_1224 : decode cL_law 1224 = .ok (.iaload, 1) := by decide +kernel
theorem dL_law_1225 : decode cL_law 1225 = .ok (.i2l, 1) := by decide +kernel
theorem dL_law_1226 : decode cL_law 1226 = .ok (.bipush 32, 2) := by decide +kernel
theorem dL_law_1228 : decode cL_law 1228 = .ok (.lshl, 1) := by decide +kernel
theorem dL_law_1229 : decode cL_law 1229 = .ok (.aload_n 0, 1) := by decide +kernel
theorem dL_law_1230 : decode cL_law 1230 = .ok (.iload_n 3, 1) := by decide +kernel
theorem dL_law_1231 : decode cL_law 1231 = .ok (.iconst 3, 1) := by decide +kernel
theorem dL_law_1232 : decode cL_law 1232 = .ok (.iadd, 1) := by decide +kernel
theorem dL_law_1233 : decode cL_law 1233 = .ok (.iaload, 1) := by decide +kernel
theorem dL_law_1234 : decode cL_law 1234 = .ok (.i2l, 1) := by decide +kernel
theorem dL_law_1235 : decode cL_law 1235 = .ok (.ldc2_w 141, 3) := by decide +kernel
theorem dL_law_1238 : decode cL_law 1238 = .ok (.land, 1) := by decide +kernel
theorem dL_law_1239 : decode cL_law 1239 = .ok (.lor, 1) := by decide +kernel
theorem dL_law_1240 : decode cL_law 1240 = .ok (.invokevirtual 147, 3) := by decide +kernel
theorem dL_law_1243 : decode cL_law 1243 = .ok (.if_icmp .eq 101, 3) := by decide +kernel
theorem dL_law_1248 : decode cL_law 1248 = .ok (.aload_n 1, 1) := by decide +kernel
theorem dL_law_1249 : decode cL_law 1249 = .ok (.invokevirtual 148, 3) := by decide +kernel
theorem dL_law_1252 : decode cL_law 1252 = .ok (.aload_n 2, 1) := by decide +kernel
theorem dL_law_1253 : decode cL_law 1253 = .ok (.invokevirtual 151, 3) := by decide +kernel
theorem dL_law_1256 : decode cL_law 1256 = .ok (.if_icmp .eq 88, 3) := by decide +kernel
theorem dL_law_1261 : decode cL_law 1261 = .ok (.aload_n 1, 1) := by decide +kernel
theorem dL_law_1262 : decode cL_law 1262 = .ok (.aload_n 0, 1) := by decide +kernel
theorem dL_law_1263 : decode cL_law 1263 = .ok (.iload_n 3, 1) := by decide +kernel
theorem dL_law_1264 : decode cL_law 1264 = .ok (.iconst 1, 1) := by decide +kernel
theorem dL_law_1265 : decode cL_law 1265 = .ok (.iadd, 1) := by decide +kernel
theorem dL_law_1266 : decode cL_law 1266 = .ok (.iaload, 1) := by decide +kernel
theorem dL_law_1267 : decode cL_law 1267 = .ok (.invokevirtual 152, 3) := by decide +kernel
theorem dL_law_1270 : decode cL_law 1270 = .ok (.aload_n 2, 1) := by decide +kernel
theorem dL_law_1271 : decode cL_law 1271 = .ok (.aload_n 0, 1) := by decide +kernel
theorem dL_law_1272 : decode cL_law 1272 = .ok (.iload_n 3, 1) := by decide +kernel
theorem dL_law_1273 : decode cL_law 1273 = .ok (.iconst 1, 1) := by decide +kernel
theorem dL_law_1274 : decode cL_law 1274 = .ok (.iadd, 1) := by decide +kernel
theorem dL_law_1275 : decode cL_law 1275 = .ok (.iaload, 1) := by decide +kernel
theorem dL_law_1276 : decode cL_law 1276 = .ok (.invokevirtual 155, 3) := by decide +kernel
theorem dL_law_1279 : decode cL_law 1279 = .ok (.if_icmp .eq 65, 3) := by decide +kernel
theorem dL_law_1284 : decode cL_law 1284 = .ok (.aload_n 1, 1) := by decide +kernel
theorem dL_law_1285 : decode cL_law 1285 = .ok (.aload_n 0, 1) := by decide +kernel
theorem dL_law_1286 : decode cL_law 1286 = .ok (.iload_n 3, 1) := by decide +kernel
theorem dL_law_1287 : decode cL_law 1287 = .ok (.iconst 1, 1) := by decide +kernel
theorem dL_law_1288 : decode cL_law 1288 = .ok (.iadd, 1) := by decide +kernel
theorem dL_law_1289 : decode cL_law 1289 = .ok (.iaload, 1) := by decide +kernel
theorem dL_law_1290 : decode cL_law 1290 = .ok (.invokevirtual 156, 3) := by decide +kernel
theorem dL_law_1293 : decode cL_law 1293 = .ok (.aload_n 2, 1) := by decide +kernel
theorem dL_law_1294 : decode cL_law 1294 = .ok (.aload_n 0, 1) := by decide +kernel
theorem dL_law_1295 : decode cL_law 1295 = .ok (.iload_n 3, 1) := by decide +kernel
theorem dL_law_1296 : decode cL_law 1296 = .ok (.iconst 1, 1) := by decide +kernel
theorem dL_law_1297 : decode cL_law 1297 = .ok (.iadd, 1) := by decide +kernel
theorem dL_law_1298 : decode cL_law 1298 = .ok (.iaload, 1) := by decide +kernel
theorem dL_law_1299 : decode cL_law 1299 = .ok (.invokevirtual 159, 3) := by decide +kernel
theorem dL_law_1302 : decode cL_law 1302 = .ok (.if_icmp .eq 42, 3) := by decide +kernel
theorem dL_law_1307 : decode cL_law 1307 = .ok (.aload_n 1, 1) := by decide +kernel
theorem dL_law_1308 : decode cL_law 1308 = .ok (.aload_n 0, 1) := by decide +kernel
theorem dL_law_1309 : decode cL_law 1309 = .ok (.iload_n 3, 1) := by decide +kernel
theorem dL_law_1310 : decode cL_law 1310 = .ok (.iconst 1, 1) := by decide +kernel
theorem dL_law_1311 : decode cL_law 1311 = .ok (.iadd, 1) := by decide +kernel
theorem dL_law_1312 : decode cL_law 1312 = .ok (.iaload, 1) := by decide +kernel
theorem dL_law_1313 : decode cL_law 1313 = .ok (.invokevirtual 160, 3) := by decide +kernel
theorem dL_law_1316 : decode cL_law 1316 = .ok (.aload_n 2, 1) := by decide +kernel
theorem dL_law_1317 : decode cL_law 1317 = .ok (.aload_n 0, 1) := by decide +kernel
theorem dL_law_1318 : decode cL_law 1318 = .ok (.iload_n 3, 1) := by decide +kernel
theorem dL_law_1319 : decode cL_law 1319 = .ok (.iconst 1, 1) := by decide +kernel
theorem dL_law_1320 : decode cL_law 1320 = .ok (.iadd, 1) := by decide +kernel
theorem dL_law_1321 : decode cL_law 1321 = .ok (.iaload, 1) := by decide +kernel
theorem dL_law_1322 : decode cL_law 1322 = .ok (.invokevirtual 163, 3) := by decide +kernel
theorem dL_law_1325 : decode cL_law 1325 = .ok (.if_icmp .eq 19, 3) := by decide +kernel
theorem dL_law_1330 : decode cL_law 1330 = .ok (.aload_n 1, 1) := by decide +kernel
theorem dL_law_1331 : decode cL_law 1331 = .ok (.invokevirtual 164, 3) := by decide +kernel
theorem dL_law_1334 : decode cL_law 1334 = .ok (.aload_n 2, 1) := by decide +kernel
theorem dL_law_1335 : decode cL_law 1335 = .ok (.invokevirtual 168, 3) := by decide +kernel
theorem dL_law_1338 : decode cL_law 1338 = .ok (.lcmp, 1) := by decide +kernel
theorem dL_law_1339 : decode cL_law 1339 = .ok (.ifCond .eq 5, 3) := by decide +kernel
section LWK
variable {p : Program} {l : Launch} {e : Env} {s : State} {m : MethodId} {below : List Frame} {meth : Method} {c : Code} {cells slots : Nat} {Q : State → Prop} {D : va_G} {G : pm_G} {b L sa sv : Nat} {xs : Nat → Int32}
set_option maxHeartbeats 4000000 in
set_option maxRecDepth 100000 in
theorem law_c30 (C : lw_C p s m c b L xs D G sa sv) {i : Nat} (hi : i + 6 ≤ L) {ls : Array Slot} (hl : lv_has ls 4 (lw_L s b i)) {j : pH} {H : Heap} {locs : List Loc} (I : lw_I D G s j H locs) (hcs : cells ≤ 600000 ∧ slots ≤ 7302250) (kk : ∀ (j1 : pH) (H1 : Heap) (locs1 : List Loc), lw_I D G s j1 H1 locs1 → W p l e room_1 s m #[Value.ref b] below meth c H1 locs1 cells slots Q (F0 m 1344 ls [])) : W p l e room_1 s m #[Value.ref b] below meth c H locs cells slots Q (F0 m 1185 ls []) := by
  obtain ⟨hx, hb, hml, hown, hts, -, -, -, -, -, hL3⟩ := id C
  obtain ⟨hok, al, ft, hP, hS⟩ := I
  obtain ⟨a1, a2, ft2⟩ := joint (H := fun h => H_X11_forge (lw_x xs i 1).toInt (lw_fg xs i).toInt h) (G := fun g => H_X12_forge (lw_x xs i 1).toInt (lw_fg xs i).toInt g) al ft (fun h g al => (m_forge al (lw_x xs i 1).toInt (lw_fg xs i).toInt).2.2.2)
  have a1 : AL j (H_X11_forge (lw_x xs i 1).toInt (lw_fg xs i).toInt j) := a1
  have a2 : AL (H_X12_forge (lw_x xs i 1).toInt (lw_fg xs i).toInt (H_X11_forge (lw_x xs i 1).toInt (lw_fg xs i).toInt j)) (H_X12_forge (lw_x xs i 1).toInt (lw_fg xs i).toInt (H_X11_forge (lw_x xs i 1).toInt (lw_fg xs i).toInt j)) := a2
  have ft2 : FIT (H_X12_forge (lw_x xs i 1).toInt (lw_fg xs i).toInt (H_X11_forge (lw_x xs i 1).toInt (lw_fg xs i).toInt j)) := ft2
  have q1 := m_forge al (lw_x xs i 1).toInt (lw_fg xs i).toInt
  have q2 := m_forge a1 (lw_x xs i 1).toInt (lw_fg xs i).toInt
  have hF : (F_X11_forge (lw_x xs i 1).toInt (lw_fg xs i).toInt j) = (F_X12_forge (lw_x xs i 1).toInt (lw_fg xs i).toInt (H_X11_forge (lw_x xs i 1).toInt (lw_fg xs i).toInt j)) := q2.2.2.1
  refine lv_aload_n hx hb dL_law_1185 rfl (lv_at hl 2 rfl) ?_
  refine lw_ld C (kn := 1) (by omega) hl hS dL_law_1186 dL_law_1187 dL_law_1188 (by decide) dL_law_1189 dL_law_1190 ?_
  refine lw_ld C (kn := 2) (by omega) hl hS dL_law_1191 dL_law_1192 dL_law_1193 (by decide) dL_law_1194 dL_law_1195 ?_
  refine lv_i2l hx hb dL_law_1196 rfl ?_
  refine lv_bipush (v := Int32.ofInt 32) hx hb dL_law_1197 (by decide) ?_
  refine lv_lshl hx hb dL_law_1199 rfl ?_
  refine lw_ld C (kn := 3) (by omega) hl hS dL_law_1200 dL_law_1201 dL_law_1202 (by decide) dL_law_1203 dL_law_1204 ?_
  refine lv_i2l hx hb dL_law_1205 rfl ?_
  refine lv_ldc2 (own := R_law) (v := Int64.ofInt 4294967295) hx hb hown (hts _ (pm_TB_in (j := 1729) (by decide +kernel) rfl)) dL_law_1206 ?_
  refine lv_land hx hb dL_law_1209 ?_
  refine lv_lor hx hb dL_law_1210 ?_
  refine lw_call C (k := 129) (tag := 13) (a := 0) (as := [(0, (lw_x xs i 1).toInt), (1, (lw_fg xs i).toInt)]) (rv := .int (Int32.ofInt (F_X11_forge (lw_x xs i 1).toInt (lw_fg xs i).toInt j))) (rest := []) (by decide) hok hP hS (c_X11_forge (lw_x xs i 1).toInt (lw_fg xs i).toInt j (q1.1)) rfl rfl (by decide) (List.forall_mem_cons.mpr ⟨lw_ok0, List.forall_mem_cons.mpr ⟨lw_oki (lw_x xs i 1), List.forall_mem_cons.mpr ⟨lw_okl (lw_fg xs i), fun _ h => absurd h List.not_mem_nil⟩⟩⟩) (pm_TB_in (j := 1232) (by decide +kernel) rfl) (by decide +kernel) hl.1 (Nat.le_of_ble_eq_true rfl) (by rw [show ([(0, (lw_x xs i 1).toInt), (1, (lw_fg xs i).toInt)] : List pV).map (pm_emb (lw_ad s) sa) = [Value.int (lw_x xs i 1), Value.long (lw_fg xs i)] from by simp only [List.map_cons, List.map_nil, lw_ei, lw_el]]; rfl) rfl hcs dL_law_1211 (fun H locs hok hP hS => ?_)
  refine lv_aload_n hx hb dL_law_1214 rfl (lv_at hl 3 rfl) ?_
  refine lw_ld C (kn := 1) (by omega) hl hS dL_law_1215 dL_law_1216 dL_law_1217 (by decide) dL_law_1218 dL_law_1219 ?_
  refine lw_ld C (kn := 2) (by omega) hl hS dL_law_1220 dL_law_1221 dL_law_1222 (by decide) dL_law_1223 dL_law_1224 ?_
  refine lv_i2l hx hb dL_law_1225 rfl ?_
  refine lv_bipush (v := Int32.ofInt 32) hx hb dL_law_1226 (by decide) ?_
  refine lv_lshl hx hb dL_law_1228 rfl ?_
  refine lw_ld C (kn := 3) (by omega) hl hS dL_law_1229 dL_law_1230 dL_law_1231 (by decide) dL_law_1232 dL_law_1233 ?_
  refine lv_i2l hx hb dL_law_1234 rfl ?_
  refine lv_ldc2 (own := R_law) (v := Int64.ofInt 4294967295) hx hb hown (hts _ (pm_TB_in (j := 1729) (by decide +kernel) rfl)) dL_law_1235 ?_
  refine lv_land hx hb dL_law_1238 ?_
  refine lv_lor hx hb dL_law_1239 ?_
  refine lw_call C (k := 217) (tag := 14) (a := 248) (as := [(0, (lw_x xs i 1).toInt), (1, (lw_fg xs i).toInt)]) (rv := .int (Int32.ofInt (F_X12_forge (lw_x xs i 1).toInt (lw_fg xs i).toInt (H_X11_forge (lw_x xs i 1).toInt (lw_fg xs i).toInt j)))) (rest := [Value.int (Int32.ofInt (F_X11_forge (lw_x xs i 1).toInt (lw_fg xs i).toInt j))]) (by decide) hok hP hS (c_X12_forge (lw_x xs i 1).toInt (lw_fg xs i).toInt (H_X11_forge (lw_x xs i 1).toInt (lw_fg xs i).toInt j) (q2.2.1)) rfl rfl (by decide) (List.forall_mem_cons.mpr ⟨lw_ok248, List.forall_mem_cons.mpr ⟨lw_oki (lw_x xs i 1), List.forall_mem_cons.mpr ⟨lw_okl (lw_fg xs i), fun _ h => absurd h List.not_mem_nil⟩⟩⟩) (pm_TB_in (j := 1694) (by decide +kernel) rfl) (by decide +kernel) hl.1 (Nat.le_of_ble_eq_true rfl) (by rw [show ([(0, (lw_x xs i 1).toInt), (1, (lw_fg xs i).toInt)] : List pV).map (pm_emb (lw_ad s) sa) = [Value.int (lw_x xs i 1), Value.long (lw_fg xs i)] from by simp only [List.map_cons, List.map_nil, lw_ei, lw_el]]; rfl) rfl hcs dL_law_1240 (fun H locs hok hP hS => ?_)
  exact lv_icmp_eq (tgt := 1344) hx hb dL_law_1243 (by decide) (fun _ => kk _ H locs ⟨hok, a2, ft2, hP, hS⟩) (fun c9 => absurd (congrArg Int32.ofInt hF) c9)
set_option maxHeartbeats 4000000 in
set_option maxRecDepth 100000 in
theorem law_c31 (C : lw_C p s m c b L xs D G sa sv) {i : Nat} (hi : i + 6 ≤ L) {ls : Array Slot} (hl : lv_has ls 4 (lw_L s b i)) {j : pH} {H : Heap} {locs : List Loc} (I : lw_I D G s j H locs) (hcs : cells ≤ 600000 ∧ slots ≤ 7302250) (kk : ∀ (j1 : pH) (H1 : Heap) (locs1 : List Loc), lw_I D G s j1 H1 locs1 → W p l e room_1 s m #[Value.ref b] below meth c H1 locs1 cells slots Q (F0 m 1344 ls [])) : W p l e room_1 s m #[Value.ref b] below meth c H locs cells slots Q (F0 m 1248 ls []) := by
  obtain ⟨hx, hb, hml, hown, hts, -, -, -, -, -, hL3⟩ := id C
  obtain ⟨hok, al, ft, hP, hS⟩ := I
  obtain ⟨a1, a2, ft2⟩ := joint (H := fun h => H_X11_check h) (G := fun g => H_X12_check g) al ft (fun h g al => (m_check al).2.2.2)
  have a1 : AL j (H_X11_check j) := a1
  have a2 : AL (H_X12_check (H_X11_check j)) (H_X12_check (H_X11_check j)) := a2
  have ft2 : FIT (H_X12_check (H_X11_check j)) := ft2
  have q1 := m_check al
  have q2 := m_check a1
  have hF : (F_X11_check j) = (F_X12_check (H_X11_check j)) := q2.2.2.1
  refine lv_aload_n hx hb dL_law_1248 rfl (lv_at hl 2 rfl) ?_
  refine lw_call C (k := 130) (tag := 13) (a := 0) (as := []) (rv := .int (Int32.ofInt (F_X11_check j))) (rest := []) (by decide) hok hP hS (c_X11_check j (q1.1)) rfl rfl (by decide) (List.forall_mem_cons.mpr ⟨lw_ok0, fun _ h => absurd h List.not_mem_nil⟩) (pm_TB_in (j := 1236) (by decide +kernel) rfl) (by decide +kernel) hl.1 (Nat.le_of_ble_eq_true rfl) (by rw [show ([] : List pV).map (pm_emb (lw_ad s) sa) = [] from by simp only [List.map_cons, List.map_nil, lw_ei, lw_el]]; rfl) rfl hcs dL_law_1249 (fun H locs hok hP hS => ?_)
  refine lv_aload_n hx hb dL_law_1252 rfl (lv_at hl 3 rfl) ?_
  refine lw_call C (k := 218) (tag := 14) (a := 248) (as := []) (rv := .int (Int32.ofInt (F_X12_check (H_X11_check j)))) (rest := [Value.int (Int32.ofInt (F_X11_check j))]) (by decide) hok hP hS (c_X12_check (H_X11_check j) (q2.2.1)) rfl rfl (by decide) (List.forall_mem_cons.mpr ⟨lw_ok248, fun _ h => absurd h List.not_mem_nil⟩) (pm_TB_in (j := 1698) (by decide +kernel) rfl) (by decide +kernel) hl.1 (Nat.le_of_ble_eq_true rfl) (by rw [show ([] : List pV).map (pm_emb (lw_ad s) sa) = [] from by simp only [List.map_cons, List.map_nil, lw_ei, lw_el]]; rfl) rfl hcs dL_law_1253 (fun H locs hok hP hS => ?_)
  exact lv_icmp_eq (tgt := 1344) hx hb dL_law_1256 (by decide) (fun _ => kk _ H locs ⟨hok, a2, ft2, hP, hS⟩) (fun c9 => absurd (congrArg Int32.ofInt hF) c9)
set_option maxHeartbeats 4000000 in
set_option maxRecDepth 100000 in
theorem law_c32 (C : lw_C p s m c b L xs D G sa sv) {i : Nat} (hi : i + 6 ≤ L) {ls : Array Slot} (hl : lv_has ls 4 (lw_L s b i)) {j : pH} {H : Heap} {locs : List Loc} (I : lw_I D G s j H locs) (hcs : cells ≤ 600000 ∧ slots ≤ 7302250) (kk : ∀ (j1 : pH) (H1 : Heap) (locs1 : List Loc), lw_I D G s j1 H1 locs1 → W p l e room_1 s m #[Value.ref b] below meth c H1 locs1 cells slots Q (F0 m 1344 ls [])) : W p l e room_1 s m #[Value.ref b] below meth c H locs cells slots Q (F0 m 1261 ls []) := by
  obtain ⟨hx, hb, hml, hown, hts, -, -, -, -, -, hL3⟩ := id C
  obtain ⟨hok, al, ft, hP, hS⟩ := I
  obtain ⟨a1, a2, ft2⟩ := joint (H := fun h => H_X11_image (lw_x xs i 1).toInt h) (G := fun g => H_X12_image (lw_x xs i 1).toInt g) al ft (fun h g al => (m_image al (lw_x xs i 1).toInt).2.2.2)
  have a1 : AL j (H_X11_image (lw_x xs i 1).toInt j) := a1
  have a2 : AL (H_X12_image (lw_x xs i 1).toInt (H_X11_image (lw_x xs i 1).toInt j)) (H_X12_image (lw_x xs i 1).toInt (H_X11_image (lw_x xs i 1).toInt j)) := a2
  have ft2 : FIT (H_X12_image (lw_x xs i 1).toInt (H_X11_image (lw_x xs i 1).toInt j)) := ft2
  have q1 := m_image al (lw_x xs i 1).toInt
  have q2 := m_image a1 (lw_x xs i 1).toInt
  have hF : (F_X11_image (lw_x xs i 1).toInt j) = (F_X12_image (lw_x xs i 1).toInt (H_X11_image (lw_x xs i 1).toInt j)) := q2.2.2.1
  refine lv_aload_n hx hb dL_law_1261 rfl (lv_at hl 2 rfl) ?_
  refine lw_ld C (kn := 1) (by omega) hl hS dL_law_1262 dL_law_1263 dL_law_1264 (by decide) dL_law_1265 dL_law_1266 ?_
  refine lw_call C (k := 131) (tag := 13) (a := 0) (as := [(0, (lw_x xs i 1).toInt)]) (rv := .int (Int32.ofInt (F_X11_image (lw_x xs i 1).toInt j))) (rest := []) (by decide) hok hP hS (c_X11_image (lw_x xs i 1).toInt j (q1.1)) rfl rfl (by decide) (List.forall_mem_cons.mpr ⟨lw_ok0, List.forall_mem_cons.mpr ⟨lw_oki (lw_x xs i 1), fun _ h => absurd h List.not_mem_nil⟩⟩) (pm_TB_in (j := 1240) (by decide +kernel) rfl) (by decide +kernel) hl.1 (Nat.le_of_ble_eq_true rfl) (by rw [show ([(0, (lw_x xs i 1).toInt)] : List pV).map (pm_emb (lw_ad s) sa) = [Value.int (lw_x xs i 1)] from by simp only [List.map_cons, List.map_nil, lw_ei, lw_el]]; rfl) rfl hcs dL_law_1267 (fun H locs hok hP hS => ?_)
  refine lv_aload_n hx hb dL_law_1270 rfl (lv_at hl 3 rfl) ?_
  refine lw_ld C (kn := 1) (by omega) hl hS dL_law_1271 dL_law_1272 dL_law_1273 (by decide) dL_law_1274 dL_law_1275 ?_
  refine lw_call C (k := 219) (tag := 14) (a := 248) (as := [(0, (lw_x xs i 1).toInt)]) (rv := .int (Int32.ofInt (F_X12_image (lw_x xs i 1).toInt (H_X11_image (lw_x xs i 1).toInt j)))) (rest := [Value.int (Int32.ofInt (F_X11_image (lw_x xs i 1).toInt j))]) (by decide) hok hP hS (c_X12_image (lw_x xs i 1).toInt (H_X11_image (lw_x xs i 1).toInt j) (q2.2.1)) rfl rfl (by decide) (List.forall_mem_cons.mpr ⟨lw_ok248, List.forall_mem_cons.mpr ⟨lw_oki (lw_x xs i 1), fun _ h => absurd h List.not_mem_nil⟩⟩) (pm_TB_in (j := 1702) (by decide +kernel) rfl) (by decide +kernel) hl.1 (Nat.le_of_ble_eq_true rfl) (by rw [show ([(0, (lw_x xs i 1).toInt)] : List pV).map (pm_emb (lw_ad s) sa) = [Value.int (lw_x xs i 1)] from by simp only [List.map_cons, List.map_nil, lw_ei, lw_el]]; rfl) rfl hcs dL_law_1276 (fun H locs hok hP hS => ?_)
  exact lv_icmp_eq (tgt := 1344) hx hb dL_law_1279 (by decide) (fun _ => kk _ H locs ⟨hok, a2, ft2, hP, hS⟩) (fun c9 => absurd (congrArg Int32.ofInt hF) c9)
set_option maxHeartbeats 4000000 in
set_option maxRecDepth 100000 in
theorem law_c33 (C : lw_C p s m c b L xs D G sa sv) {i : Nat} (hi : i + 6 ≤ L) {ls : Array Slot} (hl : lv_has ls 4 (lw_L s b i)) {j : pH} {H : Heap} {locs : List Loc} (I : lw_I D G s j H locs) (hcs : cells ≤ 600000 ∧ slots ≤ 7302250) (kk : ∀ (j1 : pH) (H1 : Heap) (locs1 : List Loc), lw_I D G s j1 H1 locs1 → W p l e room_1 s m #[Value.ref b] below meth c H1 locs1 cells slots Q (F0 m 1344 ls [])) : W p l e room_1 s m #[Value.ref b] below meth c H locs cells slots Q (F0 m 1284 ls []) := by
  obtain ⟨hx, hb, hml, hown, hts, -, -, -, -, -, hL3⟩ := id C
  obtain ⟨hok, al, ft, hP, hS⟩ := I
  obtain ⟨a1, a2, ft2⟩ := joint (H := fun h => H_X11_from (lw_x xs i 1).toInt h) (G := fun g => H_X12_from (lw_x xs i 1).toInt g) al ft (fun h g al => (m_from al (lw_x xs i 1).toInt).2.2.2)
  have a1 : AL j (H_X11_from (lw_x xs i 1).toInt j) := a1
  have a2 : AL (H_X12_from (lw_x xs i 1).toInt (H_X11_from (lw_x xs i 1).toInt j)) (H_X12_from (lw_x xs i 1).toInt (H_X11_from (lw_x xs i 1).toInt j)) := a2
  have ft2 : FIT (H_X12_from (lw_x xs i 1).toInt (H_X11_from (lw_x xs i 1).toInt j)) := ft2
  have q1 := m_from al (lw_x xs i 1).toInt
  have q2 := m_from a1 (lw_x xs i 1).toInt
  have hF : (F_X11_from (lw_x xs i 1).toInt j) = (F_X12_from (lw_x xs i 1).toInt (H_X11_from (lw_x xs i 1).toInt j)) := q2.2.2.1
  refine lv_aload_n hx hb dL_law_1284 rfl (lv_at hl 2 rfl) ?_
  refine lw_ld C (kn := 1) (by omega) hl hS dL_law_1285 dL_law_1286 dL_law_1287 (by decide) dL_law_1288 dL_law_1289 ?_
  refine lw_call C (k := 132) (tag := 13) (a := 0) (as := [(0, (lw_x xs i 1).toInt)]) (rv := .int (Int32.ofInt (F_X11_from (lw_x xs i 1).toInt j))) (rest := []) (by decide) hok hP hS (c_X11_from (lw_x xs i 1).toInt j (q1.1)) rfl rfl (by decide) (List.forall_mem_cons.mpr ⟨lw_ok0, List.forall_mem_cons.mpr ⟨lw_oki (lw_x xs i 1), fun _ h => absurd h List.not_mem_nil⟩⟩) (pm_TB_in (j := 1244) (by decide +kernel) rfl) (by decide +kernel) hl.1 (Nat.le_of_ble_eq_true rfl) (by rw [show ([(0, (lw_x xs i 1).toInt)] : List pV).map (pm_emb (lw_ad s) sa) = [Value.int (lw_x xs i 1)] from by simp only [List.map_cons, List.map_nil, lw_ei, lw_el]]; rfl) rfl hcs dL_law_1290 (fun H locs hok hP hS => ?_)
  refine lv_aload_n hx hb dL_law_1293 rfl (lv_at hl 3 rfl) ?_
  refine lw_ld C (kn := 1) (by omega) hl hS dL_law_1294 dL_law_1295 dL_law_1296 (by decide) dL_law_1297 dL_law_1298 ?_
  refine lw_call C (k := 220) (tag := 14) (a := 248) (as := [(0, (lw_x xs i 1).toInt)]) (rv := .int (Int32.ofInt (F_X12_from (lw_x xs i 1).toInt (H_X11_from (lw_x xs i 1).toInt j)))) (rest := [Value.int (Int32.ofInt (F_X11_from (lw_x xs i 1).toInt j))]) (by decide) hok hP hS (c_X12_from (lw_x xs i 1).toInt (H_X11_from (lw_x xs i 1).toInt j) (q2.2.1)) rfl rfl (by decide) (List.forall_mem_cons.mpr ⟨lw_ok248, List.forall_mem_cons.mpr ⟨lw_oki (lw_x xs i 1), fun _ h => absurd h List.not_mem_nil⟩⟩) (pm_TB_in (j := 1706) (by decide +kernel) rfl) (by decide +kernel) hl.1 (Nat.le_of_ble_eq_true rfl) (by rw [show ([(0, (lw_x xs i 1).toInt)] : List pV).map (pm_emb (lw_ad s) sa) = [Value.int (lw_x xs i 1)] from by simp only [List.map_cons, List.map_nil, lw_ei, lw_el]]; rfl) rfl hcs dL_law_1299 (fun H locs hok hP hS => ?_)
  exact lv_icmp_eq (tgt := 1344) hx hb dL_law_1302 (by decide) (fun _ => kk _ H locs ⟨hok, a2, ft2, hP, hS⟩) (fun c9 => absurd (congrArg Int32.ofInt hF) c9)
set_option maxHeartbeats 4000000 in
set_option maxRecDepth 100000 in
theorem law_c34 (C : lw_C p s m c b L xs D G sa sv) {i : Nat} (hi : i + 6 ≤ L) {ls : Array Slot} (hl : lv_has ls 4 (lw_L s b i)) {j : pH} {H : Heap} {locs : List Loc} (I : lw_I D G s j H locs) (hcs : cells ≤ 600000 ∧ slots ≤ 7302250) (kk : ∀ (j1 : pH) (H1 : Heap) (locs1 : List Loc), lw_I D G s j1 H1 locs1 → W p l e room_1 s m #[Value.ref b] below meth c H1 locs1 cells slots Q (F0 m 1344 ls [])) : W p l e room_1 s m #[Value.ref b] below meth c H locs cells slots Q (F0 m 1307 ls []) := by
  obtain ⟨hx, hb, hml, hown, hts, -, -, -, -, -, hL3⟩ := id C
  obtain ⟨hok, al, ft, hP, hS⟩ := I
  have q1 := m_count al (lw_x xs i 1).toInt
  have a2 := al
  have ft2 := ft
  have hF : (F_X11_count (lw_x xs i 1).toInt j) = (F_X12_count (lw_x xs i 1).toInt j) := q1.2.2
  refine lv_aload_n hx hb dL_law_1307 rfl (lv_at hl 2 rfl) ?_
  refine lw_ld C (kn := 1) (by omega) hl hS dL_law_1308 dL_law_1309 dL_law_1310 (by decide) dL_law_1311 dL_law_1312 ?_
  refine lw_call C (k := 133) (tag := 13) (a := 0) (as := [(0, (lw_x xs i 1).toInt)]) (rv := .int (Int32.ofInt (F_X11_count (lw_x xs i 1).toInt j))) (rest := []) (by decide) hok hP hS (c_X11_count (lw_x xs i 1).toInt j (q1.1)) rfl rfl (by decide) (List.forall_mem_cons.mpr ⟨lw_ok0, List.forall_mem_cons.mpr ⟨lw_oki (lw_x xs i 1), fun _ h => absurd h List.not_mem_nil⟩⟩) (pm_TB_in (j := 1248) (by decide +kernel) rfl) (by decide +kernel) hl.1 (Nat.le_of_ble_eq_true rfl) (by rw [show ([(0, (lw_x xs i 1).toInt)] : List pV).map (pm_emb (lw_ad s) sa) = [Value.int (lw_x xs i 1)] from by simp only [List.map_cons, List.map_nil, lw_ei, lw_el]]; rfl) rfl hcs dL_law_1313 (fun H locs hok hP hS => ?_)
  refine lv_aload_n hx hb dL_law_1316 rfl (lv_at hl 3 rfl) ?_
  refine lw_ld C (kn := 1) (by omega) hl hS dL_law_1317 dL_law_1318 dL_law_1319 (by decide) dL_law_1320 dL_law_1321 ?_
  refine lw_call C (k := 222) (tag := 14) (a := 248) (as := [(0, (lw_x xs i 1).toInt)]) (rv := .int (Int32.ofInt (F_X12_count (lw_x xs i 1).toInt j))) (rest := [Value.int (Int32.ofInt (F_X11_count (lw_x xs i 1).toInt j))]) (by decide) hok hP hS (c_X12_count (lw_x xs i 1).toInt j (q1.2.1)) rfl rfl (by decide) (List.forall_mem_cons.mpr ⟨lw_ok248, List.forall_mem_cons.mpr ⟨lw_oki (lw_x xs i 1), fun _ h => absurd h List.not_mem_nil⟩⟩) (pm_TB_in (j := 1710) (by decide +kernel) rfl) (by decide +kernel) hl.1 (Nat.le_of_ble_eq_true rfl) (by rw [show ([(0, (lw_x xs i 1).toInt)] : List pV).map (pm_emb (lw_ad s) sa) = [Value.int (lw_x xs i 1)] from by simp only [List.map_cons, List.map_nil, lw_ei, lw_el]]; rfl) rfl hcs dL_law_1322 (fun H locs hok hP hS => ?_)
  exact lv_icmp_eq (tgt := 1344) hx hb dL_law_1325 (by decide) (fun _ => kk _ H locs ⟨hok, a2, ft2, hP, hS⟩) (fun c9 => absurd (congrArg Int32.ofInt hF) c9)
set_option maxHeartbeats 4000000 in
set_option maxRecDepth 100000 in
theorem law_c35 (C : lw_C p s m c b L xs D G sa sv) {i : Nat} (hi : i + 6 ≤ L) {ls : Array Slot} (hl : lv_has ls 4 (lw_L s b i)) {j : pH} {H : Heap} {locs : List Loc} (I : lw_I D G s j H locs) (hcs : cells ≤ 600000 ∧ slots ≤ 7302250) (kk : ∀ (j1 : pH) (H1 : Heap) (locs1 : List Loc), lw_I D G s j1 H1 locs1 → W p l e room_1 s m #[Value.ref b] below meth c H1 locs1 cells slots Q (F0 m 1344 ls [])) : W p l e room_1 s m #[Value.ref b] below meth c H locs cells slots Q (F0 m 1330 ls []) := by
  obtain ⟨hx, hb, hml, hown, hts, -, -, -, -, -, hL3⟩ := id C
  obtain ⟨hok, al, ft, hP, hS⟩ := I
  have q1 := m_digest al
  have a2 := al
  have ft2 := ft
  have hF : (F_X11_digest j) = (F_X12_digest j) := q1.2.2
  refine lv_aload_n hx hb dL_law_1330 rfl (lv_at hl 2 rfl) ?_
  refine lw_call C (k := 134) (tag := 13) (a := 0) (as := []) (rv := .long (Int64.ofInt (F_X11_digest j))) (rest := []) (by decide) hok hP hS (c_X11_digest j (q1.1)) rfl rfl (by decide) (List.forall_mem_cons.mpr ⟨lw_ok0, fun _ h => absurd h List.not_mem_nil⟩) (pm_TB_in (j := 1252) (by decide +kernel) rfl) (by decide +kernel) hl.1 (Nat.le_of_ble_eq_true rfl) (by rw [show ([] : List pV).map (pm_emb (lw_ad s) sa) = [] from by simp only [List.map_cons, List.map_nil, lw_ei, lw_el]]; rfl) rfl hcs dL_law_1331 (fun H locs hok hP hS => ?_)
  refine lv_aload_n hx hb dL_law_1334 rfl (lv_at hl 3 rfl) ?_
  refine lw_call C (k := 223) (tag := 14) (a := 248) (as := []) (rv := .long (Int64.ofInt (F_X12_digest j))) (rest := [Value.long (Int64.ofInt (F_X11_digest j))]) (by decide) hok hP hS (c_X12_digest j (q1.2.1)) rfl rfl (by decide) (List.forall_mem_cons.mpr ⟨lw_ok248, fun _ h => absurd h List.not_mem_nil⟩) (pm_TB_in (j := 1718) (by decide +kernel) rfl) (by decide +kernel) hl.1 (Nat.le_of_ble_eq_true rfl) (by rw [show ([] : List pV).map (pm_emb (lw_ad s) sa) = [] from by simp only [List.map_cons, List.map_nil, lw_ei, lw_el]]; rfl) rfl hcs dL_law_1335 (fun H locs hok hP hS => ?_)
  refine W.lcmp hx hb dL_law_1338 ?_
  exact lv_if_eq (tgt := 1344) hx hb dL_law_1339 (by decide) (fun _ => kk _ H locs ⟨hok, a2, ft2, hP, hS⟩) (fun c9 => absurd (lw_cmp hF) c9)
end LWK
