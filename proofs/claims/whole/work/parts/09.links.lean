theorem pm_FL_ok : pm_FL.all pm_FLc = true := by decide +kernel
theorem pm_ML_ok : pm_ML.all pm_MLc = true := by decide +kernel
theorem pm_CN_ok : pm_CN.all pm_CNc = true := by decide +kernel
theorem pm_fk_ok : (List.range 13).all pm_fkc = true := by decide +kernel
theorem pm_uw_0 : u_ws RX0 TX0 9 = ([142, 144, 146, 148, 150, 152, 154, 156, 158] : List Nat).filterMap (fun i => lw_tbl[i]?) := by decide +kernel
theorem pm_uw_1 : u_ws RX1 TX1 4 = ([484, 486, 488, 490] : List Nat).filterMap (fun i => lw_tbl[i]?) := by decide +kernel
theorem pm_uw_2 : u_ws RX2 TX2 3 = ([461, 463, 465] : List Nat).filterMap (fun i => lw_tbl[i]?) := by decide +kernel
theorem pm_uw_3 : u_ws RX3 TX3 3 = ([530, 532, 534] : List Nat).filterMap (fun i => lw_tbl[i]?) := by decide +kernel
theorem pm_uw_4 : u_ws RX4 TX4 9 = ([429, 431, 433, 435, 437, 439, 441, 443, 445] : List Nat).filterMap (fun i => lw_tbl[i]?) := by decide +kernel
theorem pm_uw_5 : u_ws RX5 TX5 6 = ([396, 398, 400, 402, 404, 406] : List Nat).filterMap (fun i => lw_tbl[i]?) := by decide +kernel
theorem pm_uw_6 : u_ws RX6 TX6 11 = ([191, 193, 195, 197, 199, 201, 203, 205, 207, 209, 211] : List Nat).filterMap (fun i => lw_tbl[i]?) := by decide +kernel
theorem pm_uw_7 : u_ws RX7 TX7 7 = ([506, 508, 510, 512, 514, 516, 518] : List Nat).filterMap (fun i => lw_tbl[i]?) := by decide +kernel
theorem pm_uw_8 : u_ws RX8 TX8 9 = ([245, 247, 249, 251, 253, 255, 257, 259, 261] : List Nat).filterMap (fun i => lw_tbl[i]?) := by decide +kernel
theorem pm_uw_9 : u_ws RX9 TX9 13 = ([350, 352, 354, 356, 358, 360, 362, 364, 366, 368, 370, 372, 374] : List Nat).filterMap (fun i => lw_tbl[i]?) := by decide +kernel
theorem pm_uw_10 : u_ws RX10 TX10 16 = ([295, 297, 299, 301, 303, 305, 307, 309, 311, 313, 315, 317, 319, 321, 323, 325] : List Nat).filterMap (fun i => lw_tbl[i]?) := by decide +kernel
theorem pm_uw_11 : u_ws RX11 TX11 8 = ([545, 547, 549, 551, 553, 555, 557, 559] : List Nat).filterMap (fun i => lw_tbl[i]?) := by decide +kernel
theorem pm_uw_12 : u_ws RX12 TX12 31 = ([1304, 1306, 1308, 1310, 1312, 1314, 1316, 1318, 1320, 1322, 1324, 1326, 1328, 1330, 1332, 1334, 1336, 1338, 1340, 1342, 1344, 1346, 1348, 1350, 1352, 1354, 1356, 1358, 1360, 1362, 1364] : List Nat).filterMap (fun i => lw_tbl[i]?) := by decide +kernel
theorem pm_in_of {ws : List Jvm.Cond} {ps : List Nat} (h : ws = ps.filterMap (fun i => lw_tbl[i]?)) : ∀ w ∈ ws, w ∈ lw_tbl := by
  intro w hw
  rw [h] at hw
  obtain ⟨i, -, hi⟩ := List.mem_filterMap.mp hw
  exact List.mem_of_getElem? hi
theorem pm_uw {ci : Nat} {r : vw_C} (h : vwCl[ci]? = some r) : (∀ w ∈ u_ws r.1 r.2.1 r.2.2, w ∈ lw_tbl) ∧ (∀ a, a < r.2.2 → ∀ b, b < r.2.2 → a ≠ b → (r.2.1 a).2.1 ≠ (r.2.1 b).2.1) ∧ ∃ ty : Nat → FieldType, ∀ k, k < r.2.2 → parseFieldDescriptor (r.2.1 k).2.2.1 = some (ty k) := by
  match ci, h with
  | 0, h => cases h; exact ⟨pm_in_of pm_uw_0, nmX0, tyX0, tyX0_ok⟩
  | 1, h => cases h; exact ⟨pm_in_of pm_uw_1, nmX1, tyX1, tyX1_ok⟩
  | 2, h => cases h; exact ⟨pm_in_of pm_uw_2, nmX2, tyX2, tyX2_ok⟩
  | 3, h => cases h; exact ⟨pm_in_of pm_uw_3, nmX3, tyX3, tyX3_ok⟩
  | 4, h => cases h; exact ⟨pm_in_of pm_uw_4, nmX4, tyX4, tyX4_ok⟩
  | 5, h => cases h; exact ⟨pm_in_of pm_uw_5, nmX5, tyX5, tyX5_ok⟩
  | 6, h => cases h; exact ⟨pm_in_of pm_uw_6, nmX6, tyX6, tyX6_ok⟩
  | 7, h => cases h; exact ⟨pm_in_of pm_uw_7, nmX7, tyX7, tyX7_ok⟩
  | 8, h => cases h; exact ⟨pm_in_of pm_uw_8, nmX8, tyX8, tyX8_ok⟩
  | 9, h => cases h; exact ⟨pm_in_of pm_uw_9, nmX9, tyX9, tyX9_ok⟩
  | 10, h => cases h; exact ⟨pm_in_of pm_uw_10, nmX10, tyX10, tyX10_ok⟩
  | 11, h => cases h; exact ⟨pm_in_of pm_uw_11, nmX11, tyX11, tyX11_ok⟩
  | 12, h => cases h; exact ⟨pm_in_of pm_uw_12, nmX12, tyX12, tyX12_ok⟩
  | ci + 13, h => simp [vwCl] at h
