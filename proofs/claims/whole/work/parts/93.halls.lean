/-! Constructors, by their instructions. -/
theorem dX4_init_0 : decode cX4_init 0 = .ok (.aload_n 0, 1) := by decide +kernel
theorem dX4_init_1 : decode cX4_init 1 = .ok (.invokespecial 3, 3) := by decide +kernel
theorem dX4_init_4 : decode cX4_init 4 = .ok (.aload_n 0, 1) := by decide +kernel
theorem dX4_init_5 : decode cX4_init 5 = .ok (.new 9, 3) := by decide +kernel
theorem dX4_init_8 : decode cX4_init 8 = .ok (.dup, 1) := by decide +kernel
theorem dX4_init_9 : decode cX4_init 9 = .ok (.invokespecial 11, 3) := by decide +kernel
theorem dX4_init_12 : decode cX4_init 12 = .ok (.putfield 12, 3) := by decide +kernel
theorem dX4_init_15 : decode cX4_init 15 = .ok (.aload_n 0, 1) := by decide +kernel
theorem dX4_init_16 : decode cX4_init 16 = .ok (.new 18, 3) := by decide +kernel
theorem dX4_init_19 : decode cX4_init 19 = .ok (.dup, 1) := by decide +kernel
theorem dX4_init_20 : decode cX4_init 20 = .ok (.invokespecial 20, 3) := by decide +kernel
theorem dX4_init_23 : decode cX4_init 23 = .ok (.putfield 21, 3) := by decide +kernel
theorem dX4_init_26 : decode cX4_init 26 = .ok (.aload_n 0, 1) := by decide +kernel
theorem dX4_init_27 : decode cX4_init 27 = .ok (.new 25, 3) := by decide +kernel
theorem dX4_init_30 : decode cX4_init 30 = .ok (.dup, 1) := by decide +kernel
theorem dX4_init_31 : decode cX4_init 31 = .ok (.invokespecial 27, 3) := by decide +kernel
theorem dX4_init_34 : decode cX4_init 34 = .ok (.putfield 28, 3) := by decide +kernel
theorem dX4_init_37 : decode cX4_init 37 = .ok (.aload_n 0, 1) := by decide +kernel
theorem dX4_init_38 : decode cX4_init 38 = .ok (.new 32, 3) := by decide +kernel
theorem dX4_init_41 : decode cX4_init 41 = .ok (.dup, 1) := by decide +kernel
theorem dX4_init_42 : decode cX4_init 42 = .ok (.invokespecial 34, 3) := by decide +kernel
theorem dX4_init_45 : decode cX4_init 45 = .ok (.putfield 35, 3) := by decide +kernel
theorem dX4_init_48 : decode cX4_init 48 = .ok (.aload_n 0, 1) := by decide +kernel
theorem dX4_init_49 : decode cX4_init 49 = .ok (.new 39, 3) := by decide +kernel
theorem dX4_init_52 : decode cX4_init 52 = .ok (.dup, 1) := by decide +kernel
theorem dX4_init_53 : decode cX4_init 53 = .ok (.invokespecial 41, 3) := by decide +kernel
theorem dX4_init_56 : decode cX4_init 56 = .ok (.putfield 42, 3) := by decide +kernel
theorem dX4_init_59 : decode cX4_init 59 = .ok (.aload_n 0, 1) := by decide +kernel
theorem dX4_init_60 : decode cX4_init 60 = .ok (.new 46, 3) := by decide +kernel
theorem dX4_init_63 : decode cX4_init 63 = .ok (.dup, 1) := by decide +kernel
theorem dX4_init_64 : decode cX4_init 64 = .ok (.invokespecial 48, 3) := by decide +kernel
theorem dX4_init_67 : decode cX4_init 67 = .ok (.putfield 49, 3) := by decide +kernel
theorem dX4_init_70 : decode cX4_init 70 = .ok (.aload_n 0, 1) := by decide +kernel
theorem dX4_init_71 : decode cX4_init 71 = .ok (.bipush 6, 2) := by decide +kernel
theorem dX4_init_73 : decode cX4_init 73 = .ok (.newarray .long, 2) := by decide +kernel
theorem dX4_init_75 : decode cX4_init 75 = .ok (.putfield 53, 3) := by decide +kernel
theorem dX4_init_78 : decode cX4_init 78 = .ok (.return_, 1) := by decide +kernel
theorem cd_X4 : ∀ j, j < 9 → defaultValue (tyX4 j) = vp_V [.null, .null, .null, .null, .null, .null, .null, .int (Int32.ofInt 0), .int (Int32.ofInt 0)] j := by
  intro j hj
  match j, hj with
  | 0, _ => rfl
  | 1, _ => rfl
  | 2, _ => rfl
  | 3, _ => rfl
  | 4, _ => rfl
  | 5, _ => rfl
  | 6, _ => rfl
  | 7, _ => rfl
  | 8, _ => rfl
  | k + 9, h => exact absurd h (by omega)
set_option maxHeartbeats 4000000 in
set_option maxRecDepth 100000 in
theorem ct_X4 (l : Launch) (D : va_G) (G : pm_G) (a : Nat) : Met l yX4_init (Jvm.Cond.code yX4_init cX4_init 1 none :: pm_TB) ({ frames := 2, cells := 45, slots := 782, locals := 66 }) (cs_Pc D G 4 [.null, .null, .null, .null, .null, .null, .null, .int (Int32.ofInt 0), .int (Int32.ofInt 0)] a) (cs_Qc D 46 (cs_B 1 G a) a) (46 - 1) 782 (cs_A a) := by
  refine Met.ofW (cc := cX4_init) (maxL := 1) (ret := none) (by decide) rfl ?_
  intro p e s m args below meth c s₁ B hml hv
  obtain ⟨rfl, hz, h0, hK, hNW⟩ := hv
  have hx := B.exec
  have hb := B.bytes
  have hr := B.returns
  have hts : ∀ w ∈ pm_TB, w.before #[Value.ref a] s = true := fun w hw => atoms_spec (ws := Jvm.Cond.code yX4_init cX4_init 1 none :: pm_TB) B.pre w (List.mem_cons_of_mem _ hw)
  have hown : s.vm.findClass RX4 = some m.cls := findClass_of_methodNamed B.named
  have hlocks := B.notSynchronized
  have hin : meth.name = "<init>" := (name_of_methodNamed B.named B.method).1
  have hP : cs_P D a 1 (fun _ => .inr (4, [.null, .null, .null, .null, .null, .null, .null, .int (Int32.ofInt 0), .int (Int32.ofInt 0)])) s.heap := ⟨hz, fun i hi => by rw [show i = 0 by omega]; exact h0⟩
  have hS : va_S (cs_A a) s.heap s.heap [] := va_S.rf
  have hl := lv_entry ([.ref a]) (n := 1) (Nat.le_of_ble_eq_true rfl)
  rw [lg_entry_eq]
  generalize (lg_sl ([.ref a]) ++ List.replicate (1 - (lg_sl ([.ref a])).length) Slot.unset).toArray = ls at hl ⊢
  have hl : lv_has ls 1 [(0, .ref (a + 0))] := hl
  refine lv_aload_n hx hb dX4_init_0 rfl (lv_at hl 0 rfl) ?_
  refine W.objInit hx hb hown (hts _ (pm_TB_in (j := 112) (by decide +kernel) rfl)) (hts _ (pm_TB_in (j := 105) (by decide +kernel) rfl)) (hts _ (pm_TB_in (j := 106) (by decide +kernel) rfl)) rfl (by rw [hml]; exact hl.1) rfl dX4_init_1 (Nat.le_of_ble_eq_true rfl) (Nat.le_of_ble_eq_true rfl) ?_
  refine W.eq (g2 := F0 m 4 ls []) rfl ?_
  refine lv_aload_n hx hb dX4_init_4 rfl (lv_at hl 0 rfl) ?_
  refine cs_new (ci := 0) (fs := [.null, .null, .null, .null, .null, .int (Int32.ofInt 0), .int (Int32.ofInt 0), .int (Int32.ofInt 0), .int (Int32.ofInt 0)]) hx hb hts (pm_uwB (ci := 0) (r := (RX0, TX0, 9)) rfl) tyX0 tyX0_ok hown (hts _ (pm_TB_in (j := 113) (by decide +kernel) rfl)) (hts _ (pm_TB_in (j := 114) (by decide +kernel) rfl)) (hts _ (pm_TB_in (j := 79) (by decide +kernel) rfl)) hK hP hS rfl cd_X0 (Nat.le_of_ble_eq_true rfl) (Nat.le_of_ble_eq_true rfl) dX4_init_5 (fun H hP hS => ?_)
  refine lv_dup hx hb dX4_init_8 rfl ?_
  refine cs_call (n := 1) ⟨hx, hb, hml, hown, hts⟩ hNW hK hP hS (fs := [.null, .null, .null, .null, .null, .int (Int32.ofInt 0), .int (Int32.ofInt 0), .int (Int32.ofInt 0), .int (Int32.ofInt 0)]) rfl (ct_X0 l D G (a + 1)) (pm_TB_in (j := 117) (by decide +kernel) rfl) (pm_TB_in (j := 79) (by decide +kernel) rfl) (Or.inl (pm_TB_in (j := 115) (by decide +kernel) rfl)) (pm_TB_in (j := 116) (by decide +kernel) rfl) rfl (by decide +kernel) ⟨(Nat.le_of_ble_eq_true rfl), (Nat.le_of_ble_eq_true rfl)⟩ rfl rfl hl.1 (Nat.le_of_ble_eq_true rfl) dX4_init_9 ⟨(Nat.le_of_ble_eq_true rfl), (Nat.le_of_ble_eq_true rfl)⟩ (fun H locs hP hS => ?_)
  refine cs_putF (D := D) (ci := 4) (fs := [.null, .null, .null, .null, .null, .null, .null, .int (Int32.ofInt 0), .int (Int32.ofInt 0)]) (v := .ref (a + 1)) hx hb hts (pm_uwB (ci := 4) (r := (RX4, TX4, 9)) rfl) tyX4 tyX4_ok nmX4 hown hK hP hS 0 (Nat.le_of_ble_eq_true rfl) rfl rfl 0 (by decide) (hts _ (pm_TB_in (j := 409) (by decide +kernel) rfl)) (fun _ h9 => h9) rfl hin rfl (ty := tyX4 0) (tyX4_ok 0 (by decide)) rfl rfl (Nat.le_of_ble_eq_true rfl) dX4_init_12 (fun H locs hP hS => ?_)
  refine lv_aload_n hx hb dX4_init_15 rfl (lv_at hl 0 rfl) ?_
  refine cs_new (ci := 6) (fs := [.null, .null, .null, .null, .null, .null, .null, .null, .null, .null, .int (Int32.ofInt 0)]) hx hb hts (pm_uwB (ci := 6) (r := (RX6, TX6, 11)) rfl) tyX6 tyX6_ok hown (hts _ (pm_TB_in (j := 162) (by decide +kernel) rfl)) (hts _ (pm_TB_in (j := 163) (by decide +kernel) rfl)) (hts _ (pm_TB_in (j := 81) (by decide +kernel) rfl)) hK hP hS rfl cd_X6 (Nat.le_of_ble_eq_true rfl) (Nat.le_of_ble_eq_true rfl) dX4_init_16 (fun H hP hS => ?_)
  refine lv_dup hx hb dX4_init_19 rfl ?_
  refine cs_call (n := 7) ⟨hx, hb, hml, hown, hts⟩ hNW hK hP hS (fs := [.null, .null, .null, .null, .null, .null, .null, .null, .null, .null, .int (Int32.ofInt 0)]) rfl (ct_X6 l D G (a + 7)) (pm_TB_in (j := 166) (by decide +kernel) rfl) (pm_TB_in (j := 81) (by decide +kernel) rfl) (Or.inr (List.mem_of_getElem? (i := 164) (by decide +kernel))) (pm_TB_in (j := 165) (by decide +kernel) rfl) rfl (by decide +kernel) ⟨(Nat.le_of_ble_eq_true rfl), (Nat.le_of_ble_eq_true rfl)⟩ rfl rfl hl.1 (Nat.le_of_ble_eq_true rfl) dX4_init_20 ⟨(Nat.le_of_ble_eq_true rfl), (Nat.le_of_ble_eq_true rfl)⟩ (fun H locs hP hS => ?_)
  refine cs_putF (D := D) (ci := 4) (fs := [.ref (a + 1), .null, .null, .null, .null, .null, .null, .int (Int32.ofInt 0), .int (Int32.ofInt 0)]) (v := .ref (a + 7)) hx hb hts (pm_uwB (ci := 4) (r := (RX4, TX4, 9)) rfl) tyX4 tyX4_ok nmX4 hown hK hP hS 0 (Nat.le_of_ble_eq_true rfl) rfl rfl 1 (by decide) (hts _ (pm_TB_in (j := 412) (by decide +kernel) rfl)) (fun _ h9 => h9) rfl hin rfl (ty := tyX4 1) (tyX4_ok 1 (by decide)) rfl rfl (Nat.le_of_ble_eq_true rfl) dX4_init_23 (fun H locs hP hS => ?_)
  refine lv_aload_n hx hb dX4_init_26 rfl (lv_at hl 0 rfl) ?_
  refine cs_new (ci := 8) (fs := [.null, .null, .int (Int32.ofInt 0), .int (Int32.ofInt 0), .int (Int32.ofInt 0), .int (Int32.ofInt 0), .int (Int32.ofInt 0), .int (Int32.ofInt 0), .long (Int64.ofInt 0)]) hx hb hts (pm_uwB (ci := 8) (r := (RX8, TX8, 9)) rfl) tyX8 tyX8_ok hown (hts _ (pm_TB_in (j := 214) (by decide +kernel) rfl)) (hts _ (pm_TB_in (j := 215) (by decide +kernel) rfl)) (hts _ (pm_TB_in (j := 82) (by decide +kernel) rfl)) hK hP hS rfl cd_X8 (Nat.le_of_ble_eq_true rfl) (Nat.le_of_ble_eq_true rfl) dX4_init_27 (fun H hP hS => ?_)
  refine lv_dup hx hb dX4_init_30 rfl ?_
  refine cs_call (n := 18) ⟨hx, hb, hml, hown, hts⟩ hNW hK hP hS (fs := [.null, .null, .int (Int32.ofInt 0), .int (Int32.ofInt 0), .int (Int32.ofInt 0), .int (Int32.ofInt 0), .int (Int32.ofInt 0), .int (Int32.ofInt 0), .long (Int64.ofInt 0)]) rfl (ct_X8 l D G (a + 18)) (pm_TB_in (j := 218) (by decide +kernel) rfl) (pm_TB_in (j := 82) (by decide +kernel) rfl) (Or.inl (pm_TB_in (j := 216) (by decide +kernel) rfl)) (pm_TB_in (j := 217) (by decide +kernel) rfl) rfl (by decide +kernel) ⟨(Nat.le_of_ble_eq_true rfl), (Nat.le_of_ble_eq_true rfl)⟩ rfl rfl hl.1 (Nat.le_of_ble_eq_true rfl) dX4_init_31 ⟨(Nat.le_of_ble_eq_true rfl), (Nat.le_of_ble_eq_true rfl)⟩ (fun H locs hP hS => ?_)
  refine cs_putF (D := D) (ci := 4) (fs := [.ref (a + 1), .ref (a + 7), .null, .null, .null, .null, .null, .int (Int32.ofInt 0), .int (Int32.ofInt 0)]) (v := .ref (a + 18)) hx hb hts (pm_uwB (ci := 4) (r := (RX4, TX4, 9)) rfl) tyX4 tyX4_ok nmX4 hown hK hP hS 0 (Nat.le_of_ble_eq_true rfl) rfl rfl 2 (by decide) (hts _ (pm_TB_in (j := 415) (by decide +kernel) rfl)) (fun _ h9 => h9) rfl hin rfl (ty := tyX4 2) (tyX4_ok 2 (by decide)) rfl rfl (Nat.le_of_ble_eq_true rfl) dX4_init_34 (fun H locs hP hS => ?_)
  refine lv_aload_n hx hb dX4_init_37 rfl (lv_at hl 0 rfl) ?_
  refine cs_new (ci := 10) (fs := [.null, .null, .null, .null, .null, .null, .null, .null, .null, .null, .null, .null, .null, .null, .null, .int (Int32.ofInt 0)]) hx hb hts (pm_uwB (ci := 10) (r := (RX10, TX10, 16)) rfl) tyX10 tyX10_ok hown (hts _ (pm_TB_in (j := 264) (by decide +kernel) rfl)) (hts _ (pm_TB_in (j := 265) (by decide +kernel) rfl)) (hts _ (pm_TB_in (j := 83) (by decide +kernel) rfl)) hK hP hS rfl cd_X10 (Nat.le_of_ble_eq_true rfl) (Nat.le_of_ble_eq_true rfl) dX4_init_38 (fun H hP hS => ?_)
  refine lv_dup hx hb dX4_init_41 rfl ?_
  refine cs_call (n := 21) ⟨hx, hb, hml, hown, hts⟩ hNW hK hP hS (fs := [.null, .null, .null, .null, .null, .null, .null, .null, .null, .null, .null, .null, .null, .null, .null, .int (Int32.ofInt 0)]) rfl (ct_X10 l D G (a + 21)) (pm_TB_in (j := 268) (by decide +kernel) rfl) (pm_TB_in (j := 83) (by decide +kernel) rfl) (Or.inr (List.mem_of_getElem? (i := 266) (by decide +kernel))) (pm_TB_in (j := 267) (by decide +kernel) rfl) rfl (by decide +kernel) ⟨(Nat.le_of_ble_eq_true rfl), (Nat.le_of_ble_eq_true rfl)⟩ rfl rfl hl.1 (Nat.le_of_ble_eq_true rfl) dX4_init_42 ⟨(Nat.le_of_ble_eq_true rfl), (Nat.le_of_ble_eq_true rfl)⟩ (fun H locs hP hS => ?_)
  refine cs_putF (D := D) (ci := 4) (fs := [.ref (a + 1), .ref (a + 7), .ref (a + 18), .null, .null, .null, .null, .int (Int32.ofInt 0), .int (Int32.ofInt 0)]) (v := .ref (a + 21)) hx hb hts (pm_uwB (ci := 4) (r := (RX4, TX4, 9)) rfl) tyX4 tyX4_ok nmX4 hown hK hP hS 0 (Nat.le_of_ble_eq_true rfl) rfl rfl 3 (by decide) (hts _ (pm_TB_in (j := 417) (by decide +kernel) rfl)) (fun _ h9 => h9) rfl hin rfl (ty := tyX4 3) (tyX4_ok 3 (by decide)) rfl rfl (Nat.le_of_ble_eq_true rfl) dX4_init_45 (fun H locs hP hS => ?_)
  refine lv_aload_n hx hb dX4_init_48 rfl (lv_at hl 0 rfl) ?_
  refine cs_new (ci := 9) (fs := [.null, .null, .null, .null, .int (Int32.ofInt 0), .int (Int32.ofInt 0), .int (Int32.ofInt 0), .int (Int32.ofInt 0), .int (Int32.ofInt 0), .int (Int32.ofInt 0), .int (Int32.ofInt 0), .int (Int32.ofInt 0), .int (Int32.ofInt 0)]) hx hb hts (pm_uwB (ci := 9) (r := (RX9, TX9, 13)) rfl) tyX9 tyX9_ok hown (hts _ (pm_TB_in (j := 328) (by decide +kernel) rfl)) (hts _ (pm_TB_in (j := 329) (by decide +kernel) rfl)) (hts _ (pm_TB_in (j := 84) (by decide +kernel) rfl)) hK hP hS rfl cd_X9 (Nat.le_of_ble_eq_true rfl) (Nat.le_of_ble_eq_true rfl) dX4_init_49 (fun H hP hS => ?_)
  refine lv_dup hx hb dX4_init_52 rfl ?_
  refine cs_call (n := 37) ⟨hx, hb, hml, hown, hts⟩ hNW hK hP hS (fs := [.null, .null, .null, .null, .int (Int32.ofInt 0), .int (Int32.ofInt 0), .int (Int32.ofInt 0), .int (Int32.ofInt 0), .int (Int32.ofInt 0), .int (Int32.ofInt 0), .int (Int32.ofInt 0), .int (Int32.ofInt 0), .int (Int32.ofInt 0)]) rfl (ct_X9 l D G (a + 37)) (pm_TB_in (j := 332) (by decide +kernel) rfl) (pm_TB_in (j := 84) (by decide +kernel) rfl) (Or.inr (List.mem_of_getElem? (i := 330) (by decide +kernel))) (pm_TB_in (j := 331) (by decide +kernel) rfl) rfl (by decide +kernel) ⟨(Nat.le_of_ble_eq_true rfl), (Nat.le_of_ble_eq_true rfl)⟩ rfl rfl hl.1 (Nat.le_of_ble_eq_true rfl) dX4_init_53 ⟨(Nat.le_of_ble_eq_true rfl), (Nat.le_of_ble_eq_true rfl)⟩ (fun H locs hP hS => ?_)
  refine cs_putF (D := D) (ci := 4) (fs := [.ref (a + 1), .ref (a + 7), .ref (a + 18), .ref (a + 21), .null, .null, .null, .int (Int32.ofInt 0), .int (Int32.ofInt 0)]) (v := .ref (a + 37)) hx hb hts (pm_uwB (ci := 4) (r := (RX4, TX4, 9)) rfl) tyX4 tyX4_ok nmX4 hown hK hP hS 0 (Nat.le_of_ble_eq_true rfl) rfl rfl 4 (by decide) (hts _ (pm_TB_in (j := 420) (by decide +kernel) rfl)) (fun _ h9 => h9) rfl hin rfl (ty := tyX4 4) (tyX4_ok 4 (by decide)) rfl rfl (Nat.le_of_ble_eq_true rfl) dX4_init_56 (fun H locs hP hS => ?_)
  refine lv_aload_n hx hb dX4_init_59 rfl (lv_at hl 0 rfl) ?_
  refine cs_new (ci := 5) (fs := [.int (Int32.ofInt 0), .int (Int32.ofInt 0), .int (Int32.ofInt 0), .int (Int32.ofInt 0), .null, .null]) hx hb hts (pm_uwB (ci := 5) (r := (RX5, TX5, 6)) rfl) tyX5 tyX5_ok hown (hts _ (pm_TB_in (j := 378) (by decide +kernel) rfl)) (hts _ (pm_TB_in (j := 379) (by decide +kernel) rfl)) (hts _ (pm_TB_in (j := 85) (by decide +kernel) rfl)) hK hP hS rfl cd_X5 (Nat.le_of_ble_eq_true rfl) (Nat.le_of_ble_eq_true rfl) dX4_init_60 (fun H hP hS => ?_)
  refine lv_dup hx hb dX4_init_63 rfl ?_
  refine cs_call (n := 42) ⟨hx, hb, hml, hown, hts⟩ hNW hK hP hS (fs := [.int (Int32.ofInt 0), .int (Int32.ofInt 0), .int (Int32.ofInt 0), .int (Int32.ofInt 0), .null, .null]) rfl (ct_X5 l D G (a + 42)) (pm_TB_in (j := 382) (by decide +kernel) rfl) (pm_TB_in (j := 85) (by decide +kernel) rfl) (Or.inr (List.mem_of_getElem? (i := 380) (by decide +kernel))) (pm_TB_in (j := 381) (by decide +kernel) rfl) rfl (by decide +kernel) ⟨(Nat.le_of_ble_eq_true rfl), (Nat.le_of_ble_eq_true rfl)⟩ rfl rfl hl.1 (Nat.le_of_ble_eq_true rfl) dX4_init_64 ⟨(Nat.le_of_ble_eq_true rfl), (Nat.le_of_ble_eq_true rfl)⟩ (fun H locs hP hS => ?_)
  refine cs_putF (D := D) (ci := 4) (fs := [.ref (a + 1), .ref (a + 7), .ref (a + 18), .ref (a + 21), .ref (a + 37), .null, .null, .int (Int32.ofInt 0), .int (Int32.ofInt 0)]) (v := .ref (a + 42)) hx hb hts (pm_uwB (ci := 4) (r := (RX4, TX4, 9)) rfl) tyX4 tyX4_ok nmX4 hown hK hP hS 0 (Nat.le_of_ble_eq_true rfl) rfl rfl 5 (by decide) (hts _ (pm_TB_in (j := 422) (by decide +kernel) rfl)) (fun _ h9 => h9) rfl hin rfl (ty := tyX4 5) (tyX4_ok 5 (by decide)) rfl rfl (Nat.le_of_ble_eq_true rfl) dX4_init_67 (fun H locs hP hS => ?_)
  refine lv_aload_n hx hb dX4_init_70 rfl (lv_at hl 0 rfl) ?_
  refine lv_bipush (v := Int32.ofInt 6) hx hb dX4_init_71 (by decide) ?_
  refine cs_newa (atype := .long) (N' := 6) (x := (6, .inr (.inl (fun _ => Int64.ofInt 0)))) hx hb (hts (Jvm.Cond.arrayClass .long) (pm_TB_in (j := 377) (by decide +kernel) rfl)) 1 rfl rfl hK hP hS (fun _ => rfl) (by decide) (by decide) (by decide) (Nat.le_of_ble_eq_true rfl) (Nat.le_of_ble_eq_true rfl) dX4_init_73 (fun H hP hS => ?_)
  refine cs_putF (D := D) (ci := 4) (fs := [.ref (a + 1), .ref (a + 7), .ref (a + 18), .ref (a + 21), .ref (a + 37), .ref (a + 42), .null, .int (Int32.ofInt 0), .int (Int32.ofInt 0)]) (v := .ref (a + 45)) hx hb hts (pm_uwB (ci := 4) (r := (RX4, TX4, 9)) rfl) tyX4 tyX4_ok nmX4 hown hK hP hS 0 (Nat.le_of_ble_eq_true rfl) rfl rfl 6 (by decide) (hts _ (pm_TB_in (j := 424) (by decide +kernel) rfl)) (fun _ h9 => h9) rfl hin rfl (ty := tyX4 6) (tyX4_ok 6 (by decide)) rfl rfl (Nat.le_of_ble_eq_true rfl) dX4_init_75 (fun H locs hP hS => ?_)
  refine W.widen (k := 46 - 1) (n := 782) (Nat.le_of_ble_eq_true rfl) (Nat.le_of_ble_eq_true rfl) ?_
  refine W.vret hx hb hr (fun t ht hW => ⟨rfl, ?_, hS.F ht⟩) hS.2.2 dX4_init_78
  rw [ht]
  refine cs_cg (n := 46) hP ?_
  exact lt_s (lt_s (lt_s (lt_s (lt_s (lt_s (lt_s (lt_s (lt_s (lt_s (lt_s (lt_s (lt_s (lt_s (lt_s (lt_s (lt_s (lt_s (lt_s (lt_s (lt_s (lt_s (lt_s (lt_s (lt_s (lt_s (lt_s (lt_s (lt_s (lt_s (lt_s (lt_s (lt_s (lt_s (lt_s (lt_s (lt_s (lt_s (lt_s (lt_s (lt_s (lt_s (lt_s (lt_s (lt_s (lt_s (lt_0) (Eq.trans (b := .inr (4, [.ref (a + 1), .ref (a + 7), .ref (a + 18), .ref (a + 21), .ref (a + 37), .ref (a + 42), .ref (a + 45), .int (Int32.ofInt 0), .int (Int32.ofInt 0)])) rfl rfl)) (Eq.trans (b := .inr (0, [.ref (a + 2), .ref (a + 3), .ref (a + 4), .ref (a + 5), .ref (a + 6), .int (Int32.ofInt 100), .int (Int32.ofInt 20), .int (Int32.ofInt 100), .int (Int32.ofInt 1)])) rfl rfl)) (Eq.trans (b := .inl (G.1, 12, .inl (fun _ => Int32.ofInt 0))) rfl rfl)) (Eq.trans (b := .inl (G.1, 12, .inl (fun _ => Int32.ofInt 0))) rfl rfl)) (Eq.trans (b := .inl (G.1, 12, .inl (fun _ => Int32.ofInt 200))) rfl rfl)) (Eq.trans (b := .inl (G.1, 60, .inl (fun _ => Int32.ofInt 0))) rfl rfl)) (Eq.trans (b := .inl (G.1, 12, .inl (fun _ => Int32.ofInt 0))) rfl rfl)) (Eq.trans (b := .inr (6, [.ref (a + 8), .ref (a + 9), .ref (a + 10), .ref (a + 11), .ref (a + 12), .ref (a + 13), .ref (a + 14), .ref (a + 15), .ref (a + 16), .ref (a + 17), .int (Int32.ofInt 0)])) rfl rfl)) (Eq.trans (b := .inl (G.1, 10, .inl (fun _ => Int32.ofInt 0))) rfl rfl)) (Eq.trans (b := .inl (G.1, 10, .inl (fun _ => Int32.ofInt 0))) rfl rfl)) (Eq.trans (b := .inl (G.1, 10, .inl (fun _ => Int32.ofInt 0))) rfl rfl)) (Eq.trans (b := .inl (G.1, 10, .inl (fun _ => Int32.ofInt 0))) rfl rfl)) (Eq.trans (b := .inl (G.1, 10, .inl (fun _ => Int32.ofInt 0))) rfl rfl)) (Eq.trans (b := .inl (G.1, 10, .inl (fun _ => Int32.ofInt 0))) rfl rfl)) (Eq.trans (b := .inl (G.1, 10, .inl (fun _ => Int32.ofInt 0))) rfl rfl)) (Eq.trans (b := .inl (G.1, 10, .inl (fun _ => Int32.ofInt 0))) rfl rfl)) (Eq.trans (b := .inl (G.1, 10, .inl (fun _ => Int32.ofInt 0))) rfl rfl)) (Eq.trans (b := .inl (G.1, 10, .inl (fun _ => Int32.ofInt 0))) rfl rfl)) (Eq.trans (b := .inr (8, [.ref (a + 19), .ref (a + 20), .int (Int32.ofInt 100000), .int (Int32.ofInt 0), .int (Int32.ofInt 0), .int (Int32.ofInt 50), .int (Int32.ofInt 0), .int (Int32.ofInt 0), .long (Int64.ofInt 0)])) rfl rfl)) (Eq.trans (b := .inl (G.1, 4, .inl (fun _ => Int32.ofInt 10000))) rfl rfl)) (Eq.trans (b := .inl (G.1, 24, .inl (fun _ => Int32.ofInt 10))) rfl rfl)) (Eq.trans (b := .inr (10, [.ref (a + 22), .ref (a + 23), .ref (a + 24), .ref (a + 25), .ref (a + 26), .ref (a + 27), .ref (a + 28), .ref (a + 29), .ref (a + 30), .ref (a + 31), .ref (a + 32), .ref (a + 33), .ref (a + 34), .ref (a + 35), .ref (a + 36), .int (Int32.ofInt 0)])) rfl rfl)) (Eq.trans (b := .inl (G.1, 8, .inl (fun _ => Int32.ofInt 0))) rfl rfl)) (Eq.trans (b := .inl (G.1, 8, .inl (fun _ => Int32.ofInt 0))) rfl rfl)) (Eq.trans (b := .inl (G.1, 8, .inl (fun _ => Int32.ofInt 0))) rfl rfl)) (Eq.trans (b := .inl (G.1, 16, .inl (fun _ => Int32.ofInt 0))) rfl rfl)) (Eq.trans (b := .inl (G.1, 16, .inl (fun _ => Int32.ofInt 0))) rfl rfl)) (Eq.trans (b := .inl (G.1, 16, .inl (fun _ => Int32.ofInt 0))) rfl rfl)) (Eq.trans (b := .inl (G.1, 16, .inl (fun _ => Int32.ofInt 0))) rfl rfl)) (Eq.trans (b := .inl (G.1, 16, .inl (fun _ => Int32.ofInt 0))) rfl rfl)) (Eq.trans (b := .inl (G.1, 16, .inl (fun _ => Int32.ofInt 0))) rfl rfl)) (Eq.trans (b := .inl (G.1, 16, .inl (fun _ => Int32.ofInt 0))) rfl rfl)) (Eq.trans (b := .inl (G.1, 16, .inl (fun _ => Int32.ofInt 0))) rfl rfl)) (Eq.trans (b := .inl (G.1, 16, .inl (fun _ => Int32.ofInt 0))) rfl rfl)) (Eq.trans (b := .inl (G.1, 16, .inl (fun _ => Int32.ofInt 0))) rfl rfl)) (Eq.trans (b := .inl (G.1, 16, .inl (fun _ => Int32.ofInt 0))) rfl rfl)) (Eq.trans (b := .inl (G.1, 16, .inl (fun _ => Int32.ofInt 0))) rfl rfl)) (Eq.trans (b := .inr (9, [.ref (a + 38), .ref (a + 39), .ref (a + 40), .ref (a + 41), .int (Int32.ofInt 0), .int (Int32.ofInt 1), .int (Int32.ofInt 0), .int (Int32.ofInt 0), .int (Int32.ofInt 0), .int (Int32.ofInt 0), .int (Int32.ofInt 0), .int (Int32.ofInt 0), .int (Int32.ofInt 0)])) rfl rfl)) (Eq.trans (b := .inl (G.1, 60, .inl (fun _ => Int32.ofInt 0))) rfl rfl)) (Eq.trans (b := .inl (G.1, 60, .inl (fun _ => Int32.ofInt 0))) rfl rfl)) (Eq.trans (b := .inl (G.1, 60, .inl (fun _ => Int32.ofInt 0))) rfl rfl)) (Eq.trans (b := .inl (G.2.1, 60, .inr (.inl (fun _ => Int64.ofInt 0)))) rfl rfl)) (Eq.trans (b := .inr (5, [.int (Int32.ofInt 0), .int (Int32.ofInt 0), .int (Int32.ofInt 0), .int (Int32.ofInt 0), .ref (a + 43), .ref (a + 44)])) rfl rfl)) (Eq.trans (b := .inl (G.1, 10, .inl (fun _ => Int32.ofInt 0))) rfl rfl)) (Eq.trans (b := .inl (G.1, 10, .inl (fun _ => Int32.ofInt 0))) rfl rfl)) (Eq.trans (b := .inl (G.2.1, 6, .inr (.inl (fun _ => Int64.ofInt 0)))) rfl rfl)
theorem dX1_init_0 : decode cX1_init 0 = .ok (.aload_n 0, 1) := by decide +kernel
theorem dX1_init_1 : decode cX1_init 1 = .ok (.invokespecial 1, 3) := by decide +kernel
theorem dX1_init_4 : decode cX1_init 4 = .ok (.aload_n 0, 1) := by decide +kernel
theorem dX1_init_5 : decode cX1_init 5 = .ok (.new 7, 3) := by decide +kernel
theorem dX1_init_8 : decode cX1_init 8 = .ok (.dup, 1) := by decide +kernel
theorem dX1_init_9 : decode cX1_init 9 = .ok (.invokespecial 9, 3) := by decide +kernel
theorem dX1_init_12 : decode cX1_init 12 = .ok (.putfield 10, 3) := by decide +kernel
theorem dX1_init_15 : decode cX1_init 15 = .ok (.aload_n 0, 1) := by decide +kernel
theorem dX1_init_16 : decode cX1_init 16 = .ok (.bipush 40, 2) := by decide +kernel
theorem dX1_init_18 : decode cX1_init 18 = .ok (.newarray .long, 2) := by decide +kernel
theorem dX1_init_20 : decode cX1_init 20 = .ok (.putfield 16, 3) := by decide +kernel
theorem dX1_init_23 : decode cX1_init 23 = .ok (.return_, 1) := by decide +kernel
theorem cd_X1 : ∀ j, j < 4 → defaultValue (tyX1 j) = vp_V [.null, .null, .int (Int32.ofInt 0), .int (Int32.ofInt 0)] j := by
  intro j hj
  match j, hj with
  | 0, _ => rfl
  | 1, _ => rfl
  | 2, _ => rfl
  | 3, _ => rfl
  | k + 4, h => exact absurd h (by omega)
set_option maxHeartbeats 4000000 in
set_option maxRecDepth 100000 in
theorem ct_X1 (l : Launch) (D : va_G) (G : pm_G) (a : Nat) : Met l yX1_init (Jvm.Cond.code yX1_init cX1_init 1 none :: pm_TB) ({ frames := 3, cells := 47, slots := 831, locals := 99 }) (cs_Pc D G 1 [.null, .null, .int (Int32.ofInt 0), .int (Int32.ofInt 0)] a) (cs_Qc D 48 (cs_B 99 G a) a) (48 - 1) 831 (cs_A a) := by
  refine Met.ofW (cc := cX1_init) (maxL := 1) (ret := none) (by decide) rfl ?_
  intro p e s m args below meth c s₁ B hml hv
  obtain ⟨rfl, hz, h0, hK, hNW⟩ := hv
  have hx := B.exec
  have hb := B.bytes
  have hr := B.returns
  have hts : ∀ w ∈ pm_TB, w.before #[Value.ref a] s = true := fun w hw => atoms_spec (ws := Jvm.Cond.code yX1_init cX1_init 1 none :: pm_TB) B.pre w (List.mem_cons_of_mem _ hw)
  have hown : s.vm.findClass RX1 = some m.cls := findClass_of_methodNamed B.named
  have hlocks := B.notSynchronized
  have hin : meth.name = "<init>" := (name_of_methodNamed B.named B.method).1
  have hP : cs_P D a 1 (fun _ => .inr (1, [.null, .null, .int (Int32.ofInt 0), .int (Int32.ofInt 0)])) s.heap := ⟨hz, fun i hi => by rw [show i = 0 by omega]; exact h0⟩
  have hS : va_S (cs_A a) s.heap s.heap [] := va_S.rf
  have hl := lv_entry ([.ref a]) (n := 1) (Nat.le_of_ble_eq_true rfl)
  rw [lg_entry_eq]
  generalize (lg_sl ([.ref a]) ++ List.replicate (1 - (lg_sl ([.ref a])).length) Slot.unset).toArray = ls at hl ⊢
  have hl : lv_has ls 1 [(0, .ref (a + 0))] := hl
  refine lv_aload_n hx hb dX1_init_0 rfl (lv_at hl 0 rfl) ?_
  refine W.objInit hx hb hown (hts _ (pm_TB_in (j := 474) (by decide +kernel) rfl)) (hts _ (pm_TB_in (j := 105) (by decide +kernel) rfl)) (hts _ (pm_TB_in (j := 106) (by decide +kernel) rfl)) rfl (by rw [hml]; exact hl.1) rfl dX1_init_1 (Nat.le_of_ble_eq_true rfl) (Nat.le_of_ble_eq_true rfl) ?_
  refine W.eq (g2 := F0 m 4 ls []) rfl ?_
  refine lv_aload_n hx hb dX1_init_4 rfl (lv_at hl 0 rfl) ?_
  refine cs_new (ci := 4) (fs := [.null, .null, .null, .null, .null, .null, .null, .int (Int32.ofInt 0), .int (Int32.ofInt 0)]) hx hb hts (pm_uwB (ci := 4) (r := (RX4, TX4, 9)) rfl) tyX4 tyX4_ok hown (hts _ (pm_TB_in (j := 475) (by decide +kernel) rfl)) (hts _ (pm_TB_in (j := 108) (by decide +kernel) rfl)) (hts _ (pm_TB_in (j := 78) (by decide +kernel) rfl)) hK hP hS rfl cd_X4 (Nat.le_of_ble_eq_true rfl) (Nat.le_of_ble_eq_true rfl) dX1_init_5 (fun H hP hS => ?_)
  refine lv_dup hx hb dX1_init_8 rfl ?_
  refine cs_call (n := 1) ⟨hx, hb, hml, hown, hts⟩ hNW hK hP hS (fs := [.null, .null, .null, .null, .null, .null, .null, .int (Int32.ofInt 0), .int (Int32.ofInt 0)]) rfl (ct_X4 l D G (a + 1)) (pm_TB_in (j := 111) (by decide +kernel) rfl) (pm_TB_in (j := 78) (by decide +kernel) rfl) (Or.inr (List.mem_of_getElem? (i := 476) (by decide +kernel))) (pm_TB_in (j := 110) (by decide +kernel) rfl) rfl (by decide +kernel) ⟨(Nat.le_of_ble_eq_true rfl), (Nat.le_of_ble_eq_true rfl)⟩ rfl rfl hl.1 (Nat.le_of_ble_eq_true rfl) dX1_init_9 ⟨(Nat.le_of_ble_eq_true rfl), (Nat.le_of_ble_eq_true rfl)⟩ (fun H locs hP hS => ?_)
  refine cs_putF (D := D) (ci := 1) (fs := [.null, .null, .int (Int32.ofInt 0), .int (Int32.ofInt 0)]) (v := .ref (a + 1)) hx hb hts (pm_uwB (ci := 1) (r := (RX1, TX1, 4)) rfl) tyX1 tyX1_ok nmX1 hown hK hP hS 0 (Nat.le_of_ble_eq_true rfl) rfl rfl 0 (by decide) (hts _ (pm_TB_in (j := 477) (by decide +kernel) rfl)) (fun _ h9 => h9) rfl hin rfl (ty := tyX1 0) (tyX1_ok 0 (by decide)) rfl rfl (Nat.le_of_ble_eq_true rfl) dX1_init_12 (fun H locs hP hS => ?_)
  refine lv_aload_n hx hb dX1_init_15 rfl (lv_at hl 0 rfl) ?_
  refine lv_bipush (v := Int32.ofInt 40) hx hb dX1_init_16 (by decide) ?_
  refine cs_newa (atype := .long) (N' := 40) (x := (40, .inr (.inl (fun _ => Int64.ofInt 0)))) hx hb (hts (Jvm.Cond.arrayClass .long) (pm_TB_in (j := 377) (by decide +kernel) rfl)) 1 rfl rfl hK hP hS (fun _ => rfl) (by decide) (by decide) (by decide) (Nat.le_of_ble_eq_true rfl) (Nat.le_of_ble_eq_true rfl) dX1_init_18 (fun H hP hS => ?_)
  refine cs_putF (D := D) (ci := 1) (fs := [.ref (a + 1), .null, .int (Int32.ofInt 0), .int (Int32.ofInt 0)]) (v := .ref (a + 47)) hx hb hts (pm_uwB (ci := 1) (r := (RX1, TX1, 4)) rfl) tyX1 tyX1_ok nmX1 hown hK hP hS 0 (Nat.le_of_ble_eq_true rfl) rfl rfl 1 (by decide) (hts _ (pm_TB_in (j := 479) (by decide +kernel) rfl)) (fun _ h9 => h9) rfl hin rfl (ty := tyX1 1) (tyX1_ok 1 (by decide)) rfl rfl (Nat.le_of_ble_eq_true rfl) dX1_init_20 (fun H locs hP hS => ?_)
  refine W.widen (k := 48 - 1) (n := 831) (Nat.le_of_ble_eq_true rfl) (Nat.le_of_ble_eq_true rfl) ?_
  refine W.vret hx hb hr (fun t ht hW => ⟨rfl, ?_, hS.F ht⟩) hS.2.2 dX1_init_23
  rw [ht]
  refine cs_cg (n := 48) hP ?_
  exact lt_s (lt_s (lt_s (lt_s (lt_s (lt_s (lt_s (lt_s (lt_s (lt_s (lt_s (lt_s (lt_s (lt_s (lt_s (lt_s (lt_s (lt_s (lt_s (lt_s (lt_s (lt_s (lt_s (lt_s (lt_s (lt_s (lt_s (lt_s (lt_s (lt_s (lt_s (lt_s (lt_s (lt_s (lt_s (lt_s (lt_s (lt_s (lt_s (lt_s (lt_s (lt_s (lt_s (lt_s (lt_s (lt_s (lt_s (lt_s (lt_0) (Eq.trans (b := .inr (1, [.ref (a + 1), .ref (a + 47), .int (Int32.ofInt 0), .int (Int32.ofInt 0)])) rfl rfl)) (Eq.trans (b := .inr (4, [.ref (a + 2), .ref (a + 8), .ref (a + 19), .ref (a + 22), .ref (a + 38), .ref (a + 43), .ref (a + 46), .int (Int32.ofInt 0), .int (Int32.ofInt 0)])) rfl rfl)) (Eq.trans (b := .inr (0, [.ref (a + 3), .ref (a + 4), .ref (a + 5), .ref (a + 6), .ref (a + 7), .int (Int32.ofInt 100), .int (Int32.ofInt 20), .int (Int32.ofInt 100), .int (Int32.ofInt 1)])) rfl rfl)) (Eq.trans (b := .inl (G.1, 12, .inl (fun _ => Int32.ofInt 0))) rfl rfl)) (Eq.trans (b := .inl (G.1, 12, .inl (fun _ => Int32.ofInt 0))) rfl rfl)) (Eq.trans (b := .inl (G.1, 12, .inl (fun _ => Int32.ofInt 200))) rfl rfl)) (Eq.trans (b := .inl (G.1, 60, .inl (fun _ => Int32.ofInt 0))) rfl rfl)) (Eq.trans (b := .inl (G.1, 12, .inl (fun _ => Int32.ofInt 0))) rfl rfl)) (Eq.trans (b := .inr (6, [.ref (a + 9), .ref (a + 10), .ref (a + 11), .ref (a + 12), .ref (a + 13), .ref (a + 14), .ref (a + 15), .ref (a + 16), .ref (a + 17), .ref (a + 18), .int (Int32.ofInt 0)])) rfl rfl)) (Eq.trans (b := .inl (G.1, 10, .inl (fun _ => Int32.ofInt 0))) rfl rfl)) (Eq.trans (b := .inl (G.1, 10, .inl (fun _ => Int32.ofInt 0))) rfl rfl)) (Eq.trans (b := .inl (G.1, 10, .inl (fun _ => Int32.ofInt 0))) rfl rfl)) (Eq.trans (b := .inl (G.1, 10, .inl (fun _ => Int32.ofInt 0))) rfl rfl)) (Eq.trans (b := .inl (G.1, 10, .inl (fun _ => Int32.ofInt 0))) rfl rfl)) (Eq.trans (b := .inl (G.1, 10, .inl (fun _ => Int32.ofInt 0))) rfl rfl)) (Eq.trans (b := .inl (G.1, 10, .inl (fun _ => Int32.ofInt 0))) rfl rfl)) (Eq.trans (b := .inl (G.1, 10, .inl (fun _ => Int32.ofInt 0))) rfl rfl)) (Eq.trans (b := .inl (G.1, 10, .inl (fun _ => Int32.ofInt 0))) rfl rfl)) (Eq.trans (b := .inl (G.1, 10, .inl (fun _ => Int32.ofInt 0))) rfl rfl)) (Eq.trans (b := .inr (8, [.ref (a + 20), .ref (a + 21), .int (Int32.ofInt 100000), .int (Int32.ofInt 0), .int (Int32.ofInt 0), .int (Int32.ofInt 50), .int (Int32.ofInt 0), .int (Int32.ofInt 0), .long (Int64.ofInt 0)])) rfl rfl)) (Eq.trans (b := .inl (G.1, 4, .inl (fun _ => Int32.ofInt 10000))) rfl rfl)) (Eq.trans (b := .inl (G.1, 24, .inl (fun _ => Int32.ofInt 10))) rfl rfl)) (Eq.trans (b := .inr (10, [.ref (a + 23), .ref (a + 24), .ref (a + 25), .ref (a + 26), .ref (a + 27), .ref (a + 28), .ref (a + 29), .ref (a + 30), .ref (a + 31), .ref (a + 32), .ref (a + 33), .ref (a + 34), .ref (a + 35), .ref (a + 36), .ref (a + 37), .int (Int32.ofInt 0)])) rfl rfl)) (Eq.trans (b := .inl (G.1, 8, .inl (fun _ => Int32.ofInt 0))) rfl rfl)) (Eq.trans (b := .inl (G.1, 8, .inl (fun _ => Int32.ofInt 0))) rfl rfl)) (Eq.trans (b := .inl (G.1, 8, .inl (fun _ => Int32.ofInt 0))) rfl rfl)) (Eq.trans (b := .inl (G.1, 16, .inl (fun _ => Int32.ofInt 0))) rfl rfl)) (Eq.trans (b := .inl (G.1, 16, .inl (fun _ => Int32.ofInt 0))) rfl rfl)) (Eq.trans (b := .inl (G.1, 16, .inl (fun _ => Int32.ofInt 0))) rfl rfl)) (Eq.trans (b := .inl (G.1, 16, .inl (fun _ => Int32.ofInt 0))) rfl rfl)) (Eq.trans (b := .inl (G.1, 16, .inl (fun _ => Int32.ofInt 0))) rfl rfl)) (Eq.trans (b := .inl (G.1, 16, .inl (fun _ => Int32.ofInt 0))) rfl rfl)) (Eq.trans (b := .inl (G.1, 16, .inl (fun _ => Int32.ofInt 0))) rfl rfl)) (Eq.trans (b := .inl (G.1, 16, .inl (fun _ => Int32.ofInt 0))) rfl rfl)) (Eq.trans (b := .inl (G.1, 16, .inl (fun _ => Int32.ofInt 0))) rfl rfl)) (Eq.trans (b := .inl (G.1, 16, .inl (fun _ => Int32.ofInt 0))) rfl rfl)) (Eq.trans (b := .inl (G.1, 16, .inl (fun _ => Int32.ofInt 0))) rfl rfl)) (Eq.trans (b := .inl (G.1, 16, .inl (fun _ => Int32.ofInt 0))) rfl rfl)) (Eq.trans (b := .inr (9, [.ref (a + 39), .ref (a + 40), .ref (a + 41), .ref (a + 42), .int (Int32.ofInt 0), .int (Int32.ofInt 1), .int (Int32.ofInt 0), .int (Int32.ofInt 0), .int (Int32.ofInt 0), .int (Int32.ofInt 0), .int (Int32.ofInt 0), .int (Int32.ofInt 0), .int (Int32.ofInt 0)])) rfl rfl)) (Eq.trans (b := .inl (G.1, 60, .inl (fun _ => Int32.ofInt 0))) rfl rfl)) (Eq.trans (b := .inl (G.1, 60, .inl (fun _ => Int32.ofInt 0))) rfl rfl)) (Eq.trans (b := .inl (G.1, 60, .inl (fun _ => Int32.ofInt 0))) rfl rfl)) (Eq.trans (b := .inl (G.2.1, 60, .inr (.inl (fun _ => Int64.ofInt 0)))) rfl rfl)) (Eq.trans (b := .inr (5, [.int (Int32.ofInt 0), .int (Int32.ofInt 0), .int (Int32.ofInt 0), .int (Int32.ofInt 0), .ref (a + 44), .ref (a + 45)])) rfl rfl)) (Eq.trans (b := .inl (G.1, 10, .inl (fun _ => Int32.ofInt 0))) rfl rfl)) (Eq.trans (b := .inl (G.1, 10, .inl (fun _ => Int32.ofInt 0))) rfl rfl)) (Eq.trans (b := .inl (G.2.1, 6, .inr (.inl (fun _ => Int64.ofInt 0)))) rfl rfl)) (Eq.trans (b := .inl (G.2.1, 40, .inr (.inl (fun _ => Int64.ofInt 0)))) rfl rfl)
