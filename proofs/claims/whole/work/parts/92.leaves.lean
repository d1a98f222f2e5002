/-! Constructors, by their instructions. -/
theorem dX0_init_0 : decode cX0_init 0 = .ok (.aload_n 0, 1) := by decide +kernel
theorem dX0_init_1 : decode cX0_init 1 = .ok (.invokespecial 3, 3) := by decide +kernel
theorem dX0_init_4 : decode cX0_init 4 = .ok (.aload_n 0, 1) := by decide +kernel
theorem dX0_init_5 : decode cX0_init 5 = .ok (.bipush 12, 2) := by decide +kernel
theorem dX0_init_7 : decode cX0_init 7 = .ok (.newarray .int, 2) := by decide +kernel
theorem dX0_init_9 : decode cX0_init 9 = .ok (.putfield 9, 3) := by decide +kernel
theorem dX0_init_12 : decode cX0_init 12 = .ok (.aload_n 0, 1) := by decide +kernel
theorem dX0_init_13 : decode cX0_init 13 = .ok (.bipush 12, 2) := by decide +kernel
theorem dX0_init_15 : decode cX0_init 15 = .ok (.newarray .int, 2) := by decide +kernel
theorem dX0_init_17 : decode cX0_init 17 = .ok (.putfield 15, 3) := by decide +kernel
theorem dX0_init_20 : decode cX0_init 20 = .ok (.aload_n 0, 1) := by decide +kernel
theorem dX0_init_21 : decode cX0_init 21 = .ok (.bipush 12, 2) := by decide +kernel
theorem dX0_init_23 : decode cX0_init 23 = .ok (.newarray .int, 2) := by decide +kernel
theorem dX0_init_25 : decode cX0_init 25 = .ok (.putfield 18, 3) := by decide +kernel
theorem dX0_init_28 : decode cX0_init 28 = .ok (.aload_n 0, 1) := by decide +kernel
theorem dX0_init_29 : decode cX0_init 29 = .ok (.bipush 60, 2) := by decide +kernel
theorem dX0_init_31 : decode cX0_init 31 = .ok (.newarray .int, 2) := by decide +kernel
theorem dX0_init_33 : decode cX0_init 33 = .ok (.putfield 21, 3) := by decide +kernel
theorem dX0_init_36 : decode cX0_init 36 = .ok (.aload_n 0, 1) := by decide +kernel
theorem dX0_init_37 : decode cX0_init 37 = .ok (.bipush 12, 2) := by decide +kernel
theorem dX0_init_39 : decode cX0_init 39 = .ok (.newarray .int, 2) := by decide +kernel
theorem dX0_init_41 : decode cX0_init 41 = .ok (.putfield 24, 3) := by decide +kernel
theorem dX0_init_44 : decode cX0_init 44 = .ok (.aload_n 0, 1) := by decide +kernel
theorem dX0_init_45 : decode cX0_init 45 = .ok (.bipush 100, 2) := by decide +kernel
theorem dX0_init_47 : decode cX0_init 47 = .ok (.putfield 27, 3) := by decide +kernel
theorem dX0_init_50 : decode cX0_init 50 = .ok (.aload_n 0, 1) := by decide +kernel
theorem dX0_init_51 : decode cX0_init 51 = .ok (.bipush 20, 2) := by decide +kernel
theorem dX0_init_53 : decode cX0_init 53 = .ok (.putfield 31, 3) := by decide +kernel
theorem dX0_init_56 : decode cX0_init 56 = .ok (.aload_n 0, 1) := by decide +kernel
theorem dX0_init_57 : decode cX0_init 57 = .ok (.bipush 100, 2) := by decide +kernel
theorem dX0_init_59 : decode cX0_init 59 = .ok (.putfield 34, 3) := by decide +kernel
theorem dX0_init_62 : decode cX0_init 62 = .ok (.aload_n 0, 1) := by decide +kernel
theorem dX0_init_63 : decode cX0_init 63 = .ok (.iconst 1, 1) := by decide +kernel
theorem dX0_init_64 : decode cX0_init 64 = .ok (.putfield 37, 3) := by decide +kernel
theorem dX0_init_67 : decode cX0_init 67 = .ok (.aload_n 0, 1) := by decide +kernel
theorem dX0_init_68 : decode cX0_init 68 = .ok (.getfield 18, 3) := by decide +kernel
theorem dX0_init_71 : decode cX0_init 71 = .ok (.sipush 200, 3) := by decide +kernel
theorem dX0_init_74 : decode cX0_init 74 = .ok (.invokestatic 40, 3) := by decide +kernel
theorem dX0_init_77 : decode cX0_init 77 = .ok (.return_, 1) := by decide +kernel
theorem cd_X0 : ∀ j, j < 9 → defaultValue (tyX0 j) = vp_V [.null, .null, .null, .null, .null, .int (Int32.ofInt 0), .int (Int32.ofInt 0), .int (Int32.ofInt 0), .int (Int32.ofInt 0)] j := by
  intro j hj
  match j, hj with
  | 0, _ => rfl
  | 1, _ => rfl
  | 2, _ => rfl
  | 3, _ => rfl
  | 4, _ => rfl
  | 5, _ => rfl
  | 6, _ => rfl
  | 7, _ => rfl
  | 8, _ => rfl
  | k + 9, h => exact absurd h (by omega)
set_option maxHeartbeats 4000000 in
set_option maxRecDepth 100000 in
theorem ct_X0 (l : Launch) (D : va_G) (G : pm_G) (a : Nat) : Met l yX0_init (Jvm.Cond.code yX0_init cX0_init 1 none :: pm_TB) ({ frames := 1, cells := 5, slots := 108, locals := 33 }) (cs_Pc D G 0 [.null, .null, .null, .null, .null, .int (Int32.ofInt 0), .int (Int32.ofInt 0), .int (Int32.ofInt 0), .int (Int32.ofInt 0)] a) (cs_Qc D 6 (cs_B 2 G a) a) (6 - 1) 108 (cs_A a) := by
  refine Met.ofW (cc := cX0_init) (maxL := 1) (ret := none) (by decide) rfl ?_
  intro p e s m args below meth c s₁ B hml hv
  obtain ⟨rfl, hz, h0, hK, hNW⟩ := hv
  have hx := B.exec
  have hb := B.bytes
  have hr := B.returns
  have hts : ∀ w ∈ pm_TB, w.before #[Value.ref a] s = true := fun w hw => atoms_spec (ws := Jvm.Cond.code yX0_init cX0_init 1 none :: pm_TB) B.pre w (List.mem_cons_of_mem _ hw)
  have hown : s.vm.findClass RX0 = some m.cls := findClass_of_methodNamed B.named
  have hlocks := B.notSynchronized
  have hin : meth.name = "<init>" := (name_of_methodNamed B.named B.method).1
  have hP : cs_P D a 1 (fun _ => .inr (0, [.null, .null, .null, .null, .null, .int (Int32.ofInt 0), .int (Int32.ofInt 0), .int (Int32.ofInt 0), .int (Int32.ofInt 0)])) s.heap := ⟨hz, fun i hi => by rw [show i = 0 by omega]; exact h0⟩
  have hS : va_S (cs_A a) s.heap s.heap [] := va_S.rf
  have hl := lv_entry ([.ref a]) (n := 1) (Nat.le_of_ble_eq_true rfl)
  rw [lg_entry_eq]
  generalize (lg_sl ([.ref a]) ++ List.replicate (1 - (lg_sl ([.ref a])).length) Slot.unset).toArray = ls at hl ⊢
  have hl : lv_has ls 1 [(0, .ref (a + 0))] := hl
  refine lv_aload_n hx hb dX0_init_0 rfl (lv_at hl 0 rfl) ?_
  refine W.objInit hx hb hown (hts _ (pm_TB_in (j := 118) (by decide +kernel) rfl)) (hts _ (pm_TB_in (j := 105) (by decide +kernel) rfl)) (hts _ (pm_TB_in (j := 106) (by decide +kernel) rfl)) rfl (by rw [hml]; exact hl.1) rfl dX0_init_1 (Nat.le_of_ble_eq_true rfl) (Nat.le_of_ble_eq_true rfl) ?_
  refine W.eq (g2 := F0 m 4 ls []) rfl ?_
  refine lv_aload_n hx hb dX0_init_4 rfl (lv_at hl 0 rfl) ?_
  refine lv_bipush (v := Int32.ofInt 12) hx hb dX0_init_5 (by decide) ?_
  refine cs_newa (atype := .int) (N' := 12) (x := (12, .inl (fun _ => Int32.ofInt 0))) hx hb (hts (Jvm.Cond.arrayClass .int) (pm_TB_in (j := 161) (by decide +kernel) rfl)) 0 rfl rfl hK hP hS (fun _ => rfl) (by decide) (by decide) (by decide) (Nat.le_of_ble_eq_true rfl) (Nat.le_of_ble_eq_true rfl) dX0_init_7 (fun H hP hS => ?_)
  refine cs_putF (D := D) (ci := 0) (fs := [.null, .null, .null, .null, .null, .int (Int32.ofInt 0), .int (Int32.ofInt 0), .int (Int32.ofInt 0), .int (Int32.ofInt 0)]) (v := .ref (a + 1)) hx hb hts (pm_uwB (ci := 0) (r := (RX0, TX0, 9)) rfl) tyX0 tyX0_ok nmX0 hown hK hP hS 0 (Nat.le_of_ble_eq_true rfl) rfl rfl 0 (by decide) (hts _ (pm_TB_in (j := 122) (by decide +kernel) rfl)) (fun _ h9 => h9) rfl hin rfl (ty := tyX0 0) (tyX0_ok 0 (by decide)) rfl rfl (Nat.le_of_ble_eq_true rfl) dX0_init_9 (fun H locs hP hS => ?_)
  refine lv_aload_n hx hb dX0_init_12 rfl (lv_at hl 0 rfl) ?_
  refine lv_bipush (v := Int32.ofInt 12) hx hb dX0_init_13 (by decide) ?_
  refine cs_newa (atype := .int) (N' := 12) (x := (12, .inl (fun _ => Int32.ofInt 0))) hx hb (hts (Jvm.Cond.arrayClass .int) (pm_TB_in (j := 161) (by decide +kernel) rfl)) 0 rfl rfl hK hP hS (fun _ => rfl) (by decide) (by decide) (by decide) (Nat.le_of_ble_eq_true rfl) (Nat.le_of_ble_eq_true rfl) dX0_init_15 (fun H hP hS => ?_)
  refine cs_putF (D := D) (ci := 0) (fs := [.ref (a + 1), .null, .null, .null, .null, .int (Int32.ofInt 0), .int (Int32.ofInt 0), .int (Int32.ofInt 0), .int (Int32.ofInt 0)]) (v := .ref (a + 2)) hx hb hts (pm_uwB (ci := 0) (r := (RX0, TX0, 9)) rfl) tyX0 tyX0_ok nmX0 hown hK hP hS 0 (Nat.le_of_ble_eq_true rfl) rfl rfl 1 (by decide) (hts _ (pm_TB_in (j := 126) (by decide +kernel) rfl)) (fun _ h9 => h9) rfl hin rfl (ty := tyX0 1) (tyX0_ok 1 (by decide)) rfl rfl (Nat.le_of_ble_eq_true rfl) dX0_init_17 (fun H locs hP hS => ?_)
  refine lv_aload_n hx hb dX0_init_20 rfl (lv_at hl 0 rfl) ?_
  refine lv_bipush (v := Int32.ofInt 12) hx hb dX0_init_21 (by decide) ?_
  refine cs_newa (atype := .int) (N' := 12) (x := (12, .inl (fun _ => Int32.ofInt 0))) hx hb (hts (Jvm.Cond.arrayClass .int) (pm_TB_in (j := 161) (by decide +kernel) rfl)) 0 rfl rfl hK hP hS (fun _ => rfl) (by decide) (by decide) (by decide) (Nat.le_of_ble_eq_true rfl) (Nat.le_of_ble_eq_true rfl) dX0_init_23 (fun H hP hS => ?_)
  refine cs_putF (D := D) (ci := 0) (fs := [.ref (a + 1), .ref (a + 2), .null, .null, .null, .int (Int32.ofInt 0), .int (Int32.ofInt 0), .int (Int32.ofInt 0), .int (Int32.ofInt 0)]) (v := .ref (a + 3)) hx hb hts (pm_uwB (ci := 0) (r := (RX0, TX0, 9)) rfl) tyX0 tyX0_ok nmX0 hown hK hP hS 0 (Nat.le_of_ble_eq_true rfl) rfl rfl 2 (by decide) (hts _ (pm_TB_in (j := 128) (by decide +kernel) rfl)) (fun _ h9 => h9) rfl hin rfl (ty := tyX0 2) (tyX0_ok 2 (by decide)) rfl rfl (Nat.le_of_ble_eq_true rfl) dX0_init_25 (fun H locs hP hS => ?_)
  refine lv_aload_n hx hb dX0_init_28 rfl (lv_at hl 0 rfl) ?_
  refine lv_bipush (v := Int32.ofInt 60) hx hb dX0_init_29 (by decide) ?_
  refine cs_newa (atype := .int) (N' := 60) (x := (60, .inl (fun _ => Int32.ofInt 0))) hx hb (hts (Jvm.Cond.arrayClass .int) (pm_TB_in (j := 161) (by decide +kernel) rfl)) 0 rfl rfl hK hP hS (fun _ => rfl) (by decide) (by decide) (by decide) (Nat.le_of_ble_eq_true rfl) (Nat.le_of_ble_eq_true rfl) dX0_init_31 (fun H hP hS => ?_)
  refine cs_putF (D := D) (ci := 0) (fs := [.ref (a + 1), .ref (a + 2), .ref (a + 3), .null, .null, .int (Int32.ofInt 0), .int (Int32.ofInt 0), .int (Int32.ofInt 0), .int (Int32.ofInt 0)]) (v := .ref (a + 4)) hx hb hts (pm_uwB (ci := 0) (r := (RX0, TX0, 9)) rfl) tyX0 tyX0_ok nmX0 hown hK hP hS 0 (Nat.le_of_ble_eq_true rfl) rfl rfl 3 (by decide) (hts _ (pm_TB_in (j := 130) (by decide +kernel) rfl)) (fun _ h9 => h9) rfl hin rfl (ty := tyX0 3) (tyX0_ok 3 (by decide)) rfl rfl (Nat.le_of_ble_eq_true rfl) dX0_init_33 (fun H locs hP hS => ?_)
  refine lv_aload_n hx hb dX0_init_36 rfl (lv_at hl 0 rfl) ?_
  refine lv_bipush (v := Int32.ofInt 12) hx hb dX0_init_37 (by decide) ?_
  refine cs_newa (atype := .int) (N' := 12) (x := (12, .inl (fun _ => Int32.ofInt 0))) hx hb (hts (Jvm.Cond.arrayClass .int) (pm_TB_in (j := 161) (by decide +kernel) rfl)) 0 rfl rfl hK hP hS (fun _ => rfl) (by decide) (by decide) (by decide) (Nat.le_of_ble_eq_true rfl) (Nat.le_of_ble_eq_true rfl) dX0_init_39 (fun H hP hS => ?_)
  refine cs_putF (D := D) (ci := 0) (fs := [.ref (a + 1), .ref (a + 2), .ref (a + 3), .ref (a + 4), .null, .int (Int32.ofInt 0), .int (Int32.ofInt 0), .int (Int32.ofInt 0), .int (Int32.ofInt 0)]) (v := .ref (a + 5)) hx hb hts (pm_uwB (ci := 0) (r := (RX0, TX0, 9)) rfl) tyX0 tyX0_ok nmX0 hown hK hP hS 0 (Nat.le_of_ble_eq_true rfl) rfl rfl 4 (by decide) (hts _ (pm_TB_in (j := 131) (by decide +kernel) rfl)) (fun _ h9 => h9) rfl hin rfl (ty := tyX0 4) (tyX0_ok 4 (by decide)) rfl rfl (Nat.le_of_ble_eq_true rfl) dX0_init_41 (fun H locs hP hS => ?_)
  refine lv_aload_n hx hb dX0_init_44 rfl (lv_at hl 0 rfl) ?_
  refine lv_bipush (v := Int32.ofInt 100) hx hb dX0_init_45 (by decide) ?_
  refine cs_put (D := D) (ci := 0) (fs := [.ref (a + 1), .ref (a + 2), .ref (a + 3), .ref (a + 4), .ref (a + 5), .int (Int32.ofInt 0), .int (Int32.ofInt 0), .int (Int32.ofInt 0), .int (Int32.ofInt 0)]) (v := .int (Int32.ofInt 100)) hx hb hts (pm_uwB (ci := 0) (r := (RX0, TX0, 9)) rfl) tyX0 tyX0_ok nmX0 hown hK hP hS 0 (Nat.le_of_ble_eq_true rfl) rfl rfl 5 (by decide) (hts _ (pm_TB_in (j := 132) (by decide +kernel) rfl)) (fun _ h9 => h9) rfl (ty := tyX0 5) (tyX0_ok 5 (by decide)) rfl rfl (Nat.le_of_ble_eq_true rfl) dX0_init_47 (fun H locs hP hS => ?_)
  refine lv_aload_n hx hb dX0_init_50 rfl (lv_at hl 0 rfl) ?_
  refine lv_bipush (v := Int32.ofInt 20) hx hb dX0_init_51 (by decide) ?_
  refine cs_put (D := D) (ci := 0) (fs := [.ref (a + 1), .ref (a + 2), .ref (a + 3), .ref (a + 4), .ref (a + 5), .int (Int32.ofInt 100), .int (Int32.ofInt 0), .int (Int32.ofInt 0), .int (Int32.ofInt 0)]) (v := .int (Int32.ofInt 20)) hx hb hts (pm_uwB (ci := 0) (r := (RX0, TX0, 9)) rfl) tyX0 tyX0_ok nmX0 hown hK hP hS 0 (Nat.le_of_ble_eq_true rfl) rfl rfl 6 (by decide) (hts _ (pm_TB_in (j := 135) (by decide +kernel) rfl)) (fun _ h9 => h9) rfl (ty := tyX0 6) (tyX0_ok 6 (by decide)) rfl rfl (Nat.le_of_ble_eq_true rfl) dX0_init_53 (fun H locs hP hS => ?_)
  refine lv_aload_n hx hb dX0_init_56 rfl (lv_at hl 0 rfl) ?_
  refine lv_bipush (v := Int32.ofInt 100) hx hb dX0_init_57 (by decide) ?_
  refine cs_put (D := D) (ci := 0) (fs := [.ref (a + 1), .ref (a + 2), .ref (a + 3), .ref (a + 4), .ref (a + 5), .int (Int32.ofInt 100), .int (Int32.ofInt 20), .int (Int32.ofInt 0), .int (Int32.ofInt 0)]) (v := .int (Int32.ofInt 100)) hx hb hts (pm_uwB (ci := 0) (r := (RX0, TX0, 9)) rfl) tyX0 tyX0_ok nmX0 hown hK hP hS 0 (Nat.le_of_ble_eq_true rfl) rfl rfl 7 (by decide) (hts _ (pm_TB_in (j := 137) (by decide +kernel) rfl)) (fun _ h9 => h9) rfl (ty := tyX0 7) (tyX0_ok 7 (by decide)) rfl rfl (Nat.le_of_ble_eq_true rfl) dX0_init_59 (fun H locs hP hS => ?_)
  refine lv_aload_n hx hb dX0_init_62 rfl (lv_at hl 0 rfl) ?_
  refine lv_iconst (v := Int32.ofInt 1) hx hb dX0_init_63 (by decide) ?_
  refine cs_put (D := D) (ci := 0) (fs := [.ref (a + 1), .ref (a + 2), .ref (a + 3), .ref (a + 4), .ref (a + 5), .int (Int32.ofInt 100), .int (Int32.ofInt 20), .int (Int32.ofInt 100), .int (Int32.ofInt 0)]) (v := .int (Int32.ofInt 1)) hx hb hts (pm_uwB (ci := 0) (r := (RX0, TX0, 9)) rfl) tyX0 tyX0_ok nmX0 hown hK hP hS 0 (Nat.le_of_ble_eq_true rfl) rfl rfl 8 (by decide) (hts _ (pm_TB_in (j := 140) (by decide +kernel) rfl)) (fun _ h9 => h9) rfl (ty := tyX0 8) (tyX0_ok 8 (by decide)) rfl rfl (Nat.le_of_ble_eq_true rfl) dX0_init_64 (fun H locs hP hS => ?_)
  refine lv_aload_n hx hb dX0_init_67 rfl (lv_at hl 0 rfl) ?_
  refine cs_get (D := D) (ci := 0) (fs := [.ref (a + 1), .ref (a + 2), .ref (a + 3), .ref (a + 4), .ref (a + 5), .int (Int32.ofInt 100), .int (Int32.ofInt 20), .int (Int32.ofInt 100), .int (Int32.ofInt 1)]) hx hb hts (pm_uwB (ci := 0) (r := (RX0, TX0, 9)) rfl) hown hK hP 0 (Nat.le_of_ble_eq_true rfl) rfl rfl 2 (by decide) (hts _ (pm_TB_in (j := 128) (by decide +kernel) rfl)) (fun _ h9 => h9) rfl dX0_init_68 ?_
  refine lv_sipush (v := Int32.ofInt 200) hx hb dX0_init_71 (by decide) ?_
  refine cs_fill (D := D) (G := G) ⟨hx, hb, hml, hown, hts⟩ hK hP hS 3 (Nat.le_of_ble_eq_true rfl) (N := 12) rfl (by decide) (pm_TB_in (j := 119) (by decide +kernel) rfl) hl.1 (Nat.le_of_ble_eq_true rfl) dX0_init_74 ⟨(Nat.le_of_ble_eq_true rfl), (Nat.le_of_ble_eq_true rfl)⟩ ⟨(Nat.le_of_ble_eq_true rfl), (Nat.le_of_ble_eq_true rfl)⟩ (fun H locs hP hS => ?_)
  refine W.widen (k := 6 - 1) (n := 108) (Nat.le_of_ble_eq_true rfl) (Nat.le_of_ble_eq_true rfl) ?_
  refine W.vret hx hb hr (fun t ht hW => ⟨rfl, ?_, hS.F ht⟩) hS.2.2 dX0_init_77
  rw [ht]
  refine cs_cg (n := 6) hP ?_
  intro i hi
  match i, hi with
  | 0, _ => rfl
  | 1, _ => rfl
  | 2, _ => rfl
  | 3, _ => rfl
  | 4, _ => rfl
  | 5, _ => rfl
  | k + 6, h => exact absurd h (by omega)
theorem dX5_init_0 : decode cX5_init 0 = .ok (.aload_n 0, 1) := by decide +kernel
theorem dX5_init_1 : decode cX5_init 1 = .ok (.invokespecial 1, 3) := by decide +kernel
theorem dX5_init_4 : decode cX5_init 4 = .ok (.aload_n 0, 1) := by decide +kernel
theorem dX5_init_5 : decode cX5_init 5 = .ok (.bipush 10, 2) := by decide +kernel
theorem dX5_init_7 : decode cX5_init 7 = .ok (.newarray .int, 2) := by decide +kernel
theorem dX5_init_9 : decode cX5_init 9 = .ok (.putfield 9, 3) := by decide +kernel
theorem dX5_init_12 : decode cX5_init 12 = .ok (.aload_n 0, 1) := by decide +kernel
theorem dX5_init_13 : decode cX5_init 13 = .ok (.bipush 10, 2) := by decide +kernel
theorem dX5_init_15 : decode cX5_init 15 = .ok (.newarray .int, 2) := by decide +kernel
theorem dX5_init_17 : decode cX5_init 17 = .ok (.putfield 13, 3) := by decide +kernel
theorem dX5_init_20 : decode cX5_init 20 = .ok (.return_, 1) := by decide +kernel
theorem cd_X5 : ∀ j, j < 6 → defaultValue (tyX5 j) = vp_V [.int (Int32.ofInt 0), .int (Int32.ofInt 0), .int (Int32.ofInt 0), .int (Int32.ofInt 0), .null, .null] j := by
  intro j hj
  match j, hj with
  | 0, _ => rfl
  | 1, _ => rfl
  | 2, _ => rfl
  | 3, _ => rfl
  | 4, _ => rfl
  | 5, _ => rfl
  | k + 6, h => exact absurd h (by omega)
set_option maxHeartbeats 4000000 in
set_option maxRecDepth 100000 in
theorem ct_X5 (l : Launch) (D : va_G) (G : pm_G) (a : Nat) : Met l yX5_init (Jvm.Cond.code yX5_init cX5_init 1 none :: pm_TB) ({ frames := 1, cells := 2, slots := 20, locals := 33 }) (cs_Pc D G 5 [.int (Int32.ofInt 0), .int (Int32.ofInt 0), .int (Int32.ofInt 0), .int (Int32.ofInt 0), .null, .null] a) (cs_Qc D 3 (cs_B 43 G a) a) (3 - 1) 20 (cs_A a) := by
  refine Met.ofW (cc := cX5_init) (maxL := 1) (ret := none) (by decide) rfl ?_
  intro p e s m args below meth c s₁ B hml hv
  obtain ⟨rfl, hz, h0, hK, hNW⟩ := hv
  have hx := B.exec
  have hb := B.bytes
  have hr := B.returns
  have hts : ∀ w ∈ pm_TB, w.before #[Value.ref a] s = true := fun w hw => atoms_spec (ws := Jvm.Cond.code yX5_init cX5_init 1 none :: pm_TB) B.pre w (List.mem_cons_of_mem _ hw)
  have hown : s.vm.findClass RX5 = some m.cls := findClass_of_methodNamed B.named
  have hlocks := B.notSynchronized
  have hin : meth.name = "<init>" := (name_of_methodNamed B.named B.method).1
  have hP : cs_P D a 1 (fun _ => .inr (5, [.int (Int32.ofInt 0), .int (Int32.ofInt 0), .int (Int32.ofInt 0), .int (Int32.ofInt 0), .null, .null])) s.heap := ⟨hz, fun i hi => by rw [show i = 0 by omega]; exact h0⟩
  have hS : va_S (cs_A a) s.heap s.heap [] := va_S.rf
  have hl := lv_entry ([.ref a]) (n := 1) (Nat.le_of_ble_eq_true rfl)
  rw [lg_entry_eq]
  generalize (lg_sl ([.ref a]) ++ List.replicate (1 - (lg_sl ([.ref a])).length) Slot.unset).toArray = ls at hl ⊢
  have hl : lv_has ls 1 [(0, .ref (a + 0))] := hl
  refine lv_aload_n hx hb dX5_init_0 rfl (lv_at hl 0 rfl) ?_
  refine W.objInit hx hb hown (hts _ (pm_TB_in (j := 383) (by decide +kernel) rfl)) (hts _ (pm_TB_in (j := 105) (by decide +kernel) rfl)) (hts _ (pm_TB_in (j := 106) (by decide +kernel) rfl)) rfl (by rw [hml]; exact hl.1) rfl dX5_init_1 (Nat.le_of_ble_eq_true rfl) (Nat.le_of_ble_eq_true rfl) ?_
  refine W.eq (g2 := F0 m 4 ls []) rfl ?_
  refine lv_aload_n hx hb dX5_init_4 rfl (lv_at hl 0 rfl) ?_
  refine lv_bipush (v := Int32.ofInt 10) hx hb dX5_init_5 (by decide) ?_
  refine cs_newa (atype := .int) (N' := 10) (x := (10, .inl (fun _ => Int32.ofInt 0))) hx hb (hts (Jvm.Cond.arrayClass .int) (pm_TB_in (j := 161) (by decide +kernel) rfl)) 0 rfl rfl hK hP hS (fun _ => rfl) (by decide) (by decide) (by decide) (Nat.le_of_ble_eq_true rfl) (Nat.le_of_ble_eq_true rfl) dX5_init_7 (fun H hP hS => ?_)
  refine cs_putF (D := D) (ci := 5) (fs := [.int (Int32.ofInt 0), .int (Int32.ofInt 0), .int (Int32.ofInt 0), .int (Int32.ofInt 0), .null, .null]) (v := .ref (a + 1)) hx hb hts (pm_uwB (ci := 5) (r := (RX5, TX5, 6)) rfl) tyX5 tyX5_ok nmX5 hown hK hP hS 0 (Nat.le_of_ble_eq_true rfl) rfl rfl 4 (by decide) (hts _ (pm_TB_in (j := 392) (by decide +kernel) rfl)) (fun _ h9 => h9) rfl hin rfl (ty := tyX5 4) (tyX5_ok 4 (by decide)) rfl rfl (Nat.le_of_ble_eq_true rfl) dX5_init_9 (fun H locs hP hS => ?_)
  refine lv_aload_n hx hb dX5_init_12 rfl (lv_at hl 0 rfl) ?_
  refine lv_bipush (v := Int32.ofInt 10) hx hb dX5_init_13 (by decide) ?_
  refine cs_newa (atype := .int) (N' := 10) (x := (10, .inl (fun _ => Int32.ofInt 0))) hx hb (hts (Jvm.Cond.arrayClass .int) (pm_TB_in (j := 161) (by decide +kernel) rfl)) 0 rfl rfl hK hP hS (fun _ => rfl) (by decide) (by decide) (by decide) (Nat.le_of_ble_eq_true rfl) (Nat.le_of_ble_eq_true rfl) dX5_init_15 (fun H hP hS => ?_)
  refine cs_putF (D := D) (ci := 5) (fs := [.int (Int32.ofInt 0), .int (Int32.ofInt 0), .int (Int32.ofInt 0), .int (Int32.ofInt 0), .ref (a + 1), .null]) (v := .ref (a + 2)) hx hb hts (pm_uwB (ci := 5) (r := (RX5, TX5, 6)) rfl) tyX5 tyX5_ok nmX5 hown hK hP hS 0 (Nat.le_of_ble_eq_true rfl) rfl rfl 5 (by decide) (hts _ (pm_TB_in (j := 394) (by decide +kernel) rfl)) (fun _ h9 => h9) rfl hin rfl (ty := tyX5 5) (tyX5_ok 5 (by decide)) rfl rfl (Nat.le_of_ble_eq_true rfl) dX5_init_17 (fun H locs hP hS => ?_)
  refine W.widen (k := 3 - 1) (n := 20) (Nat.le_of_ble_eq_true rfl) (Nat.le_of_ble_eq_true rfl) ?_
  refine W.vret hx hb hr (fun t ht hW => ⟨rfl, ?_, hS.F ht⟩) hS.2.2 dX5_init_20
  rw [ht]
  refine cs_cg (n := 3) hP ?_
  intro i hi
  match i, hi with
  | 0, _ => rfl
  | 1, _ => rfl
  | 2, _ => rfl
  | k + 3, h => exact absurd h (by omega)
theorem dX6_init_0 : decode cX6_init 0 = .ok (.aload_n 0, 1) := by decide +kernel
theorem dX6_init_1 : decode cX6_init 1 = .ok (.invokespecial 3, 3) := by decide +kernel
theorem dX6_init_4 : decode cX6_init 4 = .ok (.aload_n 0, 1) := by decide +kernel
theorem dX6_init_5 : decode cX6_init 5 = .ok (.bipush 10, 2) := by decide +kernel
theorem dX6_init_7 : decode cX6_init 7 = .ok (.newarray .int, 2) := by decide +kernel
theorem dX6_init_9 : decode cX6_init 9 = .ok (.putfield 9, 3) := by decide +kernel
theorem dX6_init_12 : decode cX6_init 12 = .ok (.aload_n 0, 1) := by decide +kernel
theorem dX6_init_13 : decode cX6_init 13 = .ok (.bipush 10, 2) := by decide +kernel
theorem dX6_init_15 : decode cX6_init 15 = .ok (.newarray .int, 2) := by decide +kernel
theorem dX6_init_17 : decode cX6_init 17 = .ok (.putfield 15, 3) := by decide +kernel
theorem dX6_init_20 : decode cX6_init 20 = .ok (.aload_n 0, 1) := by decide +kernel
theorem dX6_init_21 : decode cX6_init 21 = .ok (.bipush 10, 2) := by decide +kernel
theorem dX6_init_23 : decode cX6_init 23 = .ok (.newarray .int, 2) := by decide +kernel
theorem dX6_init_25 : decode cX6_init 25 = .ok (.putfield 18, 3) := by decide +kernel
theorem dX6_init_28 : decode cX6_init 28 = .ok (.aload_n 0, 1) := by decide +kernel
theorem dX6_init_29 : decode cX6_init 29 = .ok (.bipush 10, 2) := by decide +kernel
theorem dX6_init_31 : decode cX6_init 31 = .ok (.newarray .int, 2) := by decide +kernel
theorem dX6_init_33 : decode cX6_init 33 = .ok (.putfield 21, 3) := by decide +kernel
theorem dX6_init_36 : decode cX6_init 36 = .ok (.aload_n 0, 1) := by decide +kernel
theorem dX6_init_37 : decode cX6_init 37 = .ok (.bipush 10, 2) := by decide +kernel
theorem dX6_init_39 : decode cX6_init 39 = .ok (.newarray .int, 2) := by decide +kernel
theorem dX6_init_41 : decode cX6_init 41 = .ok (.putfield 24, 3) := by decide +kernel
theorem dX6_init_44 : decode cX6_init 44 = .ok (.aload_n 0, 1) := by decide +kernel
theorem dX6_init_45 : decode cX6_init 45 = .ok (.bipush 10, 2) := by decide +kernel
theorem dX6_init_47 : decode cX6_init 47 = .ok (.newarray .int, 2) := by decide +kernel
theorem dX6_init_49 : decode cX6_init 49 = .ok (.putfield 27, 3) := by decide +kernel
theorem dX6_init_52 : decode cX6_init 52 = .ok (.aload_n 0, 1) := by decide +kernel
theorem dX6_init_53 : decode cX6_init 53 = .ok (.bipush 10, 2) := by decide +kernel
theorem dX6_init_55 : decode cX6_init 55 = .ok (.newarray .int, 2) := by decide +kernel
theorem dX6_init_57 : decode cX6_init 57 = .ok (.putfield 30, 3) := by decide +kernel
theorem dX6_init_60 : decode cX6_init 60 = .ok (.aload_n 0, 1) := by decide +kernel
theorem dX6_init_61 : decode cX6_init 61 = .ok (.bipush 10, 2) := by decide +kernel
theorem dX6_init_63 : decode cX6_init 63 = .ok (.newarray .int, 2) := by decide +kernel
theorem dX6_init_65 : decode cX6_init 65 = .ok (.putfield 33, 3) := by decide +kernel
theorem dX6_init_68 : decode cX6_init 68 = .ok (.aload_n 0, 1) := by decide +kernel
theorem dX6_init_69 : decode cX6_init 69 = .ok (.bipush 10, 2) := by decide +kernel
theorem dX6_init_71 : decode cX6_init 71 = .ok (.newarray .int, 2) := by decide +kernel
theorem dX6_init_73 : decode cX6_init 73 = .ok (.putfield 36, 3) := by decide +kernel
theorem dX6_init_76 : decode cX6_init 76 = .ok (.aload_n 0, 1) := by decide +kernel
theorem dX6_init_77 : decode cX6_init 77 = .ok (.bipush 10, 2) := by decide +kernel
theorem dX6_init_79 : decode cX6_init 79 = .ok (.newarray .int, 2) := by decide +kernel
theorem dX6_init_81 : decode cX6_init 81 = .ok (.putfield 39, 3) := by decide +kernel
theorem dX6_init_84 : decode cX6_init 84 = .ok (.return_, 1) := by decide +kernel
theorem cd_X6 : ∀ j, j < 11 → defaultValue (tyX6 j) = vp_V [.null, .null, .null, .null, .null, .null, .null, .null, .null, .null, .int (Int32.ofInt 0)] j := by
  intro j hj
  match j, hj with
  | 0, _ => rfl
  | 1, _ => rfl
  | 2, _ => rfl
  | 3, _ => rfl
  | 4, _ => rfl
  | 5, _ => rfl
  | 6, _ => rfl
  | 7, _ => rfl
  | 8, _ => rfl
  | 9, _ => rfl
  | 10, _ => rfl
  | k + 11, h => exact absurd h (by omega)
set_option maxHeartbeats 4000000 in
set_option maxRecDepth 100000 in
theorem ct_X6 (l : Launch) (D : va_G) (G : pm_G) (a : Nat) : Met l yX6_init (Jvm.Cond.code yX6_init cX6_init 1 none :: pm_TB) ({ frames := 1, cells := 10, slots := 100, locals := 33 }) (cs_Pc D G 6 [.null, .null, .null, .null, .null, .null, .null, .null, .null, .null, .int (Int32.ofInt 0)] a) (cs_Qc D 11 (cs_B 8 G a) a) (11 - 1) 100 (cs_A a) := by
  refine Met.ofW (cc := cX6_init) (maxL := 1) (ret := none) (by decide) rfl ?_
  intro p e s m args below meth c s₁ B hml hv
  obtain ⟨rfl, hz, h0, hK, hNW⟩ := hv
  have hx := B.exec
  have hb := B.bytes
  have hr := B.returns
  have hts : ∀ w ∈ pm_TB, w.before #[Value.ref a] s = true := fun w hw => atoms_spec (ws := Jvm.Cond.code yX6_init cX6_init 1 none :: pm_TB) B.pre w (List.mem_cons_of_mem _ hw)
  have hown : s.vm.findClass RX6 = some m.cls := findClass_of_methodNamed B.named
  have hlocks := B.notSynchronized
  have hin : meth.name = "<init>" := (name_of_methodNamed B.named B.method).1
  have hP : cs_P D a 1 (fun _ => .inr (6, [.null, .null, .null, .null, .null, .null, .null, .null, .null, .null, .int (Int32.ofInt 0)])) s.heap := ⟨hz, fun i hi => by rw [show i = 0 by omega]; exact h0⟩
  have hS : va_S (cs_A a) s.heap s.heap [] := va_S.rf
  have hl := lv_entry ([.ref a]) (n := 1) (Nat.le_of_ble_eq_true rfl)
  rw [lg_entry_eq]
  generalize (lg_sl ([.ref a]) ++ List.replicate (1 - (lg_sl ([.ref a])).length) Slot.unset).toArray = ls at hl ⊢
  have hl : lv_has ls 1 [(0, .ref (a + 0))] := hl
  refine lv_aload_n hx hb dX6_init_0 rfl (lv_at hl 0 rfl) ?_
  refine W.objInit hx hb hown (hts _ (pm_TB_in (j := 167) (by decide +kernel) rfl)) (hts _ (pm_TB_in (j := 105) (by decide +kernel) rfl)) (hts _ (pm_TB_in (j := 106) (by decide +kernel) rfl)) rfl (by rw [hml]; exact hl.1) rfl dX6_init_1 (Nat.le_of_ble_eq_true rfl) (Nat.le_of_ble_eq_true rfl) ?_
  refine W.eq (g2 := F0 m 4 ls []) rfl ?_
  refine lv_aload_n hx hb dX6_init_4 rfl (lv_at hl 0 rfl) ?_
  refine lv_bipush (v := Int32.ofInt 10) hx hb dX6_init_5 (by decide) ?_
  refine cs_newa (atype := .int) (N' := 10) (x := (10, .inl (fun _ => Int32.ofInt 0))) hx hb (hts (Jvm.Cond.arrayClass .int) (pm_TB_in (j := 161) (by decide +kernel) rfl)) 0 rfl rfl hK hP hS (fun _ => rfl) (by decide) (by decide) (by decide) (Nat.le_of_ble_eq_true rfl) (Nat.le_of_ble_eq_true rfl) dX6_init_7 (fun H hP hS => ?_)
  refine cs_putF (D := D) (ci := 6) (fs := [.null, .null, .null, .null, .null, .null, .null, .null, .null, .null, .int (Int32.ofInt 0)]) (v := .ref (a + 1)) hx hb hts (pm_uwB (ci := 6) (r := (RX6, TX6, 11)) rfl) tyX6 tyX6_ok nmX6 hown hK hP hS 0 (Nat.le_of_ble_eq_true rfl) rfl rfl 0 (by decide) (hts _ (pm_TB_in (j := 168) (by decide +kernel) rfl)) (fun _ h9 => h9) rfl hin rfl (ty := tyX6 0) (tyX6_ok 0 (by decide)) rfl rfl (Nat.le_of_ble_eq_true rfl) dX6_init_9 (fun H locs hP hS => ?_)
  refine lv_aload_n hx hb dX6_init_12 rfl (lv_at hl 0 rfl) ?_
  refine lv_bipush (v := Int32.ofInt 10) hx hb dX6_init_13 (by decide) ?_
  refine cs_newa (atype := .int) (N' := 10) (x := (10, .inl (fun _ => Int32.ofInt 0))) hx hb (hts (Jvm.Cond.arrayClass .int) (pm_TB_in (j := 161) (by decide +kernel) rfl)) 0 rfl rfl hK hP hS (fun _ => rfl) (by decide) (by decide) (by decide) (Nat.le_of_ble_eq_true rfl) (Nat.le_of_ble_eq_true rfl) dX6_init_15 (fun H hP hS => ?_)
  refine cs_putF (D := D) (ci := 6) (fs := [.ref (a + 1), .null, .null, .null, .null, .null, .null, .null, .null, .null, .int (Int32.ofInt 0)]) (v := .ref (a + 2)) hx hb hts (pm_uwB (ci := 6) (r := (RX6, TX6, 11)) rfl) tyX6 tyX6_ok nmX6 hown hK hP hS 0 (Nat.le_of_ble_eq_true rfl) rfl rfl 1 (by decide) (hts _ (pm_TB_in (j := 171) (by decide +kernel) rfl)) (fun _ h9 => h9) rfl hin rfl (ty := tyX6 1) (tyX6_ok 1 (by decide)) rfl rfl (Nat.le_of_ble_eq_true rfl) dX6_init_17 (fun H locs hP hS => ?_)
  refine lv_aload_n hx hb dX6_init_20 rfl (lv_at hl 0 rfl) ?_
  refine lv_bipush (v := Int32.ofInt 10) hx hb dX6_init_21 (by decide) ?_
  refine cs_newa (atype := .int) (N' := 10) (x := (10, .inl (fun _ => Int32.ofInt 0))) hx hb (hts (Jvm.Cond.arrayClass .int) (pm_TB_in (j := 161) (by decide +kernel) rfl)) 0 rfl rfl hK hP hS (fun _ => rfl) (by decide) (by decide) (by decide) (Nat.le_of_ble_eq_true rfl) (Nat.le_of_ble_eq_true rfl) dX6_init_23 (fun H hP hS => ?_)
  refine cs_putF (D := D) (ci := 6) (fs := [.ref (a + 1), .ref (a + 2), .null, .null, .null, .null, .null, .null, .null, .null, .int (Int32.ofInt 0)]) (v := .ref (a + 3)) hx hb hts (pm_uwB (ci := 6) (r := (RX6, TX6, 11)) rfl) tyX6 tyX6_ok nmX6 hown hK hP hS 0 (Nat.le_of_ble_eq_true rfl) rfl rfl 2 (by decide) (hts _ (pm_TB_in (j := 172) (by decide +kernel) rfl)) (fun _ h9 => h9) rfl hin rfl (ty := tyX6 2) (tyX6_ok 2 (by decide)) rfl rfl (Nat.le_of_ble_eq_true rfl) dX6_init_25 (fun H locs hP hS => ?_)
  refine lv_aload_n hx hb dX6_init_28 rfl (lv_at hl 0 rfl) ?_
  refine lv_bipush (v := Int32.ofInt 10) hx hb dX6_init_29 (by decide) ?_
  refine cs_newa (atype := .int) (N' := 10) (x := (10, .inl (fun _ => Int32.ofInt 0))) hx hb (hts (Jvm.Cond.arrayClass .int) (pm_TB_in (j := 161) (by decide +kernel) rfl)) 0 rfl rfl hK hP hS (fun _ => rfl) (by decide) (by decide) (by decide) (Nat.le_of_ble_eq_true rfl) (Nat.le_of_ble_eq_true rfl) dX6_init_31 (fun H hP hS => ?_)
  refine cs_putF (D := D) (ci := 6) (fs := [.ref (a + 1), .ref (a + 2), .ref (a + 3), .null, .null, .null, .null, .null, .null, .null, .int (Int32.ofInt 0)]) (v := .ref (a + 4)) hx hb hts (pm_uwB (ci := 6) (r := (RX6, TX6, 11)) rfl) tyX6 tyX6_ok nmX6 hown hK hP hS 0 (Nat.le_of_ble_eq_true rfl) rfl rfl 3 (by decide) (hts _ (pm_TB_in (j := 173) (by decide +kernel) rfl)) (fun _ h9 => h9) rfl hin rfl (ty := tyX6 3) (tyX6_ok 3 (by decide)) rfl rfl (Nat.le_of_ble_eq_true rfl) dX6_init_33 (fun H locs hP hS => ?_)
  refine lv_aload_n hx hb dX6_init_36 rfl (lv_at hl 0 rfl) ?_
  refine lv_bipush (v := Int32.ofInt 10) hx hb dX6_init_37 (by decide) ?_
  refine cs_newa (atype := .int) (N' := 10) (x := (10, .inl (fun _ => Int32.ofInt 0))) hx hb (hts (Jvm.Cond.arrayClass .int) (pm_TB_in (j := 161) (by decide +kernel) rfl)) 0 rfl rfl hK hP hS (fun _ => rfl) (by decide) (by decide) (by decide) (Nat.le_of_ble_eq_true rfl) (Nat.le_of_ble_eq_true rfl) dX6_init_39 (fun H hP hS => ?_)
  refine cs_putF (D := D) (ci := 6) (fs := [.ref (a + 1), .ref (a + 2), .ref (a + 3), .ref (a + 4), .null, .null, .null, .null, .null, .null, .int (Int32.ofInt 0)]) (v := .ref (a + 5)) hx hb hts (pm_uwB (ci := 6) (r := (RX6, TX6, 11)) rfl) tyX6 tyX6_ok nmX6 hown hK hP hS 0 (Nat.le_of_ble_eq_true rfl) rfl rfl 4 (by decide) (hts _ (pm_TB_in (j := 175) (by decide +kernel) rfl)) (fun _ h9 => h9) rfl hin rfl (ty := tyX6 4) (tyX6_ok 4 (by decide)) rfl rfl (Nat.le_of_ble_eq_true rfl) dX6_init_41 (fun H locs hP hS => ?_)
  refine lv_aload_n hx hb dX6_init_44 rfl (lv_at hl 0 rfl) ?_
  refine lv_bipush (v := Int32.ofInt 10) hx hb dX6_init_45 (by decide) ?_
  refine cs_newa (atype := .int) (N' := 10) (x := (10, .inl (fun _ => Int32.ofInt 0))) hx hb (hts (Jvm.Cond.arrayClass .int) (pm_TB_in (j := 161) (by decide +kernel) rfl)) 0 rfl rfl hK hP hS (fun _ => rfl) (by decide) (by decide) (by decide) (Nat.le_of_ble_eq_true rfl) (Nat.le_of_ble_eq_true rfl) dX6_init_47 (fun H hP hS => ?_)
  refine cs_putF (D := D) (ci := 6) (fs := [.ref (a + 1), .ref (a + 2), .ref (a + 3), .ref (a + 4), .ref (a + 5), .null, .null, .null, .null, .null, .int (Int32.ofInt 0)]) (v := .ref (a + 6)) hx hb hts (pm_uwB (ci := 6) (r := (RX6, TX6, 11)) rfl) tyX6 tyX6_ok nmX6 hown hK hP hS 0 (Nat.le_of_ble_eq_true rfl) rfl rfl 5 (by decide) (hts _ (pm_TB_in (j := 177) (by decide +kernel) rfl)) (fun _ h9 => h9) rfl hin rfl (ty := tyX6 5) (tyX6_ok 5 (by decide)) rfl rfl (Nat.le_of_ble_eq_true rfl) dX6_init_49 (fun H locs hP hS => ?_)
  refine lv_aload_n hx hb dX6_init_52 rfl (lv_at hl 0 rfl) ?_
  refine lv_bipush (v := Int32.ofInt 10) hx hb dX6_init_53 (by decide) ?_
  refine cs_newa (atype := .int) (N' := 10) (x := (10, .inl (fun _ => Int32.ofInt 0))) hx hb (hts (Jvm.Cond.arrayClass .int) (pm_TB_in (j := 161) (by decide +kernel) rfl)) 0 rfl rfl hK hP hS (fun _ => rfl) (by decide) (by decide) (by decide) (Nat.le_of_ble_eq_true rfl) (Nat.le_of_ble_eq_true rfl) dX6_init_55 (fun H hP hS => ?_)
  refine cs_putF (D := D) (ci := 6) (fs := [.ref (a + 1), .ref (a + 2), .ref (a + 3), .ref (a + 4), .ref (a + 5), .ref (a + 6), .null, .null, .null, .null, .int (Int32.ofInt 0)]) (v := .ref (a + 7)) hx hb hts (pm_uwB (ci := 6) (r := (RX6, TX6, 11)) rfl) tyX6 tyX6_ok nmX6 hown hK hP hS 0 (Nat.le_of_ble_eq_true rfl) rfl rfl 6 (by decide) (hts _ (pm_TB_in (j := 179) (by decide +kernel) rfl)) (fun _ h9 => h9) rfl hin rfl (ty := tyX6 6) (tyX6_ok 6 (by decide)) rfl rfl (Nat.le_of_ble_eq_true rfl) dX6_init_57 (fun H locs hP hS => ?_)
  refine lv_aload_n hx hb dX6_init_60 rfl (lv_at hl 0 rfl) ?_
  refine lv_bipush (v := Int32.ofInt 10) hx hb dX6_init_61 (by decide) ?_
  refine cs_newa (atype := .int) (N' := 10) (x := (10, .inl (fun _ => Int32.ofInt 0))) hx hb (hts (Jvm.Cond.arrayClass .int) (pm_TB_in (j := 161) (by decide +kernel) rfl)) 0 rfl rfl hK hP hS (fun _ => rfl) (by decide) (by decide) (by decide) (Nat.le_of_ble_eq_true rfl) (Nat.le_of_ble_eq_true rfl) dX6_init_63 (fun H hP hS => ?_)
  refine cs_putF (D := D) (ci := 6) (fs := [.ref (a + 1), .ref (a + 2), .ref (a + 3), .ref (a + 4), .ref (a + 5), .ref (a + 6), .ref (a + 7), .null, .null, .null, .int (Int32.ofInt 0)]) (v := .ref (a + 8)) hx hb hts (pm_uwB (ci := 6) (r := (RX6, TX6, 11)) rfl) tyX6 tyX6_ok nmX6 hown hK hP hS 0 (Nat.le_of_ble_eq_true rfl) rfl rfl 7 (by decide) (hts _ (pm_TB_in (j := 181) (by decide +kernel) rfl)) (fun _ h9 => h9) rfl hin rfl (ty := tyX6 7) (tyX6_ok 7 (by decide)) rfl rfl (Nat.le_of_ble_eq_true rfl) dX6_init_65 (fun H locs hP hS => ?_)
  refine lv_aload_n hx hb dX6_init_68 rfl (lv_at hl 0 rfl) ?_
  refine lv_bipush (v := Int32.ofInt 10) hx hb dX6_init_69 (by decide) ?_
  refine cs_newa (atype := .int) (N' := 10) (x := (10, .inl (fun _ => Int32.ofInt 0))) hx hb (hts (Jvm.Cond.arrayClass .int) (pm_TB_in (j := 161) (by decide +kernel) rfl)) 0 rfl rfl hK hP hS (fun _ => rfl) (by decide) (by decide) (by decide) (Nat.le_of_ble_eq_true rfl) (Nat.le_of_ble_eq_true rfl) dX6_init_71 (fun H hP hS => ?_)
  refine cs_putF (D := D) (ci := 6) (fs := [.ref (a + 1), .ref (a + 2), .ref (a + 3), .ref (a + 4), .ref (a + 5), .ref (a + 6), .ref (a + 7), .ref (a + 8), .null, .null, .int (Int32.ofInt 0)]) (v := .ref (a + 9)) hx hb hts (pm_uwB (ci := 6) (r := (RX6, TX6, 11)) rfl) tyX6 tyX6_ok nmX6 hown hK hP hS 0 (Nat.le_of_ble_eq_true rfl) rfl rfl 8 (by decide) (hts _ (pm_TB_in (j := 183) (by decide +kernel) rfl)) (fun _ h9 => h9) rfl hin rfl (ty := tyX6 8) (tyX6_ok 8 (by decide)) rfl rfl (Nat.le_of_ble_eq_true rfl) dX6_init_73 (fun H locs hP hS => ?_)
  refine lv_aload_n hx hb dX6_init_76 rfl (lv_at hl 0 rfl) ?_
  refine lv_bipush (v := Int32.ofInt 10) hx hb dX6_init_77 (by decide) ?_
  refine cs_newa (atype := .int) (N' := 10) (x := (10, .inl (fun _ => Int32.ofInt 0))) hx hb (hts (Jvm.Cond.arrayClass .int) (pm_TB_in (j := 161) (by decide +kernel) rfl)) 0 rfl rfl hK hP hS (fun _ => rfl) (by decide) (by decide) (by decide) (Nat.le_of_ble_eq_true rfl) (Nat.le_of_ble_eq_true rfl) dX6_init_79 (fun H hP hS => ?_)
  refine cs_putF (D := D) (ci := 6) (fs := [.ref (a + 1), .ref (a + 2), .ref (a + 3), .ref (a + 4), .ref (a + 5), .ref (a + 6), .ref (a + 7), .ref (a + 8), .ref (a + 9), .null, .int (Int32.ofInt 0)]) (v := .ref (a + 10)) hx hb hts (pm_uwB (ci := 6) (r := (RX6, TX6, 11)) rfl) tyX6 tyX6_ok nmX6 hown hK hP hS 0 (Nat.le_of_ble_eq_true rfl) rfl rfl 9 (by decide) (hts _ (pm_TB_in (j := 185) (by decide +kernel) rfl)) (fun _ h9 => h9) rfl hin rfl (ty := tyX6 9) (tyX6_ok 9 (by decide)) rfl rfl (Nat.le_of_ble_eq_true rfl) dX6_init_81 (fun H locs hP hS => ?_)
  refine W.widen (k := 11 - 1) (n := 100) (Nat.le_of_ble_eq_true rfl) (Nat.le_of_ble_eq_true rfl) ?_
  refine W.vret hx hb hr (fun t ht hW => ⟨rfl, ?_, hS.F ht⟩) hS.2.2 dX6_init_84
  rw [ht]
  refine cs_cg (n := 11) hP ?_
  intro i hi
  match i, hi with
  | 0, _ => rfl
  | 1, _ => rfl
  | 2, _ => rfl
  | 3, _ => rfl
  | 4, _ => rfl
  | 5, _ => rfl
  | 6, _ => rfl
  | 7, _ => rfl
  | 8, _ => rfl
  | 9, _ => rfl
  | 10, _ => rfl
  | k + 11, h => exact absurd h (by omega)
theorem dX8_init_0 : decode cX8_init 0 = .ok (.aload_n 0, 1) := by decide +kernel
theorem dX8_init_1 : decode cX8_init 1 = .ok (.invokespecial 3, 3) := by decide +kernel
theorem dX8_init_4 : decode cX8_init 4 = .ok (.aload_n 0, 1) := by decide +kernel
theorem dX8_init_5 : decode cX8_init 5 = .ok (.iconst 4, 1) := by decide +kernel
theorem dX8_init_6 : decode cX8_init 6 = .ok (.newarray .int, 2) := by decide +kernel
theorem dX8_init_8 : decode cX8_init 8 = .ok (.putfield 9, 3) := by decide +kernel
theorem dX8_init_11 : decode cX8_init 11 = .ok (.aload_n 0, 1) := by decide +kernel
theorem dX8_init_12 : decode cX8_init 12 = .ok (.bipush 24, 2) := by decide +kernel
theorem dX8_init_14 : decode cX8_init 14 = .ok (.newarray .int, 2) := by decide +kernel
theorem dX8_init_16 : decode cX8_init 16 = .ok (.putfield 15, 3) := by decide +kernel
theorem dX8_init_19 : decode cX8_init 19 = .ok (.aload_n 0, 1) := by decide +kernel
theorem dX8_init_20 : decode cX8_init 20 = .ok (.ldc 18, 2) := by decide +kernel
theorem dX8_init_22 : decode cX8_init 22 = .ok (.putfield 19, 3) := by decide +kernel
theorem dX8_init_25 : decode cX8_init 25 = .ok (.aload_n 0, 1) := by decide +kernel
theorem dX8_init_26 : decode cX8_init 26 = .ok (.bipush 50, 2) := by decide +kernel
theorem dX8_init_28 : decode cX8_init 28 = .ok (.putfield 23, 3) := by decide +kernel
theorem dX8_init_31 : decode cX8_init 31 = .ok (.aload_n 0, 1) := by decide +kernel
theorem dX8_init_32 : decode cX8_init 32 = .ok (.getfield 9, 3) := by decide +kernel
theorem dX8_init_35 : decode cX8_init 35 = .ok (.sipush 10000, 3) := by decide +kernel
theorem dX8_init_38 : decode cX8_init 38 = .ok (.invokestatic 26, 3) := by decide +kernel
theorem dX8_init_41 : decode cX8_init 41 = .ok (.aload_n 0, 1) := by decide +kernel
theorem dX8_init_42 : decode cX8_init 42 = .ok (.getfield 15, 3) := by decide +kernel
theorem dX8_init_45 : decode cX8_init 45 = .ok (.bipush 10, 2) := by decide +kernel
theorem dX8_init_47 : decode cX8_init 47 = .ok (.invokestatic 26, 3) := by decide +kernel
theorem dX8_init_50 : decode cX8_init 50 = .ok (.return_, 1) := by decide +kernel
theorem cd_X8 : ∀ j, j < 9 → defaultValue (tyX8 j) = vp_V [.null, .null, .int (Int32.ofInt 0), .int (Int32.ofInt 0), .int (Int32.ofInt 0), .int (Int32.ofInt 0), .int (Int32.ofInt 0), .int (Int32.ofInt 0), .long (Int64.ofInt 0)] j := by
  intro j hj
  match j, hj with
  | 0, _ => rfl
  | 1, _ => rfl
  | 2, _ => rfl
  | 3, _ => rfl
  | 4, _ => rfl
  | 5, _ => rfl
  | 6, _ => rfl
  | 7, _ => rfl
  | 8, _ => rfl
  | k + 9, h => exact absurd h (by omega)
set_option maxHeartbeats 4000000 in
set_option maxRecDepth 100000 in
theorem ct_X8 (l : Launch) (D : va_G) (G : pm_G) (a : Nat) : Met l yX8_init (Jvm.Cond.code yX8_init cX8_init 1 none :: pm_TB) ({ frames := 1, cells := 2, slots := 28, locals := 33 }) (cs_Pc D G 8 [.null, .null, .int (Int32.ofInt 0), .int (Int32.ofInt 0), .int (Int32.ofInt 0), .int (Int32.ofInt 0), .int (Int32.ofInt 0), .int (Int32.ofInt 0), .long (Int64.ofInt 0)] a) (cs_Qc D 3 (cs_B 19 G a) a) (3 - 1) 28 (cs_A a) := by
  refine Met.ofW (cc := cX8_init) (maxL := 1) (ret := none) (by decide) rfl ?_
  intro p e s m args below meth c s₁ B hml hv
  obtain ⟨rfl, hz, h0, hK, hNW⟩ := hv
  have hx := B.exec
  have hb := B.bytes
  have hr := B.returns
  have hts : ∀ w ∈ pm_TB, w.before #[Value.ref a] s = true := fun w hw => atoms_spec (ws := Jvm.Cond.code yX8_init cX8_init 1 none :: pm_TB) B.pre w (List.mem_cons_of_mem _ hw)
  have hown : s.vm.findClass RX8 = some m.cls := findClass_of_methodNamed B.named
  have hlocks := B.notSynchronized
  have hin : meth.name = "<init>" := (name_of_methodNamed B.named B.method).1
  have hP : cs_P D a 1 (fun _ => .inr (8, [.null, .null, .int (Int32.ofInt 0), .int (Int32.ofInt 0), .int (Int32.ofInt 0), .int (Int32.ofInt 0), .int (Int32.ofInt 0), .int (Int32.ofInt 0), .long (Int64.ofInt 0)])) s.heap := ⟨hz, fun i hi => by rw [show i = 0 by omega]; exact h0⟩
  have hS : va_S (cs_A a) s.heap s.heap [] := va_S.rf
  have hl := lv_entry ([.ref a]) (n := 1) (Nat.le_of_ble_eq_true rfl)
  rw [lg_entry_eq]
  generalize (lg_sl ([.ref a]) ++ List.replicate (1 - (lg_sl ([.ref a])).length) Slot.unset).toArray = ls at hl ⊢
  have hl : lv_has ls 1 [(0, .ref (a + 0))] := hl
  refine lv_aload_n hx hb dX8_init_0 rfl (lv_at hl 0 rfl) ?_
  refine W.objInit hx hb hown (hts _ (pm_TB_in (j := 219) (by decide +kernel) rfl)) (hts _ (pm_TB_in (j := 105) (by decide +kernel) rfl)) (hts _ (pm_TB_in (j := 106) (by decide +kernel) rfl)) rfl (by rw [hml]; exact hl.1) rfl dX8_init_1 (Nat.le_of_ble_eq_true rfl) (Nat.le_of_ble_eq_true rfl) ?_
  refine W.eq (g2 := F0 m 4 ls []) rfl ?_
  refine lv_aload_n hx hb dX8_init_4 rfl (lv_at hl 0 rfl) ?_
  refine lv_iconst (v := Int32.ofInt 4) hx hb dX8_init_5 (by decide) ?_
  refine cs_newa (atype := .int) (N' := 4) (x := (4, .inl (fun _ => Int32.ofInt 0))) hx hb (hts (Jvm.Cond.arrayClass .int) (pm_TB_in (j := 161) (by decide +kernel) rfl)) 0 rfl rfl hK hP hS (fun _ => rfl) (by decide) (by decide) (by decide) (Nat.le_of_ble_eq_true rfl) (Nat.le_of_ble_eq_true rfl) dX8_init_6 (fun H hP hS => ?_)
  refine cs_putF (D := D) (ci := 8) (fs := [.null, .null, .int (Int32.ofInt 0), .int (Int32.ofInt 0), .int (Int32.ofInt 0), .int (Int32.ofInt 0), .int (Int32.ofInt 0), .int (Int32.ofInt 0), .long (Int64.ofInt 0)]) (v := .ref (a + 1)) hx hb hts (pm_uwB (ci := 8) (r := (RX8, TX8, 9)) rfl) tyX8 tyX8_ok nmX8 hown hK hP hS 0 (Nat.le_of_ble_eq_true rfl) rfl rfl 0 (by decide) (hts _ (pm_TB_in (j := 222) (by decide +kernel) rfl)) (fun _ h9 => h9) rfl hin rfl (ty := tyX8 0) (tyX8_ok 0 (by decide)) rfl rfl (Nat.le_of_ble_eq_true rfl) dX8_init_8 (fun H locs hP hS => ?_)
  refine lv_aload_n hx hb dX8_init_11 rfl (lv_at hl 0 rfl) ?_
  refine lv_bipush (v := Int32.ofInt 24) hx hb dX8_init_12 (by decide) ?_
  refine cs_newa (atype := .int) (N' := 24) (x := (24, .inl (fun _ => Int32.ofInt 0))) hx hb (hts (Jvm.Cond.arrayClass .int) (pm_TB_in (j := 161) (by decide +kernel) rfl)) 0 rfl rfl hK hP hS (fun _ => rfl) (by decide) (by decide) (by decide) (Nat.le_of_ble_eq_true rfl) (Nat.le_of_ble_eq_true rfl) dX8_init_14 (fun H hP hS => ?_)
  refine cs_putF (D := D) (ci := 8) (fs := [.ref (a + 1), .null, .int (Int32.ofInt 0), .int (Int32.ofInt 0), .int (Int32.ofInt 0), .int (Int32.ofInt 0), .int (Int32.ofInt 0), .int (Int32.ofInt 0), .long (Int64.ofInt 0)]) (v := .ref (a + 2)) hx hb hts (pm_uwB (ci := 8) (r := (RX8, TX8, 9)) rfl) tyX8 tyX8_ok nmX8 hown hK hP hS 0 (Nat.le_of_ble_eq_true rfl) rfl rfl 1 (by decide) (hts _ (pm_TB_in (j := 225) (by decide +kernel) rfl)) (fun _ h9 => h9) rfl hin rfl (ty := tyX8 1) (tyX8_ok 1 (by decide)) rfl rfl (Nat.le_of_ble_eq_true rfl) dX8_init_16 (fun H locs hP hS => ?_)
  refine lv_aload_n hx hb dX8_init_19 rfl (lv_at hl 0 rfl) ?_
  refine lv_ldc (own := RX8) (v := Int32.ofInt 100000) hx hb hown (hts _ (pm_TB_in (j := 220) (by decide +kernel) rfl)) dX8_init_20 ?_
  refine cs_put (D := D) (ci := 8) (fs := [.ref (a + 1), .ref (a + 2), .int (Int32.ofInt 0), .int (Int32.ofInt 0), .int (Int32.ofInt 0), .int (Int32.ofInt 0), .int (Int32.ofInt 0), .int (Int32.ofInt 0), .long (Int64.ofInt 0)]) (v := .int (Int32.ofInt 100000)) hx hb hts (pm_uwB (ci := 8) (r := (RX8, TX8, 9)) rfl) tyX8 tyX8_ok nmX8 hown hK hP hS 0 (Nat.le_of_ble_eq_true rfl) rfl rfl 2 (by decide) (hts _ (pm_TB_in (j := 227) (by decide +kernel) rfl)) (fun _ h9 => h9) rfl (ty := tyX8 2) (tyX8_ok 2 (by decide)) rfl rfl (Nat.le_of_ble_eq_true rfl) dX8_init_22 (fun H locs hP hS => ?_)
  refine lv_aload_n hx hb dX8_init_25 rfl (lv_at hl 0 rfl) ?_
  refine lv_bipush (v := Int32.ofInt 50) hx hb dX8_init_26 (by decide) ?_
  refine cs_put (D := D) (ci := 8) (fs := [.ref (a + 1), .ref (a + 2), .int (Int32.ofInt 100000), .int (Int32.ofInt 0), .int (Int32.ofInt 0), .int (Int32.ofInt 0), .int (Int32.ofInt 0), .int (Int32.ofInt 0), .long (Int64.ofInt 0)]) (v := .int (Int32.ofInt 50)) hx hb hts (pm_uwB (ci := 8) (r := (RX8, TX8, 9)) rfl) tyX8 tyX8_ok nmX8 hown hK hP hS 0 (Nat.le_of_ble_eq_true rfl) rfl rfl 5 (by decide) (hts _ (pm_TB_in (j := 235) (by decide +kernel) rfl)) (fun _ h9 => h9) rfl (ty := tyX8 5) (tyX8_ok 5 (by decide)) rfl rfl (Nat.le_of_ble_eq_true rfl) dX8_init_28 (fun H locs hP hS => ?_)
  refine lv_aload_n hx hb dX8_init_31 rfl (lv_at hl 0 rfl) ?_
  refine cs_get (D := D) (ci := 8) (fs := [.ref (a + 1), .ref (a + 2), .int (Int32.ofInt 100000), .int (Int32.ofInt 0), .int (Int32.ofInt 0), .int (Int32.ofInt 50), .int (Int32.ofInt 0), .int (Int32.ofInt 0), .long (Int64.ofInt 0)]) hx hb hts (pm_uwB (ci := 8) (r := (RX8, TX8, 9)) rfl) hown hK hP 0 (Nat.le_of_ble_eq_true rfl) rfl rfl 0 (by decide) (hts _ (pm_TB_in (j := 222) (by decide +kernel) rfl)) (fun _ h9 => h9) rfl dX8_init_32 ?_
  refine lv_sipush (v := Int32.ofInt 10000) hx hb dX8_init_35 (by decide) ?_
  refine cs_fill (D := D) (G := G) ⟨hx, hb, hml, hown, hts⟩ hK hP hS 1 (Nat.le_of_ble_eq_true rfl) (N := 4) rfl (by decide) (pm_TB_in (j := 221) (by decide +kernel) rfl) hl.1 (Nat.le_of_ble_eq_true rfl) dX8_init_38 ⟨(Nat.le_of_ble_eq_true rfl), (Nat.le_of_ble_eq_true rfl)⟩ ⟨(Nat.le_of_ble_eq_true rfl), (Nat.le_of_ble_eq_true rfl)⟩ (fun H locs hP hS => ?_)
  refine lv_aload_n hx hb dX8_init_41 rfl (lv_at hl 0 rfl) ?_
  refine cs_get (D := D) (ci := 8) (fs := [.ref (a + 1), .ref (a + 2), .int (Int32.ofInt 100000), .int (Int32.ofInt 0), .int (Int32.ofInt 0), .int (Int32.ofInt 50), .int (Int32.ofInt 0), .int (Int32.ofInt 0), .long (Int64.ofInt 0)]) hx hb hts (pm_uwB (ci := 8) (r := (RX8, TX8, 9)) rfl) hown hK hP 0 (Nat.le_of_ble_eq_true rfl) rfl rfl 1 (by decide) (hts _ (pm_TB_in (j := 225) (by decide +kernel) rfl)) (fun _ h9 => h9) rfl dX8_init_42 ?_
  refine lv_bipush (v := Int32.ofInt 10) hx hb dX8_init_45 (by decide) ?_
  refine cs_fill (D := D) (G := G) ⟨hx, hb, hml, hown, hts⟩ hK hP hS 2 (Nat.le_of_ble_eq_true rfl) (N := 24) rfl (by decide) (pm_TB_in (j := 221) (by decide +kernel) rfl) hl.1 (Nat.le_of_ble_eq_true rfl) dX8_init_47 ⟨(Nat.le_of_ble_eq_true rfl), (Nat.le_of_ble_eq_true rfl)⟩ ⟨(Nat.le_of_ble_eq_true rfl), (Nat.le_of_ble_eq_true rfl)⟩ (fun H locs hP hS => ?_)
  refine W.widen (k := 3 - 1) (n := 28) (Nat.le_of_ble_eq_true rfl) (Nat.le_of_ble_eq_true rfl) ?_
  refine W.vret hx hb hr (fun t ht hW => ⟨rfl, ?_, hS.F ht⟩) hS.2.2 dX8_init_50
  rw [ht]
  refine cs_cg (n := 3) hP ?_
  intro i hi
  match i, hi with
  | 0, _ => rfl
  | 1, _ => rfl
  | 2, _ => rfl
  | k + 3, h => exact absurd h (by omega)
theorem dX9_init_0 : decode cX9_init 0 = .ok (.aload_n 0, 1) := by decide +kernel
theorem dX9_init_1 : decode cX9_init 1 = .ok (.invokespecial 3, 3) := by decide +kernel
theorem dX9_init_4 : decode cX9_init 4 = .ok (.aload_n 0, 1) := by decide +kernel
theorem dX9_init_5 : decode cX9_init 5 = .ok (.bipush 60, 2) := by decide +kernel
theorem dX9_init_7 : decode cX9_init 7 = .ok (.newarray .int, 2) := by decide +kernel
theorem dX9_init_9 : decode cX9_init 9 = .ok (.putfield 11, 3) := by decide +kernel
theorem dX9_init_12 : decode cX9_init 12 = .ok (.aload_n 0, 1) := by decide +kernel
theorem dX9_init_13 : decode cX9_init 13 = .ok (.bipush 60, 2) := by decide +kernel
theorem dX9_init_15 : decode cX9_init 15 = .ok (.newarray .int, 2) := by decide +kernel
theorem dX9_init_17 : decode cX9_init 17 = .ok (.putfield 15, 3) := by decide +kernel
theorem dX9_init_20 : decode cX9_init 20 = .ok (.aload_n 0, 1) := by decide +kernel
theorem dX9_init_21 : decode cX9_init 21 = .ok (.bipush 60, 2) := by decide +kernel
theorem dX9_init_23 : decode cX9_init 23 = .ok (.newarray .int, 2) := by decide +kernel
theorem dX9_init_25 : decode cX9_init 25 = .ok (.putfield 18, 3) := by decide +kernel
theorem dX9_init_28 : decode cX9_init 28 = .ok (.aload_n 0, 1) := by decide +kernel
theorem dX9_init_29 : decode cX9_init 29 = .ok (.bipush 60, 2) := by decide +kernel
theorem dX9_init_31 : decode cX9_init 31 = .ok (.newarray .long, 2) := by decide +kernel
theorem dX9_init_33 : decode cX9_init 33 = .ok (.putfield 21, 3) := by decide +kernel
theorem dX9_init_36 : decode cX9_init 36 = .ok (.aload_n 0, 1) := by decide +kernel
theorem dX9_init_37 : decode cX9_init 37 = .ok (.iconst 1, 1) := by decide +kernel
theorem dX9_init_38 : decode cX9_init 38 = .ok (.putfield 25, 3) := by decide +kernel
theorem dX9_init_41 : decode cX9_init 41 = .ok (.return_, 1) := by decide +kernel
theorem cd_X9 : ∀ j, j < 13 → defaultValue (tyX9 j) = vp_V [.null, .null, .null, .null, .int (Int32.ofInt 0), .int (Int32.ofInt 0), .int (Int32.ofInt 0), .int (Int32.ofInt 0), .int (Int32.ofInt 0), .int (Int32.ofInt 0), .int (Int32.ofInt 0), .int (Int32.ofInt 0), .int (Int32.ofInt 0)] j := by
  intro j hj
  match j, hj with
  | 0, _ => rfl
  | 1, _ => rfl
  | 2, _ => rfl
  | 3, _ => rfl
  | 4, _ => rfl
  | 5, _ => rfl
  | 6, _ => rfl
  | 7, _ => rfl
  | 8, _ => rfl
  | 9, _ => rfl
  | 10, _ => rfl
  | 11, _ => rfl
  | 12, _ => rfl
  | k + 13, h => exact absurd h (by omega)
set_option maxHeartbeats 4000000 in
set_option maxRecDepth 100000 in
theorem ct_X9 (l : Launch) (D : va_G) (G : pm_G) (a : Nat) : Met l yX9_init (Jvm.Cond.code yX9_init cX9_init 1 none :: pm_TB) ({ frames := 1, cells := 4, slots := 240, locals := 33 }) (cs_Pc D G 9 [.null, .null, .null, .null, .int (Int32.ofInt 0), .int (Int32.ofInt 0), .int (Int32.ofInt 0), .int (Int32.ofInt 0), .int (Int32.ofInt 0), .int (Int32.ofInt 0), .int (Int32.ofInt 0), .int (Int32.ofInt 0), .int (Int32.ofInt 0)] a) (cs_Qc D 5 (cs_B 38 G a) a) (5 - 1) 240 (cs_A a) := by
  refine Met.ofW (cc := cX9_init) (maxL := 1) (ret := none) (by decide) rfl ?_
  intro p e s m args below meth c s₁ B hml hv
  obtain ⟨rfl, hz, h0, hK, hNW⟩ := hv
  have hx := B.exec
  have hb := B.bytes
  have hr := B.returns
  have hts : ∀ w ∈ pm_TB, w.before #[Value.ref a] s = true := fun w hw => atoms_spec (ws := Jvm.Cond.code yX9_init cX9_init 1 none :: pm_TB) B.pre w (List.mem_cons_of_mem _ hw)
  have hown : s.vm.findClass RX9 = some m.cls := findClass_of_methodNamed B.named
  have hlocks := B.notSynchronized
  have hin : meth.name = "<init>" := (name_of_methodNamed B.named B.method).1
  have hP : cs_P D a 1 (fun _ => .inr (9, [.null, .null, .null, .null, .int (Int32.ofInt 0), .int (Int32.ofInt 0), .int (Int32.ofInt 0), .int (Int32.ofInt 0), .int (Int32.ofInt 0), .int (Int32.ofInt 0), .int (Int32.ofInt 0), .int (Int32.ofInt 0), .int (Int32.ofInt 0)])) s.heap := ⟨hz, fun i hi => by rw [show i = 0 by omega]; exact h0⟩
  have hS : va_S (cs_A a) s.heap s.heap [] := va_S.rf
  have hl := lv_entry ([.ref a]) (n := 1) (Nat.le_of_ble_eq_true rfl)
  rw [lg_entry_eq]
  generalize (lg_sl ([.ref a]) ++ List.replicate (1 - (lg_sl ([.ref a])).length) Slot.unset).toArray = ls at hl ⊢
  have hl : lv_has ls 1 [(0, .ref (a + 0))] := hl
  refine lv_aload_n hx hb dX9_init_0 rfl (lv_at hl 0 rfl) ?_
  refine W.objInit hx hb hown (hts _ (pm_TB_in (j := 333) (by decide +kernel) rfl)) (hts _ (pm_TB_in (j := 105) (by decide +kernel) rfl)) (hts _ (pm_TB_in (j := 106) (by decide +kernel) rfl)) rfl (by rw [hml]; exact hl.1) rfl dX9_init_1 (Nat.le_of_ble_eq_true rfl) (Nat.le_of_ble_eq_true rfl) ?_
  refine W.eq (g2 := F0 m 4 ls []) rfl ?_
  refine lv_aload_n hx hb dX9_init_4 rfl (lv_at hl 0 rfl) ?_
  refine lv_bipush (v := Int32.ofInt 60) hx hb dX9_init_5 (by decide) ?_
  refine cs_newa (atype := .int) (N' := 60) (x := (60, .inl (fun _ => Int32.ofInt 0))) hx hb (hts (Jvm.Cond.arrayClass .int) (pm_TB_in (j := 161) (by decide +kernel) rfl)) 0 rfl rfl hK hP hS (fun _ => rfl) (by decide) (by decide) (by decide) (Nat.le_of_ble_eq_true rfl) (Nat.le_of_ble_eq_true rfl) dX9_init_7 (fun H hP hS => ?_)
  refine cs_putF (D := D) (ci := 9) (fs := [.null, .null, .null, .null, .int (Int32.ofInt 0), .int (Int32.ofInt 0), .int (Int32.ofInt 0), .int (Int32.ofInt 0), .int (Int32.ofInt 0), .int (Int32.ofInt 0), .int (Int32.ofInt 0), .int (Int32.ofInt 0), .int (Int32.ofInt 0)]) (v := .ref (a + 1)) hx hb hts (pm_uwB (ci := 9) (r := (RX9, TX9, 13)) rfl) tyX9 tyX9_ok nmX9 hown hK hP hS 0 (Nat.le_of_ble_eq_true rfl) rfl rfl 0 (by decide) (hts _ (pm_TB_in (j := 334) (by decide +kernel) rfl)) (fun _ h9 => h9) rfl hin rfl (ty := tyX9 0) (tyX9_ok 0 (by decide)) rfl rfl (Nat.le_of_ble_eq_true rfl) dX9_init_9 (fun H locs hP hS => ?_)
  refine lv_aload_n hx hb dX9_init_12 rfl (lv_at hl 0 rfl) ?_
  refine lv_bipush (v := Int32.ofInt 60) hx hb dX9_init_13 (by decide) ?_
  refine cs_newa (atype := .int) (N' := 60) (x := (60, .inl (fun _ => Int32.ofInt 0))) hx hb (hts (Jvm.Cond.arrayClass .int) (pm_TB_in (j := 161) (by decide +kernel) rfl)) 0 rfl rfl hK hP hS (fun _ => rfl) (by decide) (by decide) (by decide) (Nat.le_of_ble_eq_true rfl) (Nat.le_of_ble_eq_true rfl) dX9_init_15 (fun H hP hS => ?_)
  refine cs_putF (D := D) (ci := 9) (fs := [.ref (a + 1), .null, .null, .null, .int (Int32.ofInt 0), .int (Int32.ofInt 0), .int (Int32.ofInt 0), .int (Int32.ofInt 0), .int (Int32.ofInt 0), .int (Int32.ofInt 0), .int (Int32.ofInt 0), .int (Int32.ofInt 0), .int (Int32.ofInt 0)]) (v := .ref (a + 2)) hx hb hts (pm_uwB (ci := 9) (r := (RX9, TX9, 13)) rfl) tyX9 tyX9_ok nmX9 hown hK hP hS 0 (Nat.le_of_ble_eq_true rfl) rfl rfl 1 (by decide) (hts _ (pm_TB_in (j := 335) (by decide +kernel) rfl)) (fun _ h9 => h9) rfl hin rfl (ty := tyX9 1) (tyX9_ok 1 (by decide)) rfl rfl (Nat.le_of_ble_eq_true rfl) dX9_init_17 (fun H locs hP hS => ?_)
  refine lv_aload_n hx hb dX9_init_20 rfl (lv_at hl 0 rfl) ?_
  refine lv_bipush (v := Int32.ofInt 60) hx hb dX9_init_21 (by decide) ?_
  refine cs_newa (atype := .int) (N' := 60) (x := (60, .inl (fun _ => Int32.ofInt 0))) hx hb (hts (Jvm.Cond.arrayClass .int) (pm_TB_in (j := 161) (by decide +kernel) rfl)) 0 rfl rfl hK hP hS (fun _ => rfl) (by decide) (by decide) (by decide) (Nat.le_of_ble_eq_true rfl) (Nat.le_of_ble_eq_true rfl) dX9_init_23 (fun H hP hS => ?_)
  refine cs_putF (D := D) (ci := 9) (fs := [.ref (a + 1), .ref (a + 2), .null, .null, .int (Int32.ofInt 0), .int (Int32.ofInt 0), .int (Int32.ofInt 0), .int (Int32.ofInt 0), .int (Int32.ofInt 0), .int (Int32.ofInt 0), .int (Int32.ofInt 0), .int (Int32.ofInt 0), .int (Int32.ofInt 0)]) (v := .ref (a + 3)) hx hb hts (pm_uwB (ci := 9) (r := (RX9, TX9, 13)) rfl) tyX9 tyX9_ok nmX9 hown hK hP hS 0 (Nat.le_of_ble_eq_true rfl) rfl rfl 2 (by decide) (hts _ (pm_TB_in (j := 336) (by decide +kernel) rfl)) (fun _ h9 => h9) rfl hin rfl (ty := tyX9 2) (tyX9_ok 2 (by decide)) rfl rfl (Nat.le_of_ble_eq_true rfl) dX9_init_25 (fun H locs hP hS => ?_)
  refine lv_aload_n hx hb dX9_init_28 rfl (lv_at hl 0 rfl) ?_
  refine lv_bipush (v := Int32.ofInt 60) hx hb dX9_init_29 (by decide) ?_
  refine cs_newa (atype := .long) (N' := 60) (x := (60, .inr (.inl (fun _ => Int64.ofInt 0)))) hx hb (hts (Jvm.Cond.arrayClass .long) (pm_TB_in (j := 377) (by decide +kernel) rfl)) 1 rfl rfl hK hP hS (fun _ => rfl) (by decide) (by decide) (by decide) (Nat.le_of_ble_eq_true rfl) (Nat.le_of_ble_eq_true rfl) dX9_init_31 (fun H hP hS => ?_)
  refine cs_putF (D := D) (ci := 9) (fs := [.ref (a + 1), .ref (a + 2), .ref (a + 3), .null, .int (Int32.ofInt 0), .int (Int32.ofInt 0), .int (Int32.ofInt 0), .int (Int32.ofInt 0), .int (Int32.ofInt 0), .int (Int32.ofInt 0), .int (Int32.ofInt 0), .int (Int32.ofInt 0), .int (Int32.ofInt 0)]) (v := .ref (a + 4)) hx hb hts (pm_uwB (ci := 9) (r := (RX9, TX9, 13)) rfl) tyX9 tyX9_ok nmX9 hown hK hP hS 0 (Nat.le_of_ble_eq_true rfl) rfl rfl 3 (by decide) (hts _ (pm_TB_in (j := 337) (by decide +kernel) rfl)) (fun _ h9 => h9) rfl hin rfl (ty := tyX9 3) (tyX9_ok 3 (by decide)) rfl rfl (Nat.le_of_ble_eq_true rfl) dX9_init_33 (fun H locs hP hS => ?_)
  refine lv_aload_n hx hb dX9_init_36 rfl (lv_at hl 0 rfl) ?_
  refine lv_iconst (v := Int32.ofInt 1) hx hb dX9_init_37 (by decide) ?_
  refine cs_put (D := D) (ci := 9) (fs := [.ref (a + 1), .ref (a + 2), .ref (a + 3), .ref (a + 4), .int (Int32.ofInt 0), .int (Int32.ofInt 0), .int (Int32.ofInt 0), .int (Int32.ofInt 0), .int (Int32.ofInt 0), .int (Int32.ofInt 0), .int (Int32.ofInt 0), .int (Int32.ofInt 0), .int (Int32.ofInt 0)]) (v := .int (Int32.ofInt 1)) hx hb hts (pm_uwB (ci := 9) (r := (RX9, TX9, 13)) rfl) tyX9 tyX9_ok nmX9 hown hK hP hS 0 (Nat.le_of_ble_eq_true rfl) rfl rfl 5 (by decide) (hts _ (pm_TB_in (j := 340) (by decide +kernel) rfl)) (fun _ h9 => h9) rfl (ty := tyX9 5) (tyX9_ok 5 (by decide)) rfl rfl (Nat.le_of_ble_eq_true rfl) dX9_init_38 (fun H locs hP hS => ?_)
  refine W.widen (k := 5 - 1) (n := 240) (Nat.le_of_ble_eq_true rfl) (Nat.le_of_ble_eq_true rfl) ?_
  refine W.vret hx hb hr (fun t ht hW => ⟨rfl, ?_, hS.F ht⟩) hS.2.2 dX9_init_41
  rw [ht]
  refine cs_cg (n := 5) hP ?_
  intro i hi
  match i, hi with
  | 0, _ => rfl
  | 1, _ => rfl
  | 2, _ => rfl
  | 3, _ => rfl
  | 4, _ => rfl
  | k + 5, h => exact absurd h (by omega)
theorem dX10_init_0 : decode cX10_init 0 = .ok (.aload_n 0, 1) := by decide +kernel
theorem dX10_init_1 : decode cX10_init 1 = .ok (.invokespecial 3, 3) := by decide +kernel
theorem dX10_init_4 : decode cX10_init 4 = .ok (.aload_n 0, 1) := by decide +kernel
theorem dX10_init_5 : decode cX10_init 5 = .ok (.bipush 8, 2) := by decide +kernel
theorem dX10_init_7 : decode cX10_init 7 = .ok (.newarray .int, 2) := by decide +kernel
theorem dX10_init_9 : decode cX10_init 9 = .ok (.putfield 9, 3) := by decide +kernel
theorem dX10_init_12 : decode cX10_init 12 = .ok (.aload_n 0, 1) := by decide +kernel
theorem dX10_init_13 : decode cX10_init 13 = .ok (.bipush 8, 2) := by decide +kernel
theorem dX10_init_15 : decode cX10_init 15 = .ok (.newarray .int, 2) := by decide +kernel
theorem dX10_init_17 : decode cX10_init 17 = .ok (.putfield 15, 3) := by decide +kernel
theorem dX10_init_20 : decode cX10_init 20 = .ok (.aload_n 0, 1) := by decide +kernel
theorem dX10_init_21 : decode cX10_init 21 = .ok (.bipush 8, 2) := by decide +kernel
theorem dX10_init_23 : decode cX10_init 23 = .ok (.newarray .int, 2) := by decide +kernel
theorem dX10_init_25 : decode cX10_init 25 = .ok (.putfield 18, 3) := by decide +kernel
theorem dX10_init_28 : decode cX10_init 28 = .ok (.aload_n 0, 1) := by decide +kernel
theorem dX10_init_29 : decode cX10_init 29 = .ok (.bipush 16, 2) := by decide +kernel
theorem dX10_init_31 : decode cX10_init 31 = .ok (.newarray .int, 2) := by decide +kernel
theorem dX10_init_33 : decode cX10_init 33 = .ok (.putfield 21, 3) := by decide +kernel
theorem dX10_init_36 : decode cX10_init 36 = .ok (.aload_n 0, 1) := by decide +kernel
theorem dX10_init_37 : decode cX10_init 37 = .ok (.bipush 16, 2) := by decide +kernel
theorem dX10_init_39 : decode cX10_init 39 = .ok (.newarray .int, 2) := by decide +kernel
theorem dX10_init_41 : decode cX10_init 41 = .ok (.putfield 24, 3) := by decide +kernel
theorem dX10_init_44 : decode cX10_init 44 = .ok (.aload_n 0, 1) := by decide +kernel
theorem dX10_init_45 : decode cX10_init 45 = .ok (.bipush 16, 2) := by decide +kernel
theorem dX10_init_47 : decode cX10_init 47 = .ok (.newarray .int, 2) := by decide +kernel
theorem dX10_init_49 : decode cX10_init 49 = .ok (.putfield 27, 3) := by decide +kernel
theorem dX10_init_52 : decode cX10_init 52 = .ok (.aload_n 0, 1) := by decide +kernel
theorem dX10_init_53 : decode cX10_init 53 = .ok (.bipush 16, 2) := by decide +kernel
theorem dX10_init_55 : decode cX10_init 55 = .ok (.newarray .int, 2) := by decide +kernel
theorem dX10_init_57 : decode cX10_init 57 = .ok (.putfield 30, 3) := by decide +kernel
theorem dX10_init_60 : decode cX10_init 60 = .ok (.aload_n 0, 1) := by decide +kernel
theorem dX10_init_61 : decode cX10_init 61 = .ok (.bipush 16, 2) := by decide +kernel
theorem dX10_init_63 : decode cX10_init 63 = .ok (.newarray .int, 2) := by decide +kernel
theorem dX10_init_65 : decode cX10_init 65 = .ok (.putfield 33, 3) := by decide +kernel
theorem dX10_init_68 : decode cX10_init 68 = .ok (.aload_n 0, 1) := by decide +kernel
theorem dX10_init_69 : decode cX10_init 69 = .ok (.bipush 16, 2) := by decide +kernel
theorem dX10_init_71 : decode cX10_init 71 = .ok (.newarray .int, 2) := by decide +kernel
theorem dX10_init_73 : decode cX10_init 73 = .ok (.putfield 36, 3) := by decide +kernel
theorem dX10_init_76 : decode cX10_init 76 = .ok (.aload_n 0, 1) := by decide +kernel
theorem dX10_init_77 : decode cX10_init 77 = .ok (.bipush 16, 2) := by decide +kernel
theorem dX10_init_79 : decode cX10_init 79 = .ok (.newarray .int, 2) := by decide +kernel
theorem dX10_init_81 : decode cX10_init 81 = .ok (.putfield 39, 3) := by decide +kernel
theorem dX10_init_84 : decode cX10_init 84 = .ok (.aload_n 0, 1) := by decide +kernel
theorem dX10_init_85 : decode cX10_init 85 = .ok (.bipush 16, 2) := by decide +kernel
theorem dX10_init_87 : decode cX10_init 87 = .ok (.newarray .int, 2) := by decide +kernel
theorem dX10_init_89 : decode cX10_init 89 = .ok (.putfield 42, 3) := by decide +kernel
theorem dX10_init_92 : decode cX10_init 92 = .ok (.aload_n 0, 1) := by decide +kernel
theorem dX10_init_93 : decode cX10_init 93 = .ok (.bipush 16, 2) := by decide +kernel
theorem dX10_init_95 : decode cX10_init 95 = .ok (.newarray .int, 2) := by decide +kernel
theorem dX10_init_97 : decode cX10_init 97 = .ok (.putfield 45, 3) := by decide +kernel
theorem dX10_init_100 : decode cX10_init 100 = .ok (.aload_n 0, 1) := by decide +kernel
theorem dX10_init_101 : decode cX10_init 101 = .ok (.bipush 16, 2) := by decide +kernel
theorem dX10_init_103 : decode cX10_init 103 = .ok (.newarray .int, 2) := by decide +kernel
theorem dX10_init_105 : decode cX10_init 105 = .ok (.putfield 48, 3) := by decide +kernel
theorem dX10_init_108 : decode cX10_init 108 = .ok (.aload_n 0, 1) := by decide +kernel
theorem dX10_init_109 : decode cX10_init 109 = .ok (.bipush 16, 2) := by decide +kernel
theorem dX10_init_111 : decode cX10_init 111 = .ok (.newarray .int, 2) := by decide +kernel
theorem dX10_init_113 : decode cX10_init 113 = .ok (.putfield 51, 3) := by decide +kernel
theorem dX10_init_116 : decode cX10_init 116 = .ok (.aload_n 0, 1) := by decide +kernel
theorem dX10_init_117 : decode cX10_init 117 = .ok (.bipush 16, 2) := by decide +kernel
theorem dX10_init_119 : decode cX10_init 119 = .ok (.newarray .int, 2) := by decide +kernel
theorem dX10_init_121 : decode cX10_init 121 = .ok (.putfield 54, 3) := by decide +kernel
theorem dX10_init_124 : decode cX10_init 124 = .ok (.return_, 1) := by decide +kernel
theorem cd_X10 : ∀ j, j < 16 → defaultValue (tyX10 j) = vp_V [.null, .null, .null, .null, .null, .null, .null, .null, .null, .null, .null, .null, .null, .null, .null, .int (Int32.ofInt 0)] j := by
  intro j hj
  match j, hj with
  | 0, _ => rfl
  | 1, _ => rfl
  | 2, _ => rfl
  | 3, _ => rfl
  | 4, _ => rfl
  | 5, _ => rfl
  | 6, _ => rfl
  | 7, _ => rfl
  | 8, _ => rfl
  | 9, _ => rfl
  | 10, _ => rfl
  | 11, _ => rfl
  | 12, _ => rfl
  | 13, _ => rfl
  | 14, _ => rfl
  | 15, _ => rfl
  | k + 16, h => exact absurd h (by omega)
set_option maxHeartbeats 4000000 in
set_option maxRecDepth 100000 in
theorem ct_X10 (l : Launch) (D : va_G) (G : pm_G) (a : Nat) : Met l yX10_init (Jvm.Cond.code yX10_init cX10_init 1 none :: pm_TB) ({ frames := 1, cells := 15, slots := 216, locals := 33 }) (cs_Pc D G 10 [.null, .null, .null, .null, .null, .null, .null, .null, .null, .null, .null, .null, .null, .null, .null, .int (Int32.ofInt 0)] a) (cs_Qc D 16 (cs_B 22 G a) a) (16 - 1) 216 (cs_A a) := by
  refine Met.ofW (cc := cX10_init) (maxL := 1) (ret := none) (by decide) rfl ?_
  intro p e s m args below meth c s₁ B hml hv
  obtain ⟨rfl, hz, h0, hK, hNW⟩ := hv
  have hx := B.exec
  have hb := B.bytes
  have hr := B.returns
  have hts : ∀ w ∈ pm_TB, w.before #[Value.ref a] s = true := fun w hw => atoms_spec (ws := Jvm.Cond.code yX10_init cX10_init 1 none :: pm_TB) B.pre w (List.mem_cons_of_mem _ hw)
  have hown : s.vm.findClass RX10 = some m.cls := findClass_of_methodNamed B.named
  have hlocks := B.notSynchronized
  have hin : meth.name = "<init>" := (name_of_methodNamed B.named B.method).1
  have hP : cs_P D a 1 (fun _ => .inr (10, [.null, .null, .null, .null, .null, .null, .null, .null, .null, .null, .null, .null, .null, .null, .null, .int (Int32.ofInt 0)])) s.heap := ⟨hz, fun i hi => by rw [show i = 0 by omega]; exact h0⟩
  have hS : va_S (cs_A a) s.heap s.heap [] := va_S.rf
  have hl := lv_entry ([.ref a]) (n := 1) (Nat.le_of_ble_eq_true rfl)
  rw [lg_entry_eq]
  generalize (lg_sl ([.ref a]) ++ List.replicate (1 - (lg_sl ([.ref a])).length) Slot.unset).toArray = ls at hl ⊢
  have hl : lv_has ls 1 [(0, .ref (a + 0))] := hl
  refine lv_aload_n hx hb dX10_init_0 rfl (lv_at hl 0 rfl) ?_
  refine W.objInit hx hb hown (hts _ (pm_TB_in (j := 269) (by decide +kernel) rfl)) (hts _ (pm_TB_in (j := 105) (by decide +kernel) rfl)) (hts _ (pm_TB_in (j := 106) (by decide +kernel) rfl)) rfl (by rw [hml]; exact hl.1) rfl dX10_init_1 (Nat.le_of_ble_eq_true rfl) (Nat.le_of_ble_eq_true rfl) ?_
  refine W.eq (g2 := F0 m 4 ls []) rfl ?_
  refine lv_aload_n hx hb dX10_init_4 rfl (lv_at hl 0 rfl) ?_
  refine lv_bipush (v := Int32.ofInt 8) hx hb dX10_init_5 (by decide) ?_
  refine cs_newa (atype := .int) (N' := 8) (x := (8, .inl (fun _ => Int32.ofInt 0))) hx hb (hts (Jvm.Cond.arrayClass .int) (pm_TB_in (j := 161) (by decide +kernel) rfl)) 0 rfl rfl hK hP hS (fun _ => rfl) (by decide) (by decide) (by decide) (Nat.le_of_ble_eq_true rfl) (Nat.le_of_ble_eq_true rfl) dX10_init_7 (fun H hP hS => ?_)
  refine cs_putF (D := D) (ci := 10) (fs := [.null, .null, .null, .null, .null, .null, .null, .null, .null, .null, .null, .null, .null, .null, .null, .int (Int32.ofInt 0)]) (v := .ref (a + 1)) hx hb hts (pm_uwB (ci := 10) (r := (RX10, TX10, 16)) rfl) tyX10 tyX10_ok nmX10 hown hK hP hS 0 (Nat.le_of_ble_eq_true rfl) rfl rfl 0 (by decide) (hts _ (pm_TB_in (j := 270) (by decide +kernel) rfl)) (fun _ h9 => h9) rfl hin rfl (ty := tyX10 0) (tyX10_ok 0 (by decide)) rfl rfl (Nat.le_of_ble_eq_true rfl) dX10_init_9 (fun H locs hP hS => ?_)
  refine lv_aload_n hx hb dX10_init_12 rfl (lv_at hl 0 rfl) ?_
  refine lv_bipush (v := Int32.ofInt 8) hx hb dX10_init_13 (by decide) ?_
  refine cs_newa (atype := .int) (N' := 8) (x := (8, .inl (fun _ => Int32.ofInt 0))) hx hb (hts (Jvm.Cond.arrayClass .int) (pm_TB_in (j := 161) (by decide +kernel) rfl)) 0 rfl rfl hK hP hS (fun _ => rfl) (by decide) (by decide) (by decide) (Nat.le_of_ble_eq_true rfl) (Nat.le_of_ble_eq_true rfl) dX10_init_15 (fun H hP hS => ?_)
  refine cs_putF (D := D) (ci := 10) (fs := [.ref (a + 1), .null, .null, .null, .null, .null, .null, .null, .null, .null, .null, .null, .null, .null, .null, .int (Int32.ofInt 0)]) (v := .ref (a + 2)) hx hb hts (pm_uwB (ci := 10) (r := (RX10, TX10, 16)) rfl) tyX10 tyX10_ok nmX10 hown hK hP hS 0 (Nat.le_of_ble_eq_true rfl) rfl rfl 1 (by decide) (hts _ (pm_TB_in (j := 271) (by decide +kernel) rfl)) (fun _ h9 => h9) rfl hin rfl (ty := tyX10 1) (tyX10_ok 1 (by decide)) rfl rfl (Nat.le_of_ble_eq_true rfl) dX10_init_17 (fun H locs hP hS => ?_)
  refine lv_aload_n hx hb dX10_init_20 rfl (lv_at hl 0 rfl) ?_
  refine lv_bipush (v := Int32.ofInt 8) hx hb dX10_init_21 (by decide) ?_
  refine cs_newa (atype := .int) (N' := 8) (x := (8, .inl (fun _ => Int32.ofInt 0))) hx hb (hts (Jvm.Cond.arrayClass .int) (pm_TB_in (j := 161) (by decide +kernel) rfl)) 0 rfl rfl hK hP hS (fun _ => rfl) (by decide) (by decide) (by decide) (Nat.le_of_ble_eq_true rfl) (Nat.le_of_ble_eq_true rfl) dX10_init_23 (fun H hP hS => ?_)
  refine cs_putF (D := D) (ci := 10) (fs := [.ref (a + 1), .ref (a + 2), .null, .null, .null, .null, .null, .null, .null, .null, .null, .null, .null, .null, .null, .int (Int32.ofInt 0)]) (v := .ref (a + 3)) hx hb hts (pm_uwB (ci := 10) (r := (RX10, TX10, 16)) rfl) tyX10 tyX10_ok nmX10 hown hK hP hS 0 (Nat.le_of_ble_eq_true rfl) rfl rfl 2 (by decide) (hts _ (pm_TB_in (j := 272) (by decide +kernel) rfl)) (fun _ h9 => h9) rfl hin rfl (ty := tyX10 2) (tyX10_ok 2 (by decide)) rfl rfl (Nat.le_of_ble_eq_true rfl) dX10_init_25 (fun H locs hP hS => ?_)
  refine lv_aload_n hx hb dX10_init_28 rfl (lv_at hl 0 rfl) ?_
  refine lv_bipush (v := Int32.ofInt 16) hx hb dX10_init_29 (by decide) ?_
  refine cs_newa (atype := .int) (N' := 16) (x := (16, .inl (fun _ => Int32.ofInt 0))) hx hb (hts (Jvm.Cond.arrayClass .int) (pm_TB_in (j := 161) (by decide +kernel) rfl)) 0 rfl rfl hK hP hS (fun _ => rfl) (by decide) (by decide) (by decide) (Nat.le_of_ble_eq_true rfl) (Nat.le_of_ble_eq_true rfl) dX10_init_31 (fun H hP hS => ?_)
  refine cs_putF (D := D) (ci := 10) (fs := [.ref (a + 1), .ref (a + 2), .ref (a + 3), .null, .null, .null, .null, .null, .null, .null, .null, .null, .null, .null, .null, .int (Int32.ofInt 0)]) (v := .ref (a + 4)) hx hb hts (pm_uwB (ci := 10) (r := (RX10, TX10, 16)) rfl) tyX10 tyX10_ok nmX10 hown hK hP hS 0 (Nat.le_of_ble_eq_true rfl) rfl rfl 3 (by decide) (hts _ (pm_TB_in (j := 273) (by decide +kernel) rfl)) (fun _ h9 => h9) rfl hin rfl (ty := tyX10 3) (tyX10_ok 3 (by decide)) rfl rfl (Nat.le_of_ble_eq_true rfl) dX10_init_33 (fun H locs hP hS => ?_)
  refine lv_aload_n hx hb dX10_init_36 rfl (lv_at hl 0 rfl) ?_
  refine lv_bipush (v := Int32.ofInt 16) hx hb dX10_init_37 (by decide) ?_
  refine cs_newa (atype := .int) (N' := 16) (x := (16, .inl (fun _ => Int32.ofInt 0))) hx hb (hts (Jvm.Cond.arrayClass .int) (pm_TB_in (j := 161) (by decide +kernel) rfl)) 0 rfl rfl hK hP hS (fun _ => rfl) (by decide) (by decide) (by decide) (Nat.le_of_ble_eq_true rfl) (Nat.le_of_ble_eq_true rfl) dX10_init_39 (fun H hP hS => ?_)
  refine cs_putF (D := D) (ci := 10) (fs := [.ref (a + 1), .ref (a + 2), .ref (a + 3), .ref (a + 4), .null, .null, .null, .null, .null, .null, .null, .null, .null, .null, .null, .int (Int32.ofInt 0)]) (v := .ref (a + 5)) hx hb hts (pm_uwB (ci := 10) (r := (RX10, TX10, 16)) rfl) tyX10 tyX10_ok nmX10 hown hK hP hS 0 (Nat.le_of_ble_eq_true rfl) rfl rfl 4 (by decide) (hts _ (pm_TB_in (j := 274) (by decide +kernel) rfl)) (fun _ h9 => h9) rfl hin rfl (ty := tyX10 4) (tyX10_ok 4 (by decide)) rfl rfl (Nat.le_of_ble_eq_true rfl) dX10_init_41 (fun H locs hP hS => ?_)
  refine lv_aload_n hx hb dX10_init_44 rfl (lv_at hl 0 rfl) ?_
  refine lv_bipush (v := Int32.ofInt 16) hx hb dX10_init_45 (by decide) ?_
  refine cs_newa (atype := .int) (N' := 16) (x := (16, .inl (fun _ => Int32.ofInt 0))) hx hb (hts (Jvm.Cond.arrayClass .int) (pm_TB_in (j := 161) (by decide +kernel) rfl)) 0 rfl rfl hK hP hS (fun _ => rfl) (by decide) (by decide) (by decide) (Nat.le_of_ble_eq_true rfl) (Nat.le_of_ble_eq_true rfl) dX10_init_47 (fun H hP hS => ?_)
  refine cs_putF (D := D) (ci := 10) (fs := [.ref (a + 1), .ref (a + 2), .ref (a + 3), .ref (a + 4), .ref (a + 5), .null, .null, .null, .null, .null, .null, .null, .null, .null, .null, .int (Int32.ofInt 0)]) (v := .ref (a + 6)) hx hb hts (pm_uwB (ci := 10) (r := (RX10, TX10, 16)) rfl) tyX10 tyX10_ok nmX10 hown hK hP hS 0 (Nat.le_of_ble_eq_true rfl) rfl rfl 5 (by decide) (hts _ (pm_TB_in (j := 275) (by decide +kernel) rfl)) (fun _ h9 => h9) rfl hin rfl (ty := tyX10 5) (tyX10_ok 5 (by decide)) rfl rfl (Nat.le_of_ble_eq_true rfl) dX10_init_49 (fun H locs hP hS => ?_)
  refine lv_aload_n hx hb dX10_init_52 rfl (lv_at hl 0 rfl) ?_
  refine lv_bipush (v := Int32.ofInt 16) hx hb dX10_init_53 (by decide) ?_
  refine cs_newa (atype := .int) (N' := 16) (x := (16, .inl (fun _ => Int32.ofInt 0))) hx hb (hts (Jvm.Cond.arrayClass .int) (pm_TB_in (j := 161) (by decide +kernel) rfl)) 0 rfl rfl hK hP hS (fun _ => rfl) (by decide) (by decide) (by decide) (Nat.le_of_ble_eq_true rfl) (Nat.le_of_ble_eq_true rfl) dX10_init_55 (fun H hP hS => ?_)
  refine cs_putF (D := D) (ci := 10) (fs := [.ref (a + 1), .ref (a + 2), .ref (a + 3), .ref (a + 4), .ref (a + 5), .ref (a + 6), .null, .null, .null, .null, .null, .null, .null, .null, .null, .int (Int32.ofInt 0)]) (v := .ref (a + 7)) hx hb hts (pm_uwB (ci := 10) (r := (RX10, TX10, 16)) rfl) tyX10 tyX10_ok nmX10 hown hK hP hS 0 (Nat.le_of_ble_eq_true rfl) rfl rfl 6 (by decide) (hts _ (pm_TB_in (j := 276) (by decide +kernel) rfl)) (fun _ h9 => h9) rfl hin rfl (ty := tyX10 6) (tyX10_ok 6 (by decide)) rfl rfl (Nat.le_of_ble_eq_true rfl) dX10_init_57 (fun H locs hP hS => ?_)
  refine lv_aload_n hx hb dX10_init_60 rfl (lv_at hl 0 rfl) ?_
  refine lv_bipush (v := Int32.ofInt 16) hx hb dX10_init_61 (by decide) ?_
  refine cs_newa (atype := .int) (N' := 16) (x := (16, .inl (fun _ => Int32.ofInt 0))) hx hb (hts (Jvm.Cond.arrayClass .int) (pm_TB_in (j := 161) (by decide +kernel) rfl)) 0 rfl rfl hK hP hS (fun _ => rfl) (by decide) (by decide) (by decide) (Nat.le_of_ble_eq_true rfl) (Nat.le_of_ble_eq_true rfl) dX10_init_63 (fun H hP hS => ?_)
  refine cs_putF (D := D) (ci := 10) (fs := [.ref (a + 1), .ref (a + 2), .ref (a + 3), .ref (a + 4), .ref (a + 5), .ref (a + 6), .ref (a + 7), .null, .null, .null, .null, .null, .null, .null, .null, .int (Int32.ofInt 0)]) (v := .ref (a + 8)) hx hb hts (pm_uwB (ci := 10) (r := (RX10, TX10, 16)) rfl) tyX10 tyX10_ok nmX10 hown hK hP hS 0 (Nat.le_of_ble_eq_true rfl) rfl rfl 7 (by decide) (hts _ (pm_TB_in (j := 277) (by decide +kernel) rfl)) (fun _ h9 => h9) rfl hin rfl (ty := tyX10 7) (tyX10_ok 7 (by decide)) rfl rfl (Nat.le_of_ble_eq_true rfl) dX10_init_65 (fun H locs hP hS => ?_)
  refine lv_aload_n hx hb dX10_init_68 rfl (lv_at hl 0 rfl) ?_
  refine lv_bipush (v := Int32.ofInt 16) hx hb dX10_init_69 (by decide) ?_
  refine cs_newa (atype := .int) (N' := 16) (x := (16, .inl (fun _ => Int32.ofInt 0))) hx hb (hts (Jvm.Cond.arrayClass .int) (pm_TB_in (j := 161) (by decide +kernel) rfl)) 0 rfl rfl hK hP hS (fun _ => rfl) (by decide) (by decide) (by decide) (Nat.le_of_ble_eq_true rfl) (Nat.le_of_ble_eq_true rfl) dX10_init_71 (fun H hP hS => ?_)
  refine cs_putF (D := D) (ci := 10) (fs := [.ref (a + 1), .ref (a + 2), .ref (a + 3), .ref (a + 4), .ref (a + 5), .ref (a + 6), .ref (a + 7), .ref (a + 8), .null, .null, .null, .null, .null, .null, .null, .int (Int32.ofInt 0)]) (v := .ref (a + 9)) hx hb hts (pm_uwB (ci := 10) (r := (RX10, TX10, 16)) rfl) tyX10 tyX10_ok nmX10 hown hK hP hS 0 (Nat.le_of_ble_eq_true rfl) rfl rfl 8 (by decide) (hts _ (pm_TB_in (j := 278) (by decide +kernel) rfl)) (fun _ h9 => h9) rfl hin rfl (ty := tyX10 8) (tyX10_ok 8 (by decide)) rfl rfl (Nat.le_of_ble_eq_true rfl) dX10_init_73 (fun H locs hP hS => ?_)
  refine lv_aload_n hx hb dX10_init_76 rfl (lv_at hl 0 rfl) ?_
  refine lv_bipush (v := Int32.ofInt 16) hx hb dX10_init_77 (by decide) ?_
  refine cs_newa (atype := .int) (N' := 16) (x := (16, .inl (fun _ => Int32.ofInt 0))) hx hb (hts (Jvm.Cond.arrayClass .int) (pm_TB_in (j := 161) (by decide +kernel) rfl)) 0 rfl rfl hK hP hS (fun _ => rfl) (by decide) (by decide) (by decide) (Nat.le_of_ble_eq_true rfl) (Nat.le_of_ble_eq_true rfl) dX10_init_79 (fun H hP hS => ?_)
  refine cs_putF (D := D) (ci := 10) (fs := [.ref (a + 1), .ref (a + 2), .ref (a + 3), .ref (a + 4), .ref (a + 5), .ref (a + 6), .ref (a + 7), .ref (a + 8), .ref (a + 9), .null, .null, .null, .null, .null, .null, .int (Int32.ofInt 0)]) (v := .ref (a + 10)) hx hb hts (pm_uwB (ci := 10) (r := (RX10, TX10, 16)) rfl) tyX10 tyX10_ok nmX10 hown hK hP hS 0 (Nat.le_of_ble_eq_true rfl) rfl rfl 9 (by decide) (hts _ (pm_TB_in (j := 280) (by decide +kernel) rfl)) (fun _ h9 => h9) rfl hin rfl (ty := tyX10 9) (tyX10_ok 9 (by decide)) rfl rfl (Nat.le_of_ble_eq_true rfl) dX10_init_81 (fun H locs hP hS => ?_)
  refine lv_aload_n hx hb dX10_init_84 rfl (lv_at hl 0 rfl) ?_
  refine lv_bipush (v := Int32.ofInt 16) hx hb dX10_init_85 (by decide) ?_
  refine cs_newa (atype := .int) (N' := 16) (x := (16, .inl (fun _ => Int32.ofInt 0))) hx hb (hts (Jvm.Cond.arrayClass .int) (pm_TB_in (j := 161) (by decide +kernel) rfl)) 0 rfl rfl hK hP hS (fun _ => rfl) (by decide) (by decide) (by decide) (Nat.le_of_ble_eq_true rfl) (Nat.le_of_ble_eq_true rfl) dX10_init_87 (fun H hP hS => ?_)
  refine cs_putF (D := D) (ci := 10) (fs := [.ref (a + 1), .ref (a + 2), .ref (a + 3), .ref (a + 4), .ref (a + 5), .ref (a + 6), .ref (a + 7), .ref (a + 8), .ref (a + 9), .ref (a + 10), .null, .null, .null, .null, .null, .int (Int32.ofInt 0)]) (v := .ref (a + 11)) hx hb hts (pm_uwB (ci := 10) (r := (RX10, TX10, 16)) rfl) tyX10 tyX10_ok nmX10 hown hK hP hS 0 (Nat.le_of_ble_eq_true rfl) rfl rfl 10 (by decide) (hts _ (pm_TB_in (j := 281) (by decide +kernel) rfl)) (fun _ h9 => h9) rfl hin rfl (ty := tyX10 10) (tyX10_ok 10 (by decide)) rfl rfl (Nat.le_of_ble_eq_true rfl) dX10_init_89 (fun H locs hP hS => ?_)
  refine lv_aload_n hx hb dX10_init_92 rfl (lv_at hl 0 rfl) ?_
  refine lv_bipush (v := Int32.ofInt 16) hx hb dX10_init_93 (by decide) ?_
  refine cs_newa (atype := .int) (N' := 16) (x := (16, .inl (fun _ => Int32.ofInt 0))) hx hb (hts (Jvm.Cond.arrayClass .int) (pm_TB_in (j := 161) (by decide +kernel) rfl)) 0 rfl rfl hK hP hS (fun _ => rfl) (by decide) (by decide) (by decide) (Nat.le_of_ble_eq_true rfl) (Nat.le_of_ble_eq_true rfl) dX10_init_95 (fun H hP hS => ?_)
  refine cs_putF (D := D) (ci := 10) (fs := [.ref (a + 1), .ref (a + 2), .ref (a + 3), .ref (a + 4), .ref (a + 5), .ref (a + 6), .ref (a + 7), .ref (a + 8), .ref (a + 9), .ref (a + 10), .ref (a + 11), .null, .null, .null, .null, .int (Int32.ofInt 0)]) (v := .ref (a + 12)) hx hb hts (pm_uwB (ci := 10) (r := (RX10, TX10, 16)) rfl) tyX10 tyX10_ok nmX10 hown hK hP hS 0 (Nat.le_of_ble_eq_true rfl) rfl rfl 11 (by decide) (hts _ (pm_TB_in (j := 284) (by decide +kernel) rfl)) (fun _ h9 => h9) rfl hin rfl (ty := tyX10 11) (tyX10_ok 11 (by decide)) rfl rfl (Nat.le_of_ble_eq_true rfl) dX10_init_97 (fun H locs hP hS => ?_)
  refine lv_aload_n hx hb dX10_init_100 rfl (lv_at hl 0 rfl) ?_
  refine lv_bipush (v := Int32.ofInt 16) hx hb dX10_init_101 (by decide) ?_
  refine cs_newa (atype := .int) (N' := 16) (x := (16, .inl (fun _ => Int32.ofInt 0))) hx hb (hts (Jvm.Cond.arrayClass .int) (pm_TB_in (j := 161) (by decide +kernel) rfl)) 0 rfl rfl hK hP hS (fun _ => rfl) (by decide) (by decide) (by decide) (Nat.le_of_ble_eq_true rfl) (Nat.le_of_ble_eq_true rfl) dX10_init_103 (fun H hP hS => ?_)
  refine cs_putF (D := D) (ci := 10) (fs := [.ref (a + 1), .ref (a + 2), .ref (a + 3), .ref (a + 4), .ref (a + 5), .ref (a + 6), .ref (a + 7), .ref (a + 8), .ref (a + 9), .ref (a + 10), .ref (a + 11), .ref (a + 12), .null, .null, .null, .int (Int32.ofInt 0)]) (v := .ref (a + 13)) hx hb hts (pm_uwB (ci := 10) (r := (RX10, TX10, 16)) rfl) tyX10 tyX10_ok nmX10 hown hK hP hS 0 (Nat.le_of_ble_eq_true rfl) rfl rfl 12 (by decide) (hts _ (pm_TB_in (j := 285) (by decide +kernel) rfl)) (fun _ h9 => h9) rfl hin rfl (ty := tyX10 12) (tyX10_ok 12 (by decide)) rfl rfl (Nat.le_of_ble_eq_true rfl) dX10_init_105 (fun H locs hP hS => ?_)
  refine lv_aload_n hx hb dX10_init_108 rfl (lv_at hl 0 rfl) ?_
  refine lv_bipush (v := Int32.ofInt 16) hx hb dX10_init_109 (by decide) ?_
  refine cs_newa (atype := .int) (N' := 16) (x := (16, .inl (fun _ => Int32.ofInt 0))) hx hb (hts (Jvm.Cond.arrayClass .int) (pm_TB_in (j := 161) (by decide +kernel) rfl)) 0 rfl rfl hK hP hS (fun _ => rfl) (by decide) (by decide) (by decide) (Nat.le_of_ble_eq_true rfl) (Nat.le_of_ble_eq_true rfl) dX10_init_111 (fun H hP hS => ?_)
  refine cs_putF (D := D) (ci := 10) (fs := [.ref (a + 1), .ref (a + 2), .ref (a + 3), .ref (a + 4), .ref (a + 5), .ref (a + 6), .ref (a + 7), .ref (a + 8), .ref (a + 9), .ref (a + 10), .ref (a + 11), .ref (a + 12), .ref (a + 13), .null, .null, .int (Int32.ofInt 0)]) (v := .ref (a + 14)) hx hb hts (pm_uwB (ci := 10) (r := (RX10, TX10, 16)) rfl) tyX10 tyX10_ok nmX10 hown hK hP hS 0 (Nat.le_of_ble_eq_true rfl) rfl rfl 13 (by decide) (hts _ (pm_TB_in (j := 287) (by decide +kernel) rfl)) (fun _ h9 => h9) rfl hin rfl (ty := tyX10 13) (tyX10_ok 13 (by decide)) rfl rfl (Nat.le_of_ble_eq_true rfl) dX10_init_113 (fun H locs hP hS => ?_)
  refine lv_aload_n hx hb dX10_init_116 rfl (lv_at hl 0 rfl) ?_
  refine lv_bipush (v := Int32.ofInt 16) hx hb dX10_init_117 (by decide) ?_
  refine cs_newa (atype := .int) (N' := 16) (x := (16, .inl (fun _ => Int32.ofInt 0))) hx hb (hts (Jvm.Cond.arrayClass .int) (pm_TB_in (j := 161) (by decide +kernel) rfl)) 0 rfl rfl hK hP hS (fun _ => rfl) (by decide) (by decide) (by decide) (Nat.le_of_ble_eq_true rfl) (Nat.le_of_ble_eq_true rfl) dX10_init_119 (fun H hP hS => ?_)
  refine cs_putF (D := D) (ci := 10) (fs := [.ref (a + 1), .ref (a + 2), .ref (a + 3), .ref (a + 4), .ref (a + 5), .ref (a + 6), .ref (a + 7), .ref (a + 8), .ref (a + 9), .ref (a + 10), .ref (a + 11), .ref (a + 12), .ref (a + 13), .ref (a + 14), .null, .int (Int32.ofInt 0)]) (v := .ref (a + 15)) hx hb hts (pm_uwB (ci := 10) (r := (RX10, TX10, 16)) rfl) tyX10 tyX10_ok nmX10 hown hK hP hS 0 (Nat.le_of_ble_eq_true rfl) rfl rfl 14 (by decide) (hts _ (pm_TB_in (j := 289) (by decide +kernel) rfl)) (fun _ h9 => h9) rfl hin rfl (ty := tyX10 14) (tyX10_ok 14 (by decide)) rfl rfl (Nat.le_of_ble_eq_true rfl) dX10_init_121 (fun H locs hP hS => ?_)
  refine W.widen (k := 16 - 1) (n := 216) (Nat.le_of_ble_eq_true rfl) (Nat.le_of_ble_eq_true rfl) ?_
  refine W.vret hx hb hr (fun t ht hW => ⟨rfl, ?_, hS.F ht⟩) hS.2.2 dX10_init_124
  rw [ht]
  refine cs_cg (n := 16) hP ?_
  intro i hi
  match i, hi with
  | 0, _ => rfl
  | 1, _ => rfl
  | 2, _ => rfl
  | 3, _ => rfl
  | 4, _ => rfl
  | 5, _ => rfl
  | 6, _ => rfl
  | 7, _ => rfl
  | 8, _ => rfl
  | 9, _ => rfl
  | 10, _ => rfl
  | 11, _ => rfl
  | 12, _ => rfl
  | 13, _ => rfl
  | 14, _ => rfl
  | 15, _ => rfl
  | k + 16, h => exact absurd h (by omega)
theorem dX2_init_0 : decode cX2_init 0 = .ok (.aload_n 0, 1) := by decide +kernel
theorem dX2_init_1 : decode cX2_init 1 = .ok (.invokespecial 3, 3) := by decide +kernel
theorem dX2_init_4 : decode cX2_init 4 = .ok (.aload_n 0, 1) := by decide +kernel
theorem dX2_init_5 : decode cX2_init 5 = .ok (.iconst 4, 1) := by decide +kernel
theorem dX2_init_6 : decode cX2_init 6 = .ok (.newarray .int, 2) := by decide +kernel
theorem dX2_init_8 : decode cX2_init 8 = .ok (.putfield 9, 3) := by decide +kernel
theorem dX2_init_11 : decode cX2_init 11 = .ok (.aload_n 0, 1) := by decide +kernel
theorem dX2_init_12 : decode cX2_init 12 = .ok (.iconst 4, 1) := by decide +kernel
theorem dX2_init_13 : decode cX2_init 13 = .ok (.newarray .int, 2) := by decide +kernel
theorem dX2_init_15 : decode cX2_init 15 = .ok (.putfield 15, 3) := by decide +kernel
theorem dX2_init_18 : decode cX2_init 18 = .ok (.aload_n 0, 1) := by decide +kernel
theorem dX2_init_19 : decode cX2_init 19 = .ok (.iconst 4, 1) := by decide +kernel
theorem dX2_init_20 : decode cX2_init 20 = .ok (.newarray .int, 2) := by decide +kernel
theorem dX2_init_22 : decode cX2_init 22 = .ok (.putfield 18, 3) := by decide +kernel
theorem dX2_init_25 : decode cX2_init 25 = .ok (.return_, 1) := by decide +kernel
theorem cd_X2 : ∀ j, j < 3 → defaultValue (tyX2 j) = vp_V [.null, .null, .null] j := by
  intro j hj
  match j, hj with
  | 0, _ => rfl
  | 1, _ => rfl
  | 2, _ => rfl
  | k + 3, h => exact absurd h (by omega)
set_option maxHeartbeats 4000000 in
set_option maxRecDepth 100000 in
theorem ct_X2 (l : Launch) (D : va_G) (G : pm_G) (a : Nat) : Met l yX2_init (Jvm.Cond.code yX2_init cX2_init 1 none :: pm_TB) ({ frames := 1, cells := 3, slots := 12, locals := 33 }) (cs_Pc D G 2 [.null, .null, .null] a) (cs_Qc D 4 (cs_B 95 G a) a) (4 - 1) 12 (cs_A a) := by
  refine Met.ofW (cc := cX2_init) (maxL := 1) (ret := none) (by decide) rfl ?_
  intro p e s m args below meth c s₁ B hml hv
  obtain ⟨rfl, hz, h0, hK, hNW⟩ := hv
  have hx := B.exec
  have hb := B.bytes
  have hr := B.returns
  have hts : ∀ w ∈ pm_TB, w.before #[Value.ref a] s = true := fun w hw => atoms_spec (ws := Jvm.Cond.code yX2_init cX2_init 1 none :: pm_TB) B.pre w (List.mem_cons_of_mem _ hw)
  have hown : s.vm.findClass RX2 = some m.cls := findClass_of_methodNamed B.named
  have hlocks := B.notSynchronized
  have hin : meth.name = "<init>" := (name_of_methodNamed B.named B.method).1
  have hP : cs_P D a 1 (fun _ => .inr (2, [.null, .null, .null])) s.heap := ⟨hz, fun i hi => by rw [show i = 0 by omega]; exact h0⟩
  have hS : va_S (cs_A a) s.heap s.heap [] := va_S.rf
  have hl := lv_entry ([.ref a]) (n := 1) (Nat.le_of_ble_eq_true rfl)
  rw [lg_entry_eq]
  generalize (lg_sl ([.ref a]) ++ List.replicate (1 - (lg_sl ([.ref a])).length) Slot.unset).toArray = ls at hl ⊢
  have hl : lv_has ls 1 [(0, .ref (a + 0))] := hl
  refine lv_aload_n hx hb dX2_init_0 rfl (lv_at hl 0 rfl) ?_
  refine W.objInit hx hb hown (hts _ (pm_TB_in (j := 454) (by decide +kernel) rfl)) (hts _ (pm_TB_in (j := 105) (by decide +kernel) rfl)) (hts _ (pm_TB_in (j := 106) (by decide +kernel) rfl)) rfl (by rw [hml]; exact hl.1) rfl dX2_init_1 (Nat.le_of_ble_eq_true rfl) (Nat.le_of_ble_eq_true rfl) ?_
  refine W.eq (g2 := F0 m 4 ls []) rfl ?_
  refine lv_aload_n hx hb dX2_init_4 rfl (lv_at hl 0 rfl) ?_
  refine lv_iconst (v := Int32.ofInt 4) hx hb dX2_init_5 (by decide) ?_
  refine cs_newa (atype := .int) (N' := 4) (x := (4, .inl (fun _ => Int32.ofInt 0))) hx hb (hts (Jvm.Cond.arrayClass .int) (pm_TB_in (j := 161) (by decide +kernel) rfl)) 0 rfl rfl hK hP hS (fun _ => rfl) (by decide) (by decide) (by decide) (Nat.le_of_ble_eq_true rfl) (Nat.le_of_ble_eq_true rfl) dX2_init_6 (fun H hP hS => ?_)
  refine cs_putF (D := D) (ci := 2) (fs := [.null, .null, .null]) (v := .ref (a + 1)) hx hb hts (pm_uwB (ci := 2) (r := (RX2, TX2, 3)) rfl) tyX2 tyX2_ok nmX2 hown hK hP hS 0 (Nat.le_of_ble_eq_true rfl) rfl rfl 0 (by decide) (hts _ (pm_TB_in (j := 455) (by decide +kernel) rfl)) (fun _ h9 => h9) rfl hin rfl (ty := tyX2 0) (tyX2_ok 0 (by decide)) rfl rfl (Nat.le_of_ble_eq_true rfl) dX2_init_8 (fun H locs hP hS => ?_)
  refine lv_aload_n hx hb dX2_init_11 rfl (lv_at hl 0 rfl) ?_
  refine lv_iconst (v := Int32.ofInt 4) hx hb dX2_init_12 (by decide) ?_
  refine cs_newa (atype := .int) (N' := 4) (x := (4, .inl (fun _ => Int32.ofInt 0))) hx hb (hts (Jvm.Cond.arrayClass .int) (pm_TB_in (j := 161) (by decide +kernel) rfl)) 0 rfl rfl hK hP hS (fun _ => rfl) (by decide) (by decide) (by decide) (Nat.le_of_ble_eq_true rfl) (Nat.le_of_ble_eq_true rfl) dX2_init_13 (fun H hP hS => ?_)
  refine cs_putF (D := D) (ci := 2) (fs := [.ref (a + 1), .null, .null]) (v := .ref (a + 2)) hx hb hts (pm_uwB (ci := 2) (r := (RX2, TX2, 3)) rfl) tyX2 tyX2_ok nmX2 hown hK hP hS 0 (Nat.le_of_ble_eq_true rfl) rfl rfl 1 (by decide) (hts _ (pm_TB_in (j := 457) (by decide +kernel) rfl)) (fun _ h9 => h9) rfl hin rfl (ty := tyX2 1) (tyX2_ok 1 (by decide)) rfl rfl (Nat.le_of_ble_eq_true rfl) dX2_init_15 (fun H locs hP hS => ?_)
  refine lv_aload_n hx hb dX2_init_18 rfl (lv_at hl 0 rfl) ?_
  refine lv_iconst (v := Int32.ofInt 4) hx hb dX2_init_19 (by decide) ?_
  refine cs_newa (atype := .int) (N' := 4) (x := (4, .inl (fun _ => Int32.ofInt 0))) hx hb (hts (Jvm.Cond.arrayClass .int) (pm_TB_in (j := 161) (by decide +kernel) rfl)) 0 rfl rfl hK hP hS (fun _ => rfl) (by decide) (by decide) (by decide) (Nat.le_of_ble_eq_true rfl) (Nat.le_of_ble_eq_true rfl) dX2_init_20 (fun H hP hS => ?_)
  refine cs_putF (D := D) (ci := 2) (fs := [.ref (a + 1), .ref (a + 2), .null]) (v := .ref (a + 3)) hx hb hts (pm_uwB (ci := 2) (r := (RX2, TX2, 3)) rfl) tyX2 tyX2_ok nmX2 hown hK hP hS 0 (Nat.le_of_ble_eq_true rfl) rfl rfl 2 (by decide) (hts _ (pm_TB_in (j := 459) (by decide +kernel) rfl)) (fun _ h9 => h9) rfl hin rfl (ty := tyX2 2) (tyX2_ok 2 (by decide)) rfl rfl (Nat.le_of_ble_eq_true rfl) dX2_init_22 (fun H locs hP hS => ?_)
  refine W.widen (k := 4 - 1) (n := 12) (Nat.le_of_ble_eq_true rfl) (Nat.le_of_ble_eq_true rfl) ?_
  refine W.vret hx hb hr (fun t ht hW => ⟨rfl, ?_, hS.F ht⟩) hS.2.2 dX2_init_25
  rw [ht]
  refine cs_cg (n := 4) hP ?_
  intro i hi
  match i, hi with
  | 0, _ => rfl
  | 1, _ => rfl
  | 2, _ => rfl
  | 3, _ => rfl
  | k + 4, h => exact absurd h (by omega)
theorem dX7_init_0 : decode cX7_init 0 = .ok (.aload_n 0, 1) := by decide +kernel
theorem dX7_init_1 : decode cX7_init 1 = .ok (.invokespecial 3, 3) := by decide +kernel
theorem dX7_init_4 : decode cX7_init 4 = .ok (.aload_n 0, 1) := by decide +kernel
theorem dX7_init_5 : decode cX7_init 5 = .ok (.bipush 8, 2) := by decide +kernel
theorem dX7_init_7 : decode cX7_init 7 = .ok (.newarray .int, 2) := by decide +kernel
theorem dX7_init_9 : decode cX7_init 9 = .ok (.putfield 9, 3) := by decide +kernel
theorem dX7_init_12 : decode cX7_init 12 = .ok (.aload_n 0, 1) := by decide +kernel
theorem dX7_init_13 : decode cX7_init 13 = .ok (.bipush 8, 2) := by decide +kernel
theorem dX7_init_15 : decode cX7_init 15 = .ok (.newarray .int, 2) := by decide +kernel
theorem dX7_init_17 : decode cX7_init 17 = .ok (.putfield 15, 3) := by decide +kernel
theorem dX7_init_20 : decode cX7_init 20 = .ok (.aload_n 0, 1) := by decide +kernel
theorem dX7_init_21 : decode cX7_init 21 = .ok (.bipush 8, 2) := by decide +kernel
theorem dX7_init_23 : decode cX7_init 23 = .ok (.newarray .int, 2) := by decide +kernel
theorem dX7_init_25 : decode cX7_init 25 = .ok (.putfield 18, 3) := by decide +kernel
theorem dX7_init_28 : decode cX7_init 28 = .ok (.aload_n 0, 1) := by decide +kernel
theorem dX7_init_29 : decode cX7_init 29 = .ok (.bipush 10, 2) := by decide +kernel
theorem dX7_init_31 : decode cX7_init 31 = .ok (.newarray .int, 2) := by decide +kernel
theorem dX7_init_33 : decode cX7_init 33 = .ok (.putfield 21, 3) := by decide +kernel
theorem dX7_init_36 : decode cX7_init 36 = .ok (.aload_n 0, 1) := by decide +kernel
theorem dX7_init_37 : decode cX7_init 37 = .ok (.bipush 10, 2) := by decide +kernel
theorem dX7_init_39 : decode cX7_init 39 = .ok (.newarray .int, 2) := by decide +kernel
theorem dX7_init_41 : decode cX7_init 41 = .ok (.putfield 24, 3) := by decide +kernel
theorem dX7_init_44 : decode cX7_init 44 = .ok (.return_, 1) := by decide +kernel
theorem cd_X7 : ∀ j, j < 7 → defaultValue (tyX7 j) = vp_V [.null, .null, .null, .null, .null, .int (Int32.ofInt 0), .int (Int32.ofInt 0)] j := by
  intro j hj
  match j, hj with
  | 0, _ => rfl
  | 1, _ => rfl
  | 2, _ => rfl
  | 3, _ => rfl
  | 4, _ => rfl
  | 5, _ => rfl
  | 6, _ => rfl
  | k + 7, h => exact absurd h (by omega)
set_option maxHeartbeats 4000000 in
set_option maxRecDepth 100000 in
theorem ct_X7 (l : Launch) (D : va_G) (G : pm_G) (a : Nat) : Met l yX7_init (Jvm.Cond.code yX7_init cX7_init 1 none :: pm_TB) ({ frames := 1, cells := 5, slots := 44, locals := 33 }) (cs_Pc D G 7 [.null, .null, .null, .null, .null, .int (Int32.ofInt 0), .int (Int32.ofInt 0)] a) (cs_Qc D 6 (cs_B 147 G a) a) (6 - 1) 44 (cs_A a) := by
  refine Met.ofW (cc := cX7_init) (maxL := 1) (ret := none) (by decide) rfl ?_
  intro p e s m args below meth c s₁ B hml hv
  obtain ⟨rfl, hz, h0, hK, hNW⟩ := hv
  have hx := B.exec
  have hb := B.bytes
  have hr := B.returns
  have hts : ∀ w ∈ pm_TB, w.before #[Value.ref a] s = true := fun w hw => atoms_spec (ws := Jvm.Cond.code yX7_init cX7_init 1 none :: pm_TB) B.pre w (List.mem_cons_of_mem _ hw)
  have hown : s.vm.findClass RX7 = some m.cls := findClass_of_methodNamed B.named
  have hlocks := B.notSynchronized
  have hin : meth.name = "<init>" := (name_of_methodNamed B.named B.method).1
  have hP : cs_P D a 1 (fun _ => .inr (7, [.null, .null, .null, .null, .null, .int (Int32.ofInt 0), .int (Int32.ofInt 0)])) s.heap := ⟨hz, fun i hi => by rw [show i = 0 by omega]; exact h0⟩
  have hS : va_S (cs_A a) s.heap s.heap [] := va_S.rf
  have hl := lv_entry ([.ref a]) (n := 1) (Nat.le_of_ble_eq_true rfl)
  rw [lg_entry_eq]
  generalize (lg_sl ([.ref a]) ++ List.replicate (1 - (lg_sl ([.ref a])).length) Slot.unset).toArray = ls at hl ⊢
  have hl : lv_has ls 1 [(0, .ref (a + 0))] := hl
  refine lv_aload_n hx hb dX7_init_0 rfl (lv_at hl 0 rfl) ?_
  refine W.objInit hx hb hown (hts _ (pm_TB_in (j := 498) (by decide +kernel) rfl)) (hts _ (pm_TB_in (j := 105) (by decide +kernel) rfl)) (hts _ (pm_TB_in (j := 106) (by decide +kernel) rfl)) rfl (by rw [hml]; exact hl.1) rfl dX7_init_1 (Nat.le_of_ble_eq_true rfl) (Nat.le_of_ble_eq_true rfl) ?_
  refine W.eq (g2 := F0 m 4 ls []) rfl ?_
  refine lv_aload_n hx hb dX7_init_4 rfl (lv_at hl 0 rfl) ?_
  refine lv_bipush (v := Int32.ofInt 8) hx hb dX7_init_5 (by decide) ?_
  refine cs_newa (atype := .int) (N' := 8) (x := (8, .inl (fun _ => Int32.ofInt 0))) hx hb (hts (Jvm.Cond.arrayClass .int) (pm_TB_in (j := 161) (by decide +kernel) rfl)) 0 rfl rfl hK hP hS (fun _ => rfl) (by decide) (by decide) (by decide) (Nat.le_of_ble_eq_true rfl) (Nat.le_of_ble_eq_true rfl) dX7_init_7 (fun H hP hS => ?_)
  refine cs_putF (D := D) (ci := 7) (fs := [.null, .null, .null, .null, .null, .int (Int32.ofInt 0), .int (Int32.ofInt 0)]) (v := .ref (a + 1)) hx hb hts (pm_uwB (ci := 7) (r := (RX7, TX7, 7)) rfl) tyX7 tyX7_ok nmX7 hown hK hP hS 0 (Nat.le_of_ble_eq_true rfl) rfl rfl 0 (by decide) (hts _ (pm_TB_in (j := 499) (by decide +kernel) rfl)) (fun _ h9 => h9) rfl hin rfl (ty := tyX7 0) (tyX7_ok 0 (by decide)) rfl rfl (Nat.le_of_ble_eq_true rfl) dX7_init_9 (fun H locs hP hS => ?_)
  refine lv_aload_n hx hb dX7_init_12 rfl (lv_at hl 0 rfl) ?_
  refine lv_bipush (v := Int32.ofInt 8) hx hb dX7_init_13 (by decide) ?_
  refine cs_newa (atype := .int) (N' := 8) (x := (8, .inl (fun _ => Int32.ofInt 0))) hx hb (hts (Jvm.Cond.arrayClass .int) (pm_TB_in (j := 161) (by decide +kernel) rfl)) 0 rfl rfl hK hP hS (fun _ => rfl) (by decide) (by decide) (by decide) (Nat.le_of_ble_eq_true rfl) (Nat.le_of_ble_eq_true rfl) dX7_init_15 (fun H hP hS => ?_)
  refine cs_putF (D := D) (ci := 7) (fs := [.ref (a + 1), .null, .null, .null, .null, .int (Int32.ofInt 0), .int (Int32.ofInt 0)]) (v := .ref (a + 2)) hx hb hts (pm_uwB (ci := 7) (r := (RX7, TX7, 7)) rfl) tyX7 tyX7_ok nmX7 hown hK hP hS 0 (Nat.le_of_ble_eq_true rfl) rfl rfl 1 (by decide) (hts _ (pm_TB_in (j := 500) (by decide +kernel) rfl)) (fun _ h9 => h9) rfl hin rfl (ty := tyX7 1) (tyX7_ok 1 (by decide)) rfl rfl (Nat.le_of_ble_eq_true rfl) dX7_init_17 (fun H locs hP hS => ?_)
  refine lv_aload_n hx hb dX7_init_20 rfl (lv_at hl 0 rfl) ?_
  refine lv_bipush (v := Int32.ofInt 8) hx hb dX7_init_21 (by decide) ?_
  refine cs_newa (atype := .int) (N' := 8) (x := (8, .inl (fun _ => Int32.ofInt 0))) hx hb (hts (Jvm.Cond.arrayClass .int) (pm_TB_in (j := 161) (by decide +kernel) rfl)) 0 rfl rfl hK hP hS (fun _ => rfl) (by decide) (by decide) (by decide) (Nat.le_of_ble_eq_true rfl) (Nat.le_of_ble_eq_true rfl) dX7_init_23 (fun H hP hS => ?_)
  refine cs_putF (D := D) (ci := 7) (fs := [.ref (a + 1), .ref (a + 2), .null, .null, .null, .int (Int32.ofInt 0), .int (Int32.ofInt 0)]) (v := .ref (a + 3)) hx hb hts (pm_uwB (ci := 7) (r := (RX7, TX7, 7)) rfl) tyX7 tyX7_ok nmX7 hown hK hP hS 0 (Nat.le_of_ble_eq_true rfl) rfl rfl 2 (by decide) (hts _ (pm_TB_in (j := 501) (by decide +kernel) rfl)) (fun _ h9 => h9) rfl hin rfl (ty := tyX7 2) (tyX7_ok 2 (by decide)) rfl rfl (Nat.le_of_ble_eq_true rfl) dX7_init_25 (fun H locs hP hS => ?_)
  refine lv_aload_n hx hb dX7_init_28 rfl (lv_at hl 0 rfl) ?_
  refine lv_bipush (v := Int32.ofInt 10) hx hb dX7_init_29 (by decide) ?_
  refine cs_newa (atype := .int) (N' := 10) (x := (10, .inl (fun _ => Int32.ofInt 0))) hx hb (hts (Jvm.Cond.arrayClass .int) (pm_TB_in (j := 161) (by decide +kernel) rfl)) 0 rfl rfl hK hP hS (fun _ => rfl) (by decide) (by decide) (by decide) (Nat.le_of_ble_eq_true rfl) (Nat.le_of_ble_eq_true rfl) dX7_init_31 (fun H hP hS => ?_)
  refine cs_putF (D := D) (ci := 7) (fs := [.ref (a + 1), .ref (a + 2), .ref (a + 3), .null, .null, .int (Int32.ofInt 0), .int (Int32.ofInt 0)]) (v := .ref (a + 4)) hx hb hts (pm_uwB (ci := 7) (r := (RX7, TX7, 7)) rfl) tyX7 tyX7_ok nmX7 hown hK hP hS 0 (Nat.le_of_ble_eq_true rfl) rfl rfl 3 (by decide) (hts _ (pm_TB_in (j := 502) (by decide +kernel) rfl)) (fun _ h9 => h9) rfl hin rfl (ty := tyX7 3) (tyX7_ok 3 (by decide)) rfl rfl (Nat.le_of_ble_eq_true rfl) dX7_init_33 (fun H locs hP hS => ?_)
  refine lv_aload_n hx hb dX7_init_36 rfl (lv_at hl 0 rfl) ?_
  refine lv_bipush (v := Int32.ofInt 10) hx hb dX7_init_37 (by decide) ?_
  refine cs_newa (atype := .int) (N' := 10) (x := (10, .inl (fun _ => Int32.ofInt 0))) hx hb (hts (Jvm.Cond.arrayClass .int) (pm_TB_in (j := 161) (by decide +kernel) rfl)) 0 rfl rfl hK hP hS (fun _ => rfl) (by decide) (by decide) (by decide) (Nat.le_of_ble_eq_true rfl) (Nat.le_of_ble_eq_true rfl) dX7_init_39 (fun H hP hS => ?_)
  refine cs_putF (D := D) (ci := 7) (fs := [.ref (a + 1), .ref (a + 2), .ref (a + 3), .ref (a + 4), .null, .int (Int32.ofInt 0), .int (Int32.ofInt 0)]) (v := .ref (a + 5)) hx hb hts (pm_uwB (ci := 7) (r := (RX7, TX7, 7)) rfl) tyX7 tyX7_ok nmX7 hown hK hP hS 0 (Nat.le_of_ble_eq_true rfl) rfl rfl 4 (by decide) (hts _ (pm_TB_in (j := 503) (by decide +kernel) rfl)) (fun _ h9 => h9) rfl hin rfl (ty := tyX7 4) (tyX7_ok 4 (by decide)) rfl rfl (Nat.le_of_ble_eq_true rfl) dX7_init_41 (fun H locs hP hS => ?_)
  refine W.widen (k := 6 - 1) (n := 44) (Nat.le_of_ble_eq_true rfl) (Nat.le_of_ble_eq_true rfl) ?_
  refine W.vret hx hb hr (fun t ht hW => ⟨rfl, ?_, hS.F ht⟩) hS.2.2 dX7_init_44
  rw [ht]
  refine cs_cg (n := 6) hP ?_
  intro i hi
  match i, hi with
  | 0, _ => rfl
  | 1, _ => rfl
  | 2, _ => rfl
  | 3, _ => rfl
  | 4, _ => rfl
  | 5, _ => rfl
  | k + 6, h => exact absurd h (by omega)
theorem dX3_init_0 : decode cX3_init 0 = .ok (.aload_n 0, 1) := by decide +kernel
theorem dX3_init_1 : decode cX3_init 1 = .ok (.invokespecial 5, 3) := by decide +kernel
theorem dX3_init_4 : decode cX3_init 4 = .ok (.aload_n 0, 1) := by decide +kernel
theorem dX3_init_5 : decode cX3_init 5 = .ok (.bipush 13, 2) := by decide +kernel
theorem dX3_init_7 : decode cX3_init 7 = .ok (.newarray .long, 2) := by decide +kernel
theorem dX3_init_9 : decode cX3_init 9 = .ok (.putfield 11, 3) := by decide +kernel
theorem dX3_init_12 : decode cX3_init 12 = .ok (.aload_n 0, 1) := by decide +kernel
theorem dX3_init_13 : decode cX3_init 13 = .ok (.bipush 13, 2) := by decide +kernel
theorem dX3_init_15 : decode cX3_init 15 = .ok (.newarray .long, 2) := by decide +kernel
theorem dX3_init_17 : decode cX3_init 17 = .ok (.putfield 15, 3) := by decide +kernel
theorem dX3_init_20 : decode cX3_init 20 = .ok (.return_, 1) := by decide +kernel
theorem cd_X3 : ∀ j, j < 3 → defaultValue (tyX3 j) = vp_V [.null, .null, .int (Int32.ofInt 0)] j := by
  intro j hj
  match j, hj with
  | 0, _ => rfl
  | 1, _ => rfl
  | 2, _ => rfl
  | k + 3, h => exact absurd h (by omega)
set_option maxHeartbeats 4000000 in
set_option maxRecDepth 100000 in
theorem ct_X3 (l : Launch) (D : va_G) (G : pm_G) (a : Nat) : Met l yX3_init (Jvm.Cond.code yX3_init cX3_init 1 none :: pm_TB) ({ frames := 1, cells := 2, slots := 26, locals := 33 }) (cs_Pc D G 3 [.null, .null, .int (Int32.ofInt 0)] a) (cs_Qc D 3 (cs_B 153 G a) a) (3 - 1) 26 (cs_A a) := by
  refine Met.ofW (cc := cX3_init) (maxL := 1) (ret := none) (by decide) rfl ?_
  intro p e s m args below meth c s₁ B hml hv
  obtain ⟨rfl, hz, h0, hK, hNW⟩ := hv
  have hx := B.exec
  have hb := B.bytes
  have hr := B.returns
  have hts : ∀ w ∈ pm_TB, w.before #[Value.ref a] s = true := fun w hw => atoms_spec (ws := Jvm.Cond.code yX3_init cX3_init 1 none :: pm_TB) B.pre w (List.mem_cons_of_mem _ hw)
  have hown : s.vm.findClass RX3 = some m.cls := findClass_of_methodNamed B.named
  have hlocks := B.notSynchronized
  have hin : meth.name = "<init>" := (name_of_methodNamed B.named B.method).1
  have hP : cs_P D a 1 (fun _ => .inr (3, [.null, .null, .int (Int32.ofInt 0)])) s.heap := ⟨hz, fun i hi => by rw [show i = 0 by omega]; exact h0⟩
  have hS : va_S (cs_A a) s.heap s.heap [] := va_S.rf
  have hl := lv_entry ([.ref a]) (n := 1) (Nat.le_of_ble_eq_true rfl)
  rw [lg_entry_eq]
  generalize (lg_sl ([.ref a]) ++ List.replicate (1 - (lg_sl ([.ref a])).length) Slot.unset).toArray = ls at hl ⊢
  have hl : lv_has ls 1 [(0, .ref (a + 0))] := hl
  refine lv_aload_n hx hb dX3_init_0 rfl (lv_at hl 0 rfl) ?_
  refine W.objInit hx hb hown (hts _ (pm_TB_in (j := 526) (by decide +kernel) rfl)) (hts _ (pm_TB_in (j := 105) (by decide +kernel) rfl)) (hts _ (pm_TB_in (j := 106) (by decide +kernel) rfl)) rfl (by rw [hml]; exact hl.1) rfl dX3_init_1 (Nat.le_of_ble_eq_true rfl) (Nat.le_of_ble_eq_true rfl) ?_
  refine W.eq (g2 := F0 m 4 ls []) rfl ?_
  refine lv_aload_n hx hb dX3_init_4 rfl (lv_at hl 0 rfl) ?_
  refine lv_bipush (v := Int32.ofInt 13) hx hb dX3_init_5 (by decide) ?_
  refine cs_newa (atype := .long) (N' := 13) (x := (13, .inr (.inl (fun _ => Int64.ofInt 0)))) hx hb (hts (Jvm.Cond.arrayClass .long) (pm_TB_in (j := 377) (by decide +kernel) rfl)) 1 rfl rfl hK hP hS (fun _ => rfl) (by decide) (by decide) (by decide) (Nat.le_of_ble_eq_true rfl) (Nat.le_of_ble_eq_true rfl) dX3_init_7 (fun H hP hS => ?_)
  refine cs_put (D := D) (ci := 3) (fs := [.null, .null, .int (Int32.ofInt 0)]) (v := .ref (a + 1)) hx hb hts (pm_uwB (ci := 3) (r := (RX3, TX3, 3)) rfl) tyX3 tyX3_ok nmX3 hown hK hP hS 0 (Nat.le_of_ble_eq_true rfl) rfl rfl 0 (by decide) (hts _ (pm_TB_in (j := 527) (by decide +kernel) rfl)) (fun _ h9 => h9) rfl (ty := tyX3 0) (tyX3_ok 0 (by decide)) rfl rfl (Nat.le_of_ble_eq_true rfl) dX3_init_9 (fun H locs hP hS => ?_)
  refine lv_aload_n hx hb dX3_init_12 rfl (lv_at hl 0 rfl) ?_
  refine lv_bipush (v := Int32.ofInt 13) hx hb dX3_init_13 (by decide) ?_
  refine cs_newa (atype := .long) (N' := 13) (x := (13, .inr (.inl (fun _ => Int64.ofInt 0)))) hx hb (hts (Jvm.Cond.arrayClass .long) (pm_TB_in (j := 377) (by decide +kernel) rfl)) 1 rfl rfl hK hP hS (fun _ => rfl) (by decide) (by decide) (by decide) (Nat.le_of_ble_eq_true rfl) (Nat.le_of_ble_eq_true rfl) dX3_init_15 (fun H hP hS => ?_)
  refine cs_put (D := D) (ci := 3) (fs := [.ref (a + 1), .null, .int (Int32.ofInt 0)]) (v := .ref (a + 2)) hx hb hts (pm_uwB (ci := 3) (r := (RX3, TX3, 3)) rfl) tyX3 tyX3_ok nmX3 hown hK hP hS 0 (Nat.le_of_ble_eq_true rfl) rfl rfl 1 (by decide) (hts _ (pm_TB_in (j := 528) (by decide +kernel) rfl)) (fun _ h9 => h9) rfl (ty := tyX3 1) (tyX3_ok 1 (by decide)) rfl rfl (Nat.le_of_ble_eq_true rfl) dX3_init_17 (fun H locs hP hS => ?_)
  refine W.widen (k := 3 - 1) (n := 26) (Nat.le_of_ble_eq_true rfl) (Nat.le_of_ble_eq_true rfl) ?_
  refine W.vret hx hb hr (fun t ht hW => ⟨rfl, ?_, hS.F ht⟩) hS.2.2 dX3_init_20
  rw [ht]
  refine cs_cg (n := 3) hP ?_
  intro i hi
  match i, hi with
  | 0, _ => rfl
  | 1, _ => rfl
  | 2, _ => rfl
  | k + 3, h => exact absurd h (by omega)
