/-! Placing, class and model. -/
noncomputable def pinz (z : Int → Int) (nw : Nat) (j : Int) : Int := if 0 ≤ j ∧ j < opn z nw then z (280 + opc z nw j) else -1
theorem okp_of {b : Int} {h : pH} {z : Int → Int} {nm nw : Nat} (r : rl b h z nm nw) (y : yl z nm nw) (h8 : opn z nw ≤ 8) : OKP (pinz z nw) (gmz z nm) (zins (gmz z nm) nm) (opn z nw) nm := by
  obtain ⟨ya, ym, -, -, yw, -, -, -⟩ := y
  obtain ⟨-, -, -, -, -, -, a8, a8', ac, ak⟩ := ya
  obtain ⟨y12, y10, yk⟩ := ym
  obtain ⟨w13, w16, -, wk⟩ := yw
  refine ⟨h8, y10, fun j j1 j2 => ?_, fun m => ?_, fun k k1 k2 => zins_rng _ nm k k1 k2, fun j k j1 j2 k1 k2 e => zins_inj _ nm j k j1 j2 k1 k2 e, fun m m1 m2 => zins_sur _ nm m m1 m2, fun j k j1 j2 k2 => zins_key _ nm j k j1 j2 k2⟩
  · unfold pinz
    rw [if_pos ⟨j1, j2⟩]
    obtain ⟨o1, o2, -⟩ := opc_rng nw j j1 j2
    have := (wk _ o1 o2).2.2.1
    omega
  · unfold gmz
    by_cases c : 0 ≤ m ∧ m < nm
    · rw [if_pos c]
      have k1 := (yk m c.1 c.2).1
      unfold zgauge
      by_cases c8 : z 8 = 0
      · rw [if_pos c8]
        have := ac (z (84 + m)) k1.1 k1.2
        omega
      · rw [if_neg c8]
        have := ak (12 * (z 8 - 1) + z (84 + m)) (by omega) (by omega)
        rw [show 440 + 12 * (z 8 - 1) + z (84 + m) = 440 + (12 * (z 8 - 1) + z (84 + m)) by omega]
        exact this
    · rw [if_neg c]; omega
theorem place_X {h : pH} {z : Int → Int} {nm nw : Nat} (r : rl 1 h z nm nw) (y : yl z nm nw) (h8 : opn z nw ≤ 8) :
    P_X7_place 1 h ∧ (∀ a, a ≠ 147 → a ≠ 148 → a ≠ 149 → a ≠ 150 → a ≠ 151 → a ≠ 152 → H_X7_place 1 h a = h a) ∧ P_X7_sum (H_X7_place 1 h) ∧
    F_X7_sum (H_X7_place 1 h) = smq (pinz z nw) (gmz z nm) (zins (gmz z nm) nm) (opn z nw) nm (fsz z nm 0) (opn z nw) ∧
    (∃ cnt : Int, 0 ≤ cnt ∧ cnt ≤ opn z nw ∧ VV (pinz z nw) (gmz z nm) (zins (gmz z nm) nm) (opn z nw) nm (opn z nw) (fsz z nm 0) = cnt * 1099511627776 - smq (pinz z nw) (gmz z nm) (zins (gmz z nm) nm) (opn z nw) nm (fsz z nm 0) (opn z nw)) ∧
    ∀ k : Nat, k < opn z nw → P_X7_machineFor (opc z nw k) (H_X7_place 1 h) ∧ F_X7_machineFor (opc z nw k) (H_X7_place 1 h) = chq (pinz z nw) (gmz z nm) (zins (gmz z nm) nm) (opn z nw) nm (fsz z nm 0) k := by
  have ok := okp_of r y h8
  have y' := y
  obtain ⟨ra, rm, -, -, rw_, -, -, -⟩ := r
  obtain ⟨ya, ym, -, -, yw, -, -, -⟩ := y'
  obtain ⟨-, -, -, r8, rc, rk⟩ := ra
  obtain ⟨-, -, -, -, -, -, a8, a8', ac, ak⟩ := ya
  obtain ⟨m10, mk⟩ := rm
  obtain ⟨y12, y10, yk⟩ := ym
  obtain ⟨w15, -, wk, -⟩ := rw_
  obtain ⟨w13, w16, -, wy⟩ := yw
  obtain ⟨t1, t2, t3, t4, t5⟩ := take_works (h := h) (z := z) w15 w16 (fun w w1 w2 => by
    have := (wk w w1 w2).2.2.2.2.2.2.2.1
    rw [show (1 : Int) + 32 = 33 by omega] at this
    rw [this]
    exact zst_open (wy w w1 w2).1) h8
  have f1 : ∀ a, a ≠ 147 → a ≠ 148 → a ≠ 149 → H_X7_takeWorks 22 h a = h a := t2
  generalize hh1 : H_X7_takeWorks 22 h = h1 at *
  have e2 := f1 2 (by omega) (by omega) (by omega)
  have e3 := f1 3 (by omega) (by omega) (by omega)
  have e6 := f1 6 (by omega) (by omega) (by omega)
  have e8 := f1 8 (by omega) (by omega) (by omega)
  have e9 := f1 9 (by omega) (by omega) (by omega)
  have e14 := f1 14 (by omega) (by omega) (by omega)
  have e15 := f1 15 (by omega) (by omega) (by omega)
  have r8' : h 2 8 = z 8 := r8
  obtain ⟨v1, v2, v3, v4, v5, v6⟩ := take_machines (h := h1) (z := z) (nm := nm) (by rw [e8]; exact m10) y10 (by rw [e2, r8']; omega) (fun m q1 q2 => by
    obtain ⟨k1, -, -, -, -, k6, k7, -⟩ := mk m q1 q2
    have k1' : h 9 m = z (84 + m) := k1
    have k6' : h 14 m = z (134 + m) := k6
    have k7' : h 15 m = z (144 + m) := k7
    have yc := (yk m q1 q2).1
    rw [e9, e14, e15, k1', k6', k7']
    refine ⟨yc.1, yc.2, ?_, rfl, rfl⟩
    unfold s_X0_gauge_1 zgauge
    rw [show (2 : Int) + 1 = 3 by omega, show (2 : Int) + 4 = 6 by omega, e2, e3, e6, r8']
    have c1 : h 3 (z (84 + m)) = z (20 + z (84 + m)) := (rc (z (84 + m)) yc.1 yc.2).1
    by_cases c8 : z 8 = 0
    · rw [if_pos c8, if_pos c8]; exact c1
    · rw [if_neg c8, if_neg c8]
      have := rk ((z 8 - 1) * 12 + z (84 + m)) (by omega) (by omega)
      rw [show 440 + 12 * (z 8 - 1) + z (84 + m) = 440 + ((z 8 - 1) * 12 + z (84 + m)) by omega]
      exact this)
  generalize hh2 : H_X7_takeMachines 1 h1 = h2 at *
  generalize hF : F_X7_takeMachines 1 h1 = F at *
  have eF : fb nm F = fsz z nm 0 := by
    funext q
    show (decide (0 ≤ q ∧ q < nm) && bt F q.toNat) = ((decide (0 ≤ q ∧ q < nm) && decide (z (134 + q) = 0 ∧ z (144 + q) = 0)) && ! bt 0 q.toNat)
    have b0 : bt 0 q.toNat = false := by unfold bt bv; simp
    rw [b0, Bool.not_false, Bool.and_true]
    by_cases c : 0 ≤ q ∧ q < nm
    · obtain ⟨n, hn⟩ : ∃ n : Nat, q = n := ⟨q.toNat, by omega⟩
      subst hn
      rw [decide_eq_true c, Bool.true_and, Bool.true_and, Int.toNat_natCast]
      have v := v6 n (by omega)
      unfold fitz at v
      by_cases d : z (134 + n) = 0 ∧ z (144 + n) = 0
      · rw [decide_eq_true d, v.mpr d]
      · rw [decide_eq_false d]
        exact Bool.eq_false_iff.mpr (fun w => d (v.mp w))
    · rw [decide_eq_false c, Bool.false_and, Bool.false_and]
  have e31 : h 31 = h (1 + 30) := by rw [show (1 : Int) + 30 = 31 by omega]
  have se : SETP h2 (pinz z nw) (gmz z nm) (zins (gmz z nm) nm) (opn z nw) nm := by
    refine ⟨by rw [v3 5 (by omega)]; exact t4, v4, fun j j1 j2 => ?_, fun m q1 q2 => (v5 m q1 q2).1, fun k q1 q2 => (v5 k q1 q2).2⟩
    rw [v2 149 (by omega) (by omega) (by omega), (t5 j j1 j2).2]
    unfold pinz
    rw [if_pos ⟨j1, j2⟩, e31]
    obtain ⟨o1, o2, -⟩ := opc_rng nw j j1 j2
    exact (wk _ o1 o2).2.2.2.2.2.1
  have bf := best_from ok se (r := opn z nw) (Nat.le_refl _) (i := 0) (by omega) F
  have pl := place_loop ok se (x2 := F) (x3 := F_X7_bestFrom 0 F h2) bf.2
  rw [eF] at pl
  obtain ⟨p1, p2, p3, p4⟩ := pl
  have eP : s_X7_place_1 1 h = F_X7_bestFrom 0 F h2 := by
    unfold s_X7_place_1
    rw [show (1 : Int) + 21 = 22 by omega, hh1, hh2, hF]
  have eH : H_X7_place 1 h = (L_X7_place_15 F (F_X7_bestFrom 0 F h2) 0 h2).2.2.2 := by
    unfold H_X7_place s_X7_place_8
    rw [eP, show (1 : Int) + 21 = 22 by omega, hh1, hh2, hF]
  rw [← eH] at p2 p3
  have hc : ∀ j : Nat, j < opn z nw → H_X7_place 1 h 150 j = chq (pinz z nw) (gmz z nm) (zins (gmz z nm) nm) (opn z nw) nm (fsz z nm 0) j ∧ -1 ≤ chq (pinz z nw) (gmz z nm) (zins (gmz z nm) nm) (opn z nw) nm (fsz z nm 0) j ∧ chq (pinz z nw) (gmz z nm) (zins (gmz z nm) nm) (opn z nw) nm (fsz z nm 0) j < nm := fun j hj => by
    obtain ⟨q1, q2⟩ := p3 j hj
    have := pick_step q2
    exact ⟨q1, this.1, this.2.1⟩
  have c5 : H_X7_place 1 h 147 5 = opn z nw := by rw [p2 147 (by omega)]; exact se.1
  have sp := sum_placed ok (fsz z nm 0) c5 (fun m q1 q2 => by rw [p2 151 (by omega)]; exact se.2.2.2.1 m q1 q2) hc
  refine ⟨?_, fun a a1 a2 a3 a4 a5 a6 => ?_, sp.1, sp.2, p4, fun k hk => ?_⟩
  · unfold P_X7_place
    rw [eP, show (1 : Int) + 21 = 22 by omega, hh1, hh2, hF]
    exact ⟨t1, v1, bf.1, p1⟩
  · rw [p2 a a4, v2 a a1 a5 a6]
    exact t2 a a1 a2 a3
  · have e48 : ∀ j : Int, 0 ≤ j → j < opn z nw → H_X7_place 1 h 148 j = opc z nw j := fun j j1 j2 => by
      rw [p2 148 (by omega), v2 148 (by omega) (by omega) (by omega)]
      exact (t5 j j1 j2).1
    have mf := machine_for h8 c5 hk (e48 k (by omega) (by omega)) (fun j j1 j2 => by
      rw [e48 j j1 (by omega)]
      have := opc_lt (z := z) nw j k j1 j2 (by omega)
      omega)
    exact ⟨mf.1, mf.2.trans (hc k hk).1⟩
theorem place_M {h g : pH} {nm nw : Nat} (r : rl 1 h (g 249) nm nw) (y : yl (g 249) nm nw) (h8 : opn (g 249) nw ≤ 8) :
    P_X12_findPlacing (opn (g 249) nw) (H_X12_findOpen g) ∧ (∀ a, a ≠ 265 → a ≠ 266 → a ≠ 267 → H_X12_findPlacing (opn (g 249) nw) (H_X12_findOpen g) a = g a) ∧
    (∃ cnt : Int, 0 ≤ cnt ∧ cnt ≤ opn (g 249) nw ∧ H_X12_findPlacing (opn (g 249) nw) (H_X12_findOpen g) 266 0 ≤ cnt * 150022500 ∧ cnt * (-150022500) ≤ H_X12_findPlacing (opn (g 249) nw) (H_X12_findOpen g) 266 0 ∧
      VV (pinz (g 249) nw) (gmz (g 249) nm) (zins (gmz (g 249) nm) nm) (opn (g 249) nw) nm (opn (g 249) nw) (fsz (g 249) nm 0) = cnt * 1099511627776 - H_X12_findPlacing (opn (g 249) nw) (H_X12_findOpen g) 266 0) ∧
    ∀ k : Nat, k < opn (g 249) nw → O_X12_placing_56 (opc (g 249) nw k) (opn (g 249) nw) (H_X12_findPlacing (opn (g 249) nw) (H_X12_findOpen g)) 0 (-1) 0 ∧
      (L_X12_placing_56 (opc (g 249) nw k) (opn (g 249) nw) (H_X12_findPlacing (opn (g 249) nw) (H_X12_findOpen g)) 0 (-1) 0).2.2.1 = chq (pinz (g 249) nw) (gmz (g 249) nm) (zins (gmz (g 249) nm) nm) (opn (g 249) nw) nm (fsz (g 249) nm 0) k := by
  have ok := okp_of r y h8
  obtain ⟨ya, ym, -, -, yw, -, -, -⟩ := y
  obtain ⟨-, -, -, -, -, -, a8, a8', ac, ak⟩ := ya
  obtain ⟨y12, y10, yk⟩ := ym
  obtain ⟨w13, w16, -, wy⟩ := yw
  obtain ⟨o1, o2, o3, o4⟩ := find_open (g := g) w13 w16
  have e9 := o3 249 (by omega)
  have ms : MSET (H_X12_findOpen g) (pinz (g 249) nw) (gmz (g 249) nm) (opn (g 249) nw) nm := by
    unfold MSET
    rw [e9]
    refine ⟨y12, fun j j1 j2 => ?_, fun m m1 m2 => ⟨(yk m m1 m2).1.1, (yk m m1 m2).1.2, ?_⟩, a8, a8'⟩
    · rw [o4 j j1 j2]
      obtain ⟨q1, q2, -⟩ := opc_rng nw j j1 j2
      refine ⟨q1, by omega, ?_⟩
      unfold pinz
      rw [if_pos ⟨j1, j2⟩]
    · unfold gmz
      rw [if_pos ⟨m1, m2⟩]
  obtain ⟨f1, f2, f3⟩ := find_placing (ks := zins (gmz (g 249) nm) nm) ok ms
  have f9 := f2 249 (by omega) (by omega)
  have f7 := f2 267 (by omega) (by omega)
  refine ⟨f1, fun a a1 a2 a3 => (f2 a a1 a2).trans (o3 a a3), ?_, fun k hk => ?_⟩
  · have d := f3 _ (Nat.le_refl _) 0 (by omega) (by omega)
    unfold DP at d
    rw [f9, e9, show 1024 * (((opn (g 249) nw : Nat) : Int) - ((opn (g 249) nw : Nat) : Int)) + 0 = 0 by omega] at d
    obtain ⟨d1, d2, d3, d4, d5⟩ := d
    exact ⟨_, d1, d2, d4, d3, d5.symm⟩
  · have cm := chosen_M ok (MSET_cg ms f9 f7) f3 (a1 := opc (g 249) nw k) hk (by rw [f7]; exact o4 k (by omega) (by omega)) (fun j j1 j2 => by
      rw [f7, o4 j j1 (by omega)]
      have := opc_lt (z := g 249) nw j k j1 j2 (by omega)
      omega)
    rw [f9, e9] at cm
    exact cm
theorem m_placing {h g : pH} (al : AL h g) (a1 : Int) : P_X11_placing a1 h ∧ P_X12_placing a1 g ∧ F_X11_placing a1 h = F_X12_placing a1 g ∧ RET h g (H_X11_placing a1 h) (H_X12_placing a1 g) := by
  obtain ⟨nm, nw, q, n9⟩ := id al.1
  obtain ⟨r, y, -, -⟩ := hl_rl q
  have r' := r
  have y' := y
  obtain ⟨-, -, -, -, ⟨w15, -, wk, -⟩, -, -, -⟩ := r'
  obtain ⟨-, -, -, -, ⟨w13, w16, -, wy⟩, -, -, -⟩ := y'
  have w15' : h 22 15 = nw := w15
  obtain ⟨o1, o2, o3, o4⟩ := find_open (g := g) w13 w16
  have hop : ∀ w : Int, 0 ≤ w → w < nw → (h 33 w = 1 ↔ zopen (g 249) w) := fun w w1 w2 => by
    have := (wk w w1 w2).2.2.2.2.2.2.2.1
    rw [show (1 : Int) + 32 = 33 by omega] at this
    rw [this]
    exact zst_open (wy w w1 w2).1
  have cn := cnt_X 22 1 h nw w15' w16
  have ec : F_X10_countIn 22 1 h = opn (g 249) nw := by
    rw [cn.2, ← opn_zs]
    exact zs_congr (fun w w1 w2 => by
      rw [show (22 : Int) + 11 = 33 by omega]
      exact ite_iff _ _ _ _ (hop w w1 w2))
  have ole := opn_le (z := g 249) nw
  have om := one_M (g := H_X12_findOpen g) (N := opn (g 249) nw) (by omega) a1 (if a1 = (-1) then 1 else 0) (by split <;> omega)
  have eone : s_X12_placing_1 a1 g = (L_X12_placing_12 a1 (opn (g 249) nw) (H_X12_findOpen g) (if a1 = (-1) then 1 else 0) 0).1 := by
    unfold s_X12_placing_1
    rw [o2]
  rw [← eone] at om
  have iso : F_X10_isOpen 22 a1 h = 0 ↔ ¬ ((0 ≤ a1 ∧ a1 < nw) ∧ zopen (g 249) a1) := by
    unfold F_X10_isOpen
    rw [show (22 : Int) + 11 = 33 by omega, w15']
    by_cases c : (0 ≤ a1 ∧ a1 ≤ (nw : Int) - 1) ∧ h 33 a1 = 1
    · rw [if_pos c]
      exact ⟨fun q => by omega, fun q => absurd ⟨⟨c.1.1, by omega⟩, (hop a1 c.1.1 (by omega)).mp c.2⟩ q⟩
    · rw [if_neg c]
      exact ⟨fun _ q => c ⟨⟨q.1.1, by omega⟩, (hop a1 q.1.1 q.1.2).mpr q.2⟩, fun _ => rfl⟩
  have piso : P_X10_isOpen 22 a1 h := by
    unfold P_X10_isOpen fx_i
    rw [w15']
    exact ⟨by omega, fun _ => by omega⟩
  have rOpen : RET h g h (H_X12_findOpen g) := ret_hall al (fun _ _ => rfl) (fun a e => o3 a (by omega)) (by rw [o3 248 (by omega)]) (by rw [o3 248 (by omega)]) (by rw [o3 249 (by omega)]; exact al.1)
  by_cases h8 : opn (g 249) nw ≤ 8
  · obtain ⟨x1, x2, x3, x4, ⟨c, x5, x6, x7⟩, x8⟩ := place_X r y h8
    obtain ⟨z1, z2, ⟨c', z3, z4, z5, z6, z7⟩, z8⟩ := place_M r y h8
    have bd := smq_bd (okp_of r y h8) (fsz (g 249) nm 0) (opn (g 249) nw)
    have esum : F_X7_sum (H_X7_place 1 h) = H_X12_findPlacing (opn (g 249) nw) (H_X12_findOpen g) 266 0 := by
      rw [x4]
      rw [x7] at z7
      generalize smq (pinz (g 249) nw) (gmz (g 249) nm) (zins (gmz (g 249) nm) nm) (opn (g 249) nw) nm (fsz (g 249) nm 0) (opn (g 249) nw) = u at *
      generalize H_X12_findPlacing (opn (g 249) nw) (H_X12_findOpen g) 266 0 = v at *
      omega
    have rPl : RET h g (H_X7_place 1 h) (H_X12_findPlacing (opn (g 249) nw) (H_X12_findOpen g)) := ret_hall al (fun a e => x2 a (by omega) (by omega) (by omega) (by omega) (by omega) (by omega)) (fun a e => z2 a (by omega) (by omega) (by omega)) (by rw [z2 248 (by omega) (by omega) (by omega)]) (by rw [z2 248 (by omega) (by omega) (by omega)]) (hal_cg al.1 (fun a e1 e2 => x2 a (by omega) (by omega) (by omega) (by omega) (by omega) (by omega)) (fun k _ _ => by rw [z2 249 (by omega) (by omega) (by omega)]))
    by_cases c1 : a1 = -1
    · have s1 : ¬ s_X12_placing_1 a1 g = 0 := fun w => by
        have := (om.2.mp w).1
        rw [if_pos c1] at this
        omega
      refine ⟨⟨fun _ => ⟨cn.1, fun _ => ⟨x1, x3⟩⟩, fun w => absurd c1 w⟩, ⟨o1, by rw [o2]; exact om.1, fun _ _ => ?_⟩, ?_, ?_⟩
      · rw [o2]
        refine ⟨z1, fun _ => ?_, fun w => absurd c1 w⟩
        unfold fx_i; omega
      · unfold F_X11_placing F_X12_placing
        rw [if_pos c1, if_pos (show F_X10_countIn 22 1 h ≤ 8 by omega), if_neg s1, if_pos (show F_X12_findOpen g ≤ 8 by omega), if_pos c1, o2]
        exact esum
      · unfold H_X11_placing H_X12_placing
        rw [if_pos c1, if_pos (show F_X10_countIn 22 1 h ≤ 8 by omega), if_neg s1, if_pos (show F_X12_findOpen g ≤ 8 by omega), o2]
        exact rPl
    · by_cases c2 : (0 ≤ a1 ∧ a1 < nw) ∧ zopen (g 249) a1
      · obtain ⟨k, k1, k2, k3⟩ := opc_sur (z := g 249) nw a1 c2.1.1 c2.1.2 c2.2
        obtain ⟨n, hn⟩ : ∃ n : Nat, k = n := ⟨k.toNat, by omega⟩
        subst hn
        have s1 : ¬ s_X12_placing_1 a1 g = 0 := fun w => (om.2.mp w).2 n k1 k2 ((o4 n k1 k2).trans k3)
        have i1 : ¬ F_X10_isOpen 22 a1 h = 0 := fun w => (iso.mp w) c2
        have xx := x8 n (by omega)
        have zz := z8 n (by omega)
        rw [k3] at xx zz
        refine ⟨⟨fun w => absurd w c1, fun _ => ⟨piso, fun _ => ⟨cn.1, fun _ => ⟨x1, xx.1⟩⟩⟩⟩, ⟨o1, by rw [o2]; exact om.1, fun _ _ => ?_⟩, ?_, ?_⟩
        · rw [o2]
          exact ⟨z1, fun w => absurd w c1, fun _ => zz.1⟩
        · unfold F_X11_placing F_X12_placing s_X12_placing_11
          rw [if_neg c1, if_neg i1, if_pos (show F_X10_countIn 22 1 h ≤ 8 by omega), if_neg s1, if_pos (show F_X12_findOpen g ≤ 8 by omega), if_neg c1, o2, xx.2, zz.2]
        · unfold H_X11_placing H_X12_placing
          rw [if_neg c1, if_neg i1, if_pos (show F_X10_countIn 22 1 h ≤ 8 by omega), if_neg s1, if_pos (show F_X12_findOpen g ≤ 8 by omega), o2]
          exact rPl
      · have s1 : s_X12_placing_1 a1 g = 0 := om.2.mpr ⟨if_neg c1, fun k k1 k2 w => c2 (by
          rw [o4 k k1 k2] at w
          obtain ⟨q1, q2, q3⟩ := opc_rng (z := g 249) nw k k1 k2
          rw [w] at q1 q2 q3
          exact ⟨⟨q1, q2⟩, q3⟩)⟩
        have i1 : F_X10_isOpen 22 a1 h = 0 := iso.mpr c2
        refine ⟨⟨fun w => absurd w c1, fun _ => ⟨piso, fun w => absurd i1 w⟩⟩, ⟨o1, by rw [o2]; exact om.1, fun w => absurd s1 w⟩, ?_, ?_⟩
        · unfold F_X11_placing F_X12_placing
          rw [if_neg c1, if_pos i1, if_pos s1]
        · unfold H_X11_placing H_X12_placing
          rw [if_neg c1, if_pos i1, if_pos s1]
          exact rOpen
  · by_cases c1 : a1 = -1
    · have s1 : ¬ s_X12_placing_1 a1 g = 0 := fun w => by
        have := (om.2.mp w).1
        rw [if_pos c1] at this
        omega
      refine ⟨⟨fun _ => ⟨cn.1, fun w => by omega⟩, fun w => absurd c1 w⟩, ⟨o1, by rw [o2]; exact om.1, fun _ w => by omega⟩, ?_, ?_⟩
      · unfold F_X11_placing F_X12_placing
        rw [if_pos c1, if_neg (show ¬ F_X10_countIn 22 1 h ≤ 8 by omega), if_neg s1, if_neg (show ¬ F_X12_findOpen g ≤ 8 by omega)]
      · unfold H_X11_placing H_X12_placing
        rw [if_pos c1, if_neg (show ¬ F_X10_countIn 22 1 h ≤ 8 by omega), if_neg s1, if_neg (show ¬ F_X12_findOpen g ≤ 8 by omega)]
        exact rOpen
    · by_cases c2 : (0 ≤ a1 ∧ a1 < nw) ∧ zopen (g 249) a1
      · obtain ⟨k, k1, k2, k3⟩ := opc_sur (z := g 249) nw a1 c2.1.1 c2.1.2 c2.2
        have s1 : ¬ s_X12_placing_1 a1 g = 0 := fun w => (om.2.mp w).2 k k1 k2 ((o4 k k1 k2).trans k3)
        have i1 : ¬ F_X10_isOpen 22 a1 h = 0 := fun w => (iso.mp w) c2
        refine ⟨⟨fun w => absurd w c1, fun _ => ⟨piso, fun _ => ⟨cn.1, fun w => by omega⟩⟩⟩, ⟨o1, by rw [o2]; exact om.1, fun _ w => by omega⟩, ?_, ?_⟩
        · unfold F_X11_placing F_X12_placing
          rw [if_neg c1, if_neg i1, if_neg (show ¬ F_X10_countIn 22 1 h ≤ 8 by omega), if_neg s1, if_neg (show ¬ F_X12_findOpen g ≤ 8 by omega)]
        · unfold H_X11_placing H_X12_placing
          rw [if_neg c1, if_neg i1, if_neg (show ¬ F_X10_countIn 22 1 h ≤ 8 by omega), if_neg s1, if_neg (show ¬ F_X12_findOpen g ≤ 8 by omega)]
          exact rOpen
      · have s1 : s_X12_placing_1 a1 g = 0 := om.2.mpr ⟨if_neg c1, fun k k1 k2 w => c2 (by
          rw [o4 k k1 k2] at w
          obtain ⟨q1, q2, q3⟩ := opc_rng (z := g 249) nw k k1 k2
          rw [w] at q1 q2 q3
          exact ⟨⟨q1, q2⟩, q3⟩)⟩
        have i1 : F_X10_isOpen 22 a1 h = 0 := iso.mpr c2
        refine ⟨⟨fun w => absurd w c1, fun _ => ⟨piso, fun w => absurd i1 w⟩⟩, ⟨o1, by rw [o2]; exact om.1, fun w => absurd s1 w⟩, ?_, ?_⟩
        · unfold F_X11_placing F_X12_placing
          rw [if_neg c1, if_pos i1, if_pos s1]
        · unfold H_X11_placing H_X12_placing
          rw [if_neg c1, if_pos i1, if_pos s1]
          exact rOpen
