/-! The relation between a hall of the class (at base b) and the model's row. -/
def zst (z : Int → Int) (w : Int) : Int := nst (z (328 + w)) (z (200 + w)) (z (248 + w)) (z 15)
def zwk (z : Int → Int) (w : Int) : Prop := nwk (z (200 + w)) (z (232 + w)) (z (248 + w)) (z (264 + w)) (z (296 + w)) (z (312 + w)) (z (328 + w)) (z (360 + w)) (z 15)
def rl_air (b : Int) (h : pH) (z : Int → Int) : Prop := h (b + 1) 5 = z 0 ∧ h (b + 1) 6 = z 1 ∧ h (b + 1) 7 = z 2 ∧ h (b + 1) 8 = z 8 ∧ (∀ c : Int, 0 ≤ c → c < 12 → h (b + 2) c = z (20 + c) ∧ h (b + 3) c = z (32 + c) ∧ h (b + 4) c = z (44 + c)) ∧ ∀ k : Int, 0 ≤ k → k < 60 → h (b + 5) k = z (440 + k)
def yl_air (z : Int → Int) : Prop := 0 ≤ z 0 ∧ z 0 ≤ 500 ∧ 0 ≤ z 1 ∧ z 1 ≤ 500 ∧ 0 ≤ z 2 ∧ z 2 ≤ 200 ∧ 0 ≤ z 8 ∧ z 8 ≤ 5 ∧ (∀ c : Int, 0 ≤ c → c < 12 → -150022500 ≤ z (20 + c) ∧ z (20 + c) ≤ 100000000 ∧ 0 ≤ z (32 + c) ∧ z (32 + c) ≤ 10000 ∧ 0 ≤ z (44 + c) ∧ z (44 + c) ≤ 5000) ∧ ∀ k : Int, 0 ≤ k → k < 60 → -150022500 ≤ z (440 + k) ∧ z (440 + k) ≤ 100000000
def rl_mac (b : Int) (h : pH) (z : Int → Int) (nm : Nat) : Prop := h (b + 7) 10 = nm ∧ ∀ m : Int, 0 ≤ m → m < nm → h (b + 8) m = z (84 + m) ∧ h (b + 9) m = z (94 + m) ∧ h (b + 10) m = z (104 + m) ∧ h (b + 11) m = z (114 + m) ∧ h (b + 12) m = z (124 + m) ∧ h (b + 13) m = z (134 + m) ∧ h (b + 14) m = z (144 + m) ∧ h (b + 15) m = z (154 + m) ∧ h (b + 16) m = z (164 + m)
def yl_mac (z : Int → Int) (nm nw : Nat) : Prop := z 12 = nm ∧ nm ≤ 10 ∧ ∀ m : Int, 0 ≤ m → m < nm → (0 ≤ z (84 + m) ∧ z (84 + m) < 12) ∧ (0 ≤ z (94 + m) ∧ z (94 + m) ≤ 500) ∧ (0 ≤ z (104 + m) ∧ z (104 + m) ≤ 500) ∧ (1 ≤ z (114 + m) ∧ z (114 + m) ≤ 5000) ∧ (0 ≤ z (124 + m) ∧ z (124 + m) ≤ 3) ∧ (0 ≤ z (134 + m) ∧ z (134 + m) ≤ 3) ∧ (0 ≤ z (144 + m) ∧ z (144 + m) ≤ 1) ∧ (-1 ≤ z (154 + m) ∧ z (154 + m) < nw) ∧ (0 ≤ z (164 + m) ∧ z (164 + m) ≤ 3)
def rl_wks (b : Int) (h : pH) (z : Int → Int) (nw : Nat) : Prop := h (b + 21) 15 = nw ∧ (∀ k : Int, 0 ≤ k → k < 8 → h (b + 22) k = z (174 + k) ∧ h (b + 23) k = z (182 + k) ∧ h (b + 24) k = z (190 + k)) ∧
  (∀ w : Int, 0 ≤ w → w < nw → h (b + 25) w = z (200 + w) ∧ h (b + 26) w = z (216 + w) ∧ h (b + 27) w = z (232 + w) ∧ h (b + 28) w = z (248 + w) ∧ h (b + 29) w = z (264 + w) ∧ h (b + 30) w = z (280 + w) ∧ h (b + 31) w = z (296 + w) ∧ h (b + 32) w = zst z w ∧ h (b + 33) w = z (312 + w) ∧ h (b + 35) w = z (344 + w)) ∧
  ∀ k : Int, 0 ≤ k → k < nw → h (b + 36) k = zins (zkey z) nw k
def yl_wks (z : Int → Int) (nm nw : Nat) : Prop := z 13 = nw ∧ nw ≤ 16 ∧ (∀ k : Int, 0 ≤ k → k < 8 → (0 ≤ z (174 + k) ∧ z (174 + k) ≤ 99) ∧ (0 ≤ z (182 + k) ∧ z (182 + k) ≤ 1000) ∧ (0 ≤ z (190 + k) ∧ z (190 + k) ≤ 1000)) ∧
  ∀ w : Int, 0 ≤ w → w < nw → zwk z w ∧ (0 ≤ z (216 + w) ∧ z (216 + w) < 8) ∧ (-1 ≤ z (280 + w) ∧ z (280 + w) < nm) ∧ (-1 ≤ z (344 + w) ∧ z (344 + w) < nm)
/-- all but the rules -/
def rl (b : Int) (h : pH) (z : Int → Int) (nm nw : Nat) : Prop := rl_air b h z ∧ rl_mac b h z nm ∧ zpow b h z ∧ h (b + 18) 7 = z 17 ∧ rl_wks b h z nw ∧ zlots b h z ∧ h b 7 = z 15 ∧ h b 8 = z 16
def yl (z : Int → Int) (nm nw : Nat) : Prop := yl_air z ∧ yl_mac z nm nw ∧ ypow z ∧ (0 ≤ z 17 ∧ z 17 ≤ 15000) ∧ yl_wks z nm nw ∧ ylots z ∧ 0 ≤ z 15 ∧ (0 ≤ z 16 ∧ z 16 ≤ 3)
/-- how many works broke -/
def nbr (z : Int → Int) (nw : Nat) : Int := zs (fun w => if z (328 + w) = 3 then 1 else 0) nw
/-- what the rules' part of a minute is proved to do -/
def tellOK (b : Int) (h g : pH) : Prop := P_X4_tellSpeed b h ∧ P_X12_workRules g ∧ (∀ a, a ≠ b → a ≠ b + 41 → a ≠ b + 45 → H_X4_tellSpeed b h a = h a) ∧ (∀ k : Int, k ≠ 8 → H_X4_tellSpeed b h b k = h b k) ∧ (∀ a, a ≠ 248 → a ≠ 255 → a ≠ 256 → a ≠ 257 → H_X12_workRules g a = g a) ∧ H_X4_tellSpeed b h b 8 = s_X12_minute_2 g ∧ 0 ≤ s_X12_minute_2 g ∧ s_X12_minute_2 g ≤ 3 ∧ ∀ k : Int, k ≠ 8 → k ≠ 9 → k ≠ 11 → k ≠ 12 → H_X12_workRules g 248 k = g 248 k
/-- an open work is open -/
theorem zst_open {z : Int → Int} {w : Int} (h : zwk z w) : zst z w = 1 ↔ zopen z w := by
  obtain ⟨hK, -, -, -, -, -, -, -, hKF, -, -, -, -, -, hO, -, h0⟩ := h
  unfold zst nst zopen
  constructor
  · intro e
    have : z (328 + w) = 0 := by grind
    have t := (h0 this).1
    grind
  · intro e
    grind
theorem zs_add {f g : Int → Int} : ∀ {n : Nat}, zs (fun i => f i + g i) n = zs f n + zs g n
  | 0 => rfl
  | n + 1 => by
    unfold zs
    rw [zs_add (f := f) (g := g) (n := n)]
    omega
/-- the first half of a minute: to the speeds -/
theorem half1 (b : Int) (h g : pH) (nm nw : Nat) (hr : rl b h (g 249) nm nw) (hy : yl (g 249) nm nw) (ht : tellOK b h g) :
    let h1 := H_X4_tellSpeed b h; let h2 := H_X4_readGauges b h1; let h3 := H_X4_placeWorks b h2; let h4 := H_X4_setSpeeds b h3
    let g2 := s_X12_minute_5 g; let g3 := s_X12_minute_7 g; let g4 := H_X12_findLine g3; let g5 := s_X12_minute_12 g; let g6 := s_X12_minute_18 g
    P_X4_tellSpeed b h ∧ P_X4_readGauges b h1 ∧ P_X4_placeWorks b h2 ∧ P_X4_setSpeeds b h3 ∧
    P_X12_workRules g ∧ O_X12_minute_26 0 (pm_upd (H_X12_workRules g) 249 16 (s_X12_minute_2 g)) ∧ O_X12_minute_50 0 g2 ∧ P_X12_findLine g3 ∧ O_X12_minute_78 0 g4 ∧ O_X12_minute_122 0 g5 ∧
    (∀ a, a ≠ b → a ≠ b + 41 → a ≠ b + 45 → a ≠ b + 17 → a ≠ b + 15 → a ≠ b + 16 → a ≠ b + 34 → a ≠ b + 35 → h4 a = h a) ∧ (∀ k : Int, k ≠ 8 → h4 b k = h b k) ∧ h4 b 8 = g6 249 16 ∧ 0 ≤ g6 249 16 ∧ g6 249 16 ≤ 3 ∧
    (∀ a, a ≠ 249 → a ≠ 248 → a ≠ 255 → a ≠ 256 → a ≠ 257 → a ≠ 258 → a ≠ 259 → a ≠ 260 → a ≠ 261 → a ≠ 263 → g6 a = g a) ∧ (∀ k : Int, k ≠ 16 → (k < 154 ∨ 174 ≤ k) → (k < 344 ∨ 360 ≤ k) → g6 249 k = g 249 k) ∧
    zrun b h4 g6 nm nw ∧ (∀ c : Int, 0 ≤ c → c < 12 → g6 260 c = g 249 (20 + c)) ∧ (∀ w : Int, 0 ≤ w → w < nw → g6 263 w = if zopen (g 249) w then 1 else 0) ∧ zline b h4 g6 (zins (zkey (g 249)) nw) nw ∧ g6 248 = H_X12_workRules g 248 := by
  intro h1 h2 h3 h4 g2 g3 g4 g5 g6
  obtain ⟨⟨a0, a1, a2, a8, ac, ak⟩, ⟨mn, mm⟩, hp, h17, ⟨wn, wh, ww, wo⟩, hlo, h7, h8⟩ := hr
  obtain ⟨⟨b0, b0', b1, b1', b2, b2', b8, b8', bc, bk⟩, ⟨cn, c10, cm⟩, yp, y17, ⟨dn, d16, dh, dw⟩, ylo, y15, y16⟩ := hy
  obtain ⟨t1, t2, t3, t4, t5, t6, t7, t8, t9⟩ := ht
  obtain ⟨sp, hsp⟩ : ∃ sp, sp = s_X12_minute_2 g := ⟨_, rfl⟩
  rw [← hsp] at t6 t7 t8
  -- the model's heap behind the rules
  obtain ⟨g1, hg1⟩ : ∃ q, q = pm_upd (H_X12_workRules g) 249 16 sp := ⟨_, rfl⟩
  have g1c : ∀ a, a ≠ 249 → a ≠ 248 → a ≠ 255 → a ≠ 256 → a ≠ 257 → g1 a = g a := fun a e1 e2 e3 e4 e5 => by rw [hg1, up_cell _ e1]; exact t5 a e2 e3 e4 e5
  have g1k : ∀ k : Int, k ≠ 16 → g1 249 k = g 249 k := fun k e1 => by rw [hg1, up_pl _ e1, t5 249 (by omega) (by omega) (by omega) (by omega)]
  have g116 : g1 249 16 = sp := by rw [hg1, up_eq]
  -- gauges
  have k1 : ∀ a, a ≠ b → a ≠ b + 41 → a ≠ b + 45 → h1 a = h a := t3
  have G := gauges_X b h1 nm (by rw [k1 _ (by omega) (by omega) (by omega)]; exact mn) c10 (by rw [k1 _ (by omega) (by omega) (by omega), a8]; exact ⟨b8, b8'⟩) (fun m e1 e2 => by rw [k1 _ (by omega) (by omega) (by omega), (mm m e1 e2).1]; exact (cm m e1 e2).1)
  have S := shown_M g1 (by rw [g1k 8 (by omega)]; exact ⟨b8, b8'⟩)
  obtain ⟨G1, G2, G3⟩ := G
  have eh2 : H_X4_readGauges b h1 = h2 := rfl
  rw [eh2] at G2 G3
  obtain ⟨S1, S2, S3⟩ := S
  have eg2 : (L_X12_minute_26 0 g1).2 = g2 := by show _ = s_X12_minute_5 g; unfold s_X12_minute_5; rw [hg1, hsp]
  rw [eg2] at S2 S3
  have zg : ∀ c : Int, 0 ≤ c → c < 12 → zgauge (g1 249) c = zgauge (g 249) c := fun c e1 e2 => by unfold zgauge; rw [g1k 8 (by omega), g1k (20 + c) (by omega), g1k _ (by omega)]
  -- clearing
  have C := clear_M g2 nm (by rw [S2 249 (by omega) (by omega), g1k 12 (by omega)]; exact cn) c10
  obtain ⟨C1, C2, C3, C4⟩ := C
  have eg3 : (L_X12_minute_50 0 g2).2 = g3 := rfl
  rw [eg3] at C2 C3 C4
  have g3k : ∀ k : Int, k ≠ 16 → (k < 154 ∨ 174 ≤ k) → g3 249 k = g 249 k := fun k e1 e2 => by rw [C3 k e2, S2 249 (by omega) (by omega), g1k k e1]
  -- the order
  have hous : ∀ w : Int, 0 ≤ w → w < nw → g3 249 (216 + w) = g 249 (216 + w) := fun w e1 e2 => g3k _ (by omega) (by omega)
  have LI := line_M g3 nw (by rw [g3k 13 (by omega) (by omega)]; exact dn) d16 (fun w e1 e2 => by rw [hous w e1 e2]; exact (dw w e1 e2).2.1) (fun k e1 e2 => by rw [g3k _ (by omega) (by omega)]; exact (dh k e1 e2).1)
  obtain ⟨L1, L2, L3⟩ := LI
  have eg4 : H_X12_findLine g3 = g4 := rfl
  rw [eg4] at L2 L3
  have zk : zins (zkey (g3 249)) nw = zins (zkey (g 249)) nw := zins_congr (n := nw) (fun w e1 e2 => by
    unfold zkey
    have := (dw w e1 e2).2.1
    rw [hous w e1 e2, g3k (174 + g 249 (216 + w)) (by omega) (by omega)]) nw (Nat.le_refl _)
  rw [zk] at L3
  have g4k : ∀ k : Int, k ≠ 16 → (k < 154 ∨ 174 ≤ k) → g4 249 k = g 249 k := fun k e1 e2 => by rw [L2 249 (by omega)]; exact g3k k e1 e2
  -- the class's cleared heap
  obtain ⟨hc, hhc⟩ : ∃ q, q = H_X10_clear (b + 21) (H_X6_clear (b + 7) h2) := ⟨_, rfl⟩
  have hce : hc = fx_fill (fx_fill (fx_fill (fx_fill h2 (b + 15) 10 (-1)) (b + 16) 10 0) (b + 34) 16 0) (b + 35) 16 (-1) := by
    rw [hhc]; unfold H_X10_clear H_X6_clear
    rw [show b + 7 + 8 = b + 15 by omega, show b + 7 + 9 = b + 16 by omega, show b + 21 + 13 = b + 34 by omega, show b + 21 + 14 = b + 35 by omega]
  have hcc : ∀ a, a ≠ b + 15 → a ≠ b + 16 → a ≠ b + 34 → a ≠ b + 35 → hc a = h2 a := fun a e1 e2 e3 e4 => by rw [hce, fl_cell _ e4, fl_cell _ e3, fl_cell _ e2, fl_cell _ e1]
  have hcs : ∀ a, a ≠ b → a ≠ b + 41 → a ≠ b + 45 → a ≠ b + 17 → a ≠ b + 15 → a ≠ b + 16 → a ≠ b + 34 → a ≠ b + 35 → hc a = h a := fun a e1 e2 e3 e4 e5 e6 e7 e8 => by rw [hcc a e5 e6 e7 e8, G2 a e4, k1 a e1 e2 e3]
  have hc15 : ∀ m : Int, 0 ≤ m → m < 10 → hc (b + 15) m = -1 := fun m e1 e2 => by rw [hce, fl_cell _ (by omega), fl_cell _ (by omega), fl_cell _ (by omega), fl_app, if_pos ⟨rfl, e1, e2⟩]
  have hc16 : ∀ m : Int, 0 ≤ m → m < 10 → hc (b + 16) m = 0 := fun m e1 e2 => by rw [hce, fl_cell _ (by omega), fl_cell _ (by omega), fl_app, if_pos ⟨rfl, e1, e2⟩]
  have hc34 : ∀ w : Int, 0 ≤ w → w < 16 → hc (b + 34) w = 0 := fun w e1 e2 => by rw [hce, fl_cell _ (by omega), fl_app, if_pos ⟨rfl, e1, e2⟩]
  have hc35 : ∀ w : Int, 0 ≤ w → w < 16 → hc (b + 35) w = -1 := fun w e1 e2 => by rw [hce, fl_app, if_pos ⟨rfl, e1, e2⟩]
  have zo4 : ∀ w : Int, 0 ≤ w → w < nw → (zopen (g4 249) w ↔ zopen (g 249) w) := fun w e1 e2 => by
    unfold zopen
    rw [g4k (328 + w) (by omega) (by omega), g4k (200 + w) (by omega) (by omega), g4k (248 + w) (by omega) (by omega), g4k 15 (by omega) (by omega), g4k (264 + w) (by omega) (by omega)]
  have g461 : ∀ c : Int, 0 ≤ c → c < 12 → g4 261 c = zgauge (g 249) c := fun c e1 e2 => by rw [L2 261 (by omega), C2 261 (by omega), (S3 c e1 e2).2, zg c e1 e2]
  have hga : ∀ m : Int, 0 ≤ m → m < nm → hc (b + 17) m = g4 261 (g4 249 (84 + m)) := fun m e1 e2 => by
    have q := (cm m e1 e2).1
    rw [hcc _ (by omega) (by omega) (by omega) (by omega), G3 m e1 e2, g4k (84 + m) (by omega) (by omega), g461 _ q.1 q.2]
    have qm := mm m e1 e2
    unfold s_X0_gauge_1 zgauge
    rw [k1 (b + 8) (by omega) (by omega) (by omega), k1 (b + 1) (by omega) (by omega) (by omega), k1 (b + 1 + 1) (by omega) (by omega) (by omega), k1 (b + 1 + 4) (by omega) (by omega) (by omega), show b + 1 + 1 = b + 2 by omega, show b + 1 + 4 = b + 5 by omega, qm.1, a8, (ac _ q.1 q.2).1]
    by_cases z8 : g 249 8 = 0
    · rw [if_pos z8, if_pos z8]
    · rw [if_neg z8, if_neg z8, ak _ (by omega) (by omega), show 440 + ((g 249 8 - 1) * 12 + g 249 (84 + m)) = 440 + 12 * (g 249 8 - 1) + g 249 (84 + m) by omega]
  have PL := placing_rel b hc g4 nm nw (zins (zkey (g 249)) nw) (by rw [hcs _ (by omega) (by omega) (by omega) (by omega) (by omega) (by omega) (by omega) (by omega)]; exact mn) (by rw [g4k 12 (by omega) (by omega)]; exact cn) c10 (by rw [hcs _ (by omega) (by omega) (by omega) (by omega) (by omega) (by omega) (by omega) (by omega)]; exact wn) (by rw [g4k 13 (by omega) (by omega)]; exact dn) d16
    (fun m e1 e2 => by
      have q := mm m e1 e2
      rw [hcs (b + 13) (by omega) (by omega) (by omega) (by omega) (by omega) (by omega) (by omega) (by omega), hcs (b + 14) (by omega) (by omega) (by omega) (by omega) (by omega) (by omega) (by omega) (by omega), hga m e1 e2, g4k (134 + m) (by omega) (by omega), g4k (144 + m) (by omega) (by omega), g4k (84 + m) (by omega) (by omega)]
      exact ⟨q.2.2.2.2.2.1, q.2.2.2.2.2.2.1, rfl, (cm m e1 e2).1⟩)
    (fun m e1 e2 => ⟨hc15 m e1 (by omega), by rw [L2 249 (by omega)]; exact (C4 m e1 e2).1⟩)
    (fun w e1 e2 => by
      have q := ww w e1 e2
      rw [hcs (b + 30) (by omega) (by omega) (by omega) (by omega) (by omega) (by omega) (by omega) (by omega), hcs (b + 32) (by omega) (by omega) (by omega) (by omega) (by omega) (by omega) (by omega) (by omega), g4k (280 + w) (by omega) (by omega), zo4 w e1 e2]
      exact ⟨q.2.2.2.2.2.1, by rw [q.2.2.2.2.2.2.2.1]; exact zst_open (dw w e1 e2).1, hc35 w e1 (by omega), hc34 w e1 (by omega)⟩)
    (fun k e1 e2 => by
      have q := zins_rng (zkey (g 249)) nw k e1 e2
      rw [hcs (b + 36) (by omega) (by omega) (by omega) (by omega) (by omega) (by omega) (by omega) (by omega)]
      exact ⟨wo k e1 e2, L3 k e1 e2, q.1, q.2⟩)
    (fun j k e1 e2 e3 e4 e5 => zins_inj _ nw j k e1 e2 e3 e4 e5) (fun w e1 e2 => zins_sur _ nw w e1 e2)
  obtain ⟨P1, P2, pz1, pz2, pz3, pz4, pz5⟩ := PL
  have eh3 : (L_X4_placeWorks_8 b 0 hc).2 = h3 := by rw [hhc]; rfl
  have eg5 : (L_X12_minute_78 0 g4).2 = g5 := rfl
  rw [eh3] at pz1 pz4 pz5
  rw [eg5] at pz2 pz3 pz4 pz5
  have h3s : ∀ a, a ≠ b → a ≠ b + 41 → a ≠ b + 45 → a ≠ b + 17 → a ≠ b + 15 → a ≠ b + 16 → a ≠ b + 34 → a ≠ b + 35 → h3 a = h a := fun a e1 e2 e3 e4 e5 e6 e7 e8 => by rw [pz1 a e5 e7 e8]; exact hcs a e1 e2 e3 e4 e5 e6 e7 e8
  have g5k : ∀ k : Int, k ≠ 16 → (k < 154 ∨ 174 ≤ k) → (k < 344 ∨ 360 ≤ k) → g5 249 k = g 249 k := fun k e1 e2 e3 => by rw [pz3 k (by omega) e3]; exact g4k k e1 e2
  have g561 : g5 261 = g4 261 := pz2 261 (by omega) (by omega) (by omega)
  have g516 : g5 249 16 = sp := by rw [pz3 16 (by omega) (by omega), L2 249 (by omega), C3 16 (by omega), S2 249 (by omega) (by omega), g116]
  have SP := speeds_rel b h3 g5 nm nw (by rw [h3s _ (by omega) (by omega) (by omega) (by omega) (by omega) (by omega) (by omega) (by omega)]; exact mn) (by rw [g5k 12 (by omega) (by omega) (by omega)]; exact cn) c10 d16
    (fun m e1 e2 => by
      have q := pz4 m e1 e2
      rw [pz1 (b + 16) (by omega) (by omega) (by omega), pz3 (164 + m) (by omega) (by omega), L2 249 (by omega)]
      exact ⟨q.1, hc16 m e1 (by omega), (C4 m e1 e2).2, q.2⟩)
    (fun w e1 e2 => by
      have q := pz5 w e1 e2
      refine ⟨q.1, q.2.1, q.2.2.2.1, ?_, fun z => q.2.2.2.2.2 (fun o => by rw [q.2.2.1, if_pos o] at z; omega)⟩
      rw [q.2.2.2.2.1, q.2.2.1]
      simp only [fx_b0, Decidable.not_not])
    (fun m e1 e2 => by
      have q := mm m e1 e2
      rw [pz1 (b + 17) (by omega) (by omega) (by omega), hga m e1 e2, h3s (b + 11) (by omega) (by omega) (by omega) (by omega) (by omega) (by omega) (by omega) (by omega), g561, pz3 (84 + m) (by omega) (by omega), g5k (114 + m) (by omega) (by omega) (by omega), g4k (84 + m) (by omega) (by omega)]
      exact ⟨rfl, (cm m e1 e2).1.1, (cm m e1 e2).1.2, q.2.2.2.1⟩)
    (fun w e1 e2 => by
      have q := ww w e1 e2
      have qq := (dw w e1 e2).1
      rw [h3s (b + 25) (by omega) (by omega) (by omega) (by omega) (by omega) (by omega) (by omega) (by omega), h3s (b + 27) (by omega) (by omega) (by omega) (by omega) (by omega) (by omega) (by omega) (by omega), g5k (200 + w) (by omega) (by omega) (by omega), g5k (232 + w) (by omega) (by omega) (by omega)]
      exact ⟨q.1, q.2.2.1, fun _ => qq.2.1⟩)
    (by rw [pz1 b (by omega) (by omega) (by omega), hcc b (by omega) (by omega) (by omega) (by omega), G2 b (by omega), g516]; exact t6) (by rw [g516]; exact ⟨t7, t8⟩)
  obtain ⟨Q1, Q2, Q3, Q4, Q5, Q6⟩ := SP
  have eg6 : (L_X12_minute_122 0 g5).2 = g6 := rfl
  rw [eg6] at Q4 Q5 Q6
  have hb : ∀ k : Int, h4 b k = h1 b k := fun k => by
    show H_X4_setSpeeds b h3 b k = _
    rw [Q3 b (by omega) (by omega) (by omega), pz1 b (by omega) (by omega) (by omega), hcc b (by omega) (by omega) (by omega) (by omega), G2 b (by omega)]
  have g616 : g6 249 16 = sp := by rw [Q5 16 (by omega), g516]
  have P3 : P_X4_placeWorks b h2 := by
    show O_X4_placeWorks_8 b 0 (H_X10_clear (b + 21) (H_X6_clear (b + 7) h2))
    rw [← hhc]; exact P1
  refine ⟨t1, G1, P3, Q1, t2, ?_, C1, L1, P2, Q2, ?_, fun k e1 => by rw [hb]; exact t4 k e1, ?_, ?_, ?_, ?_, ?_, Q6, ?_, ?_, ?_, ?_⟩
  · rw [← hsp, ← hg1]; exact S1
  · exact fun a e1 e2 e3 e4 e5 e6 e7 e8 => by rw [show h4 a = h3 a from Q3 a e6 e7 e8]; exact h3s a e1 e2 e3 e4 e5 e6 e7 e8
  · rw [hb, g616]; exact t6
  · rw [g616]; exact t7
  · rw [g616]; exact t8
  · exact fun a e1 e2 e3 e4 e5 e6 e7 e8 e9 e10 => by rw [Q4 a e1 e7, pz2 a e1 e7 e10, L2 a e6, C2 a e1, S2 a e8 e9, g1c a e1 e2 e3 e4 e5]
  · exact fun k e1 e2 e3 => by rw [Q5 k (by omega)]; exact g5k k e1 e2 e3
  · exact fun c e1 e2 => by rw [Q4 260 (by omega) (by omega), pz2 260 (by omega) (by omega) (by omega), L2 260 (by omega), C2 260 (by omega), (S3 c e1 e2).1, g1k _ (by omega)]
  · exact fun w e1 e2 => by
      rw [Q4 263 (by omega) (by omega), (pz5 w e1 e2).2.2.1]
      by_cases o : zopen (g 249) w
      · rw [if_pos o, if_pos ((zo4 w e1 e2).mpr o)]
      · rw [if_neg o, if_neg (fun z => o ((zo4 w e1 e2).mp z))]
  · refine ⟨fun k e1 e2 => ?_, fun w e1 e2 => zins_sur _ nw w e1 e2⟩
    have q := zins_rng (zkey (g 249)) nw k e1 e2
    rw [show h4 (b + 36) = h3 (b + 36) from Q3 _ (by omega) (by omega) (by omega), h3s (b + 36) (by omega) (by omega) (by omega) (by omega) (by omega) (by omega) (by omega) (by omega), Q4 258 (by omega) (by omega), pz2 258 (by omega) (by omega) (by omega)]
    exact ⟨wo k e1 e2, L3 k e1 e2, q.1, q.2⟩
  · rw [Q4 248 (by omega) (by omega), pz2 248 (by omega) (by omega) (by omega), L2 248 (by omega), C2 248 (by omega), S2 248 (by omega) (by omega), hg1, up_cell _ (by omega)]
