/-! A minute, whole: the class's step and the model's minute. -/
set_option maxHeartbeats 4000000 in
theorem step_rel (b : Int) (h g : pH) (nm nw : Nat) (hr : rl b h (g 249) nm nw) (hy : yl (g 249) nm nw) (ht : tellOK b h g) (htm : g 249 15 ≤ 1000000) :
    P_X4_step b h ∧ P_X12_minute g ∧ rl b (H_X4_step b h) (H_X12_minute g 249) nm nw ∧ yl (H_X12_minute g 249) nm nw ∧ F_X4_step b h = nbr (H_X12_minute g 249) nw - nbr (g 249) nw ∧
    (∀ a, (a < b ∨ b + 46 ≤ a ∨ a = b + 37 ∨ a = b + 38 ∨ a = b + 39 ∨ a = b + 40) → H_X4_step b h a = h a) ∧ (∀ a, (a < 248 ∨ a = 250 ∨ a = 251 ∨ a = 252 ∨ a = 253 ∨ a = 254 ∨ 264 ≤ a) → H_X12_minute g a = g a) ∧ (∀ k : Int, (k = 14 ∨ (376 ≤ k ∧ k < 440)) → H_X12_minute g 249 k = g 249 k) ∧ H_X12_minute g 249 15 = g 249 15 + 1 := by
  have H1 := half1 b h g nm nw hr hy ht
  obtain ⟨⟨a0, a1, a2, a8, ac, ak⟩, ⟨mn, mm⟩, hp, h17, ⟨wn, wh, ww, wo⟩, hlo, h7, h8⟩ := hr
  obtain ⟨⟨b0, b0', b1, b1', b2, b2', b8, b8', bc, bk⟩, ⟨cn, c10, cm⟩, yp, y17, ⟨dn, d16, dh, dw⟩, ylo, y15, y16⟩ := hy
  simp only at H1
  obtain ⟨h4, hh4⟩ : ∃ q, q = H_X4_setSpeeds b (H_X4_placeWorks b (H_X4_readGauges b (H_X4_tellSpeed b h))) := ⟨_, rfl⟩
  obtain ⟨g6, hg6⟩ : ∃ q, q = s_X12_minute_18 g := ⟨_, rfl⟩
  rw [← hh4, ← hg6] at H1
  obtain ⟨p1, p2, p3, p4, m1, m2, m3, m4, m5, m6, f4, f4b, e48, s0, s3, fg6, k6, zr, z260, z263, zl⟩ := H1
  have tx : ht.1 = ht.1 := rfl
  -- feeds trip
  obtain ⟨h5, hh5⟩ : ∃ q, q = H_X4_tripFeeds b h4 := ⟨_, rfl⟩
  obtain ⟨g7, hg7⟩ : ∃ q, q = s_X12_minute_20 g := ⟨_, rfl⟩
  have eg7 : g7 = (L_X12_minute_210 0 g6).2 := by rw [hg7, hg6]; rfl
  have zd4 : zdraws b h4 g6 nm := fun m e1 e2 => by
    rw [f4 (b + 10) (by omega) (by omega) (by omega) (by omega) (by omega) (by omega) (by omega) (by omega), f4 (b + 12) (by omega) (by omega) (by omega) (by omega) (by omega) (by omega) (by omega) (by omega), k6 (104 + m) (by omega) (by omega) (by omega), k6 (124 + m) (by omega) (by omega) (by omega)]
    exact ⟨(mm m e1 e2).2.2.1, (cm m e1 e2).2.2.1.1, (cm m e1 e2).2.2.1.2, (mm m e1 e2).2.2.2.2.1⟩
  have TR := trips_rel b h4 g6 nm nw (by rw [f4 _ (by omega) (by omega) (by omega) (by omega) (by omega) (by omega) (by omega) (by omega)]; exact mn) (by rw [k6 _ (by omega) (by omega) (by omega)]; exact cn) c10 d16 zd4 (fun f e1 e2 => by
      rw [f4 (b + 19) (by omega) (by omega) (by omega) (by omega) (by omega) (by omega) (by omega) (by omega), k6 (56 + f) (by omega) (by omega) (by omega)]
      exact ⟨hp.2.2.2.2.2.2.2 f e1 e2, yp.2.2.2.2.2.2.2.2.2.2.2.2 f e1 e2⟩)
    ⟨fun _ _ _ _ _ => rfl, fun _ _ _ => rfl, fun _ _ _ => rfl, zr, fun m e1 e2 => by
      rw [f4 (b + 13) (by omega) (by omega) (by omega) (by omega) (by omega) (by omega) (by omega) (by omega), k6 (134 + m) (by omega) (by omega) (by omega)]
      exact ⟨(mm m e1 e2).2.2.2.2.2.1, (cm m e1 e2).2.2.2.2.2.1.1, (cm m e1 e2).2.2.2.2.2.1.2⟩⟩
  rw [← hh5, ← eg7] at TR
  obtain ⟨p5, m7, f5, fg7, k7, zr5, tr5⟩ := TR
  have F5 : ∀ a, a ≠ b → a ≠ b + 41 → a ≠ b + 45 → a ≠ b + 17 → a ≠ b + 15 → a ≠ b + 16 → a ≠ b + 34 → a ≠ b + 35 → a ≠ b + 13 → h5 a = h a := fun a e1 e2 e3 e4 e5 e6 e7 e8 e9 => by rw [f5 a e9 e6 e7 e8]; exact f4 a e1 e2 e3 e4 e5 e6 e7 e8
  have K7 : ∀ k : Int, k ≠ 16 → (k < 134 ∨ 144 ≤ k) → (k < 154 ∨ 174 ≤ k) → (k < 344 ∨ 360 ≤ k) → g7 249 k = g 249 k := fun k e1 e2 e3 e4 => by rw [k7 k e2 (by omega)]; exact k6 k e1 e3 e4
  -- supply
  obtain ⟨h6, hh6⟩ : ∃ q, q = H_X8_supply (b + 18) ((H_X4_shedWorks b h5) b 7) (H_X4_shedWorks b h5) := ⟨_, rfl⟩
  obtain ⟨g8, hg8⟩ : ∃ q, q = H_X12_supply g7 := ⟨_, rfl⟩
  have SU := supply_rel b (zins (zkey (g 249)) nw) h5 g7 nm nw (by rw [F5 _ (by omega) (by omega) (by omega) (by omega) (by omega) (by omega) (by omega) (by omega) (by omega)]; exact mn) (by rw [K7 _ (by omega) (by omega) (by omega) (by omega)]; exact cn) (by rw [F5 _ (by omega) (by omega) (by omega) (by omega) (by omega) (by omega) (by omega) (by omega) (by omega)]; exact wn) (by rw [K7 _ (by omega) (by omega) (by omega) (by omega)]; exact dn) c10 d16
    ⟨fun k e1 e2 => by rw [f5 (b + 36) (by omega) (by omega) (by omega) (by omega), fg7 258 (by omega) (by omega)]; exact zl.1 k e1 e2, zl.2⟩
    (fun m e1 e2 => by
      rw [F5 (b + 10) (by omega) (by omega) (by omega) (by omega) (by omega) (by omega) (by omega) (by omega) (by omega), F5 (b + 12) (by omega) (by omega) (by omega) (by omega) (by omega) (by omega) (by omega) (by omega) (by omega), K7 (104 + m) (by omega) (by omega) (by omega) (by omega), K7 (124 + m) (by omega) (by omega) (by omega) (by omega)]
      exact ⟨(mm m e1 e2).2.2.1, (cm m e1 e2).2.2.1.1, (cm m e1 e2).2.2.1.2, (mm m e1 e2).2.2.2.2.1⟩) zr5
    (by
      obtain ⟨q2, q3, q4, q5, q6, q8, q20, q19⟩ := hp
      unfold zpow
      rw [F5 (b + 18) (by omega) (by omega) (by omega) (by omega) (by omega) (by omega) (by omega) (by omega) (by omega), F5 (b + 19) (by omega) (by omega) (by omega) (by omega) (by omega) (by omega) (by omega) (by omega) (by omega), F5 (b + 20) (by omega) (by omega) (by omega) (by omega) (by omega) (by omega) (by omega) (by omega) (by omega), K7 3 (by omega) (by omega) (by omega) (by omega), K7 4 (by omega) (by omega) (by omega) (by omega), K7 5 (by omega) (by omega) (by omega) (by omega), K7 6 (by omega) (by omega) (by omega) (by omega), K7 7 (by omega) (by omega) (by omega) (by omega), K7 18 (by omega) (by omega) (by omega) (by omega)]
      exact ⟨q2, q3, q4, q5, q6, q8, fun k e1 e2 => by rw [K7 _ (by omega) (by omega) (by omega) (by omega)]; exact q20 k e1 e2, fun k e1 e2 => by rw [K7 _ (by omega) (by omega) (by omega) (by omega)]; exact q19 k e1 e2⟩)
    (by
      unfold ypow at yp ⊢
      rw [K7 3 (by omega) (by omega) (by omega) (by omega), K7 4 (by omega) (by omega) (by omega) (by omega), K7 5 (by omega) (by omega) (by omega) (by omega), K7 6 (by omega) (by omega) (by omega) (by omega), K7 7 (by omega) (by omega) (by omega) (by omega), K7 18 (by omega) (by omega) (by omega) (by omega)]
      obtain ⟨u1, u2, u3, u4, u5, u6, u7, u8, u9, u10, u11, u12, u13⟩ := yp
      exact ⟨u1, u2, u3, u4, u5, u6, u7, u8, u9, u10, u11, fun k e1 e2 => by rw [K7 _ (by omega) (by omega) (by omega) (by omega)]; exact u12 k e1 e2, fun k e1 e2 => by rw [K7 _ (by omega) (by omega) (by omega) (by omega)]; exact u13 k e1 e2⟩)
    (by rw [f5 b (by omega) (by omega) (by omega) (by omega), f4b 7 (by omega), K7 15 (by omega) (by omega) (by omega) (by omega)]; exact h7) (by rw [K7 15 (by omega) (by omega) (by omega) (by omega)]; exact ⟨y15, htm⟩)
  rw [← hh6, ← hg8] at SU
  obtain ⟨p6, p7, m8, f6, fg8, k8, zr6, zp6, yp6, e617, u17, u17'⟩ := SU
  have F6 : ∀ a, a ≠ b → a ≠ b + 41 → a ≠ b + 45 → a ≠ b + 17 → a ≠ b + 15 → a ≠ b + 16 → a ≠ b + 34 → a ≠ b + 35 → a ≠ b + 13 → a ≠ b + 18 → h6 a = h a := fun a e1 e2 e3 e4 e5 e6 e7 e8 e9 e10 => by rw [f6 a e6 e7 e8 e10]; exact F5 a e1 e2 e3 e4 e5 e6 e7 e8 e9
  have K8 : ∀ k : Int, k ≠ 16 → (k < 134 ∨ 144 ≤ k) → (k < 154 ∨ 174 ≤ k) → (k < 344 ∨ 360 ≤ k) → k ≠ 7 → k ≠ 17 → k ≠ 18 → g8 249 k = g 249 k := fun k e1 e2 e3 e4 e5 e6 e7 => by rw [k8 k (by omega) e5 e6 e7]; exact K7 k e1 e2 e3 e4
  have h6b : ∀ k : Int, k ≠ 8 → h6 b k = h b k := fun k e1 => by rw [f6 b (by omega) (by omega) (by omega) (by omega), f5 b (by omega) (by omega) (by omega) (by omega)]; exact f4b k e1
  have h6b8 : h6 b 8 = g6 249 16 := by rw [f6 b (by omega) (by omega) (by omega) (by omega), f5 b (by omega) (by omega) (by omega) (by omega)]; exact e48
  have g816 : g8 249 16 = g6 249 16 := by rw [k8 16 (by omega) (by omega) (by omega) (by omega), k7 16 (by omega) (by omega)]
  -- the gauges' past
  obtain ⟨h7', hh7⟩ : ∃ q, q = H_X0_remember (b + 1) h6 := ⟨_, rfl⟩
  have e7 : h7' = pm_cpy (pm_cpy h6 (b + 5) 0 (b + 5) 12 48) (b + 2) 0 (b + 5) 0 12 := by
    rw [hh7]
    show s_X0_remember_1 _ _ = _
    unfold s_X0_remember_1
    rw [show b + 1 + 4 = b + 5 by omega, show b + 1 + 1 = b + 2 by omega]
  have f7 : ∀ a, a ≠ b + 5 → h7' a = h6 a := fun a e1 => by rw [e7, cp_cell _ e1, cp_cell _ e1]
  have h75 : ∀ k : Int, 0 ≤ k → k < 60 → h7' (b + 5) k = if k < 12 then g 249 (20 + k) else g 249 (440 + (k - 12)) := fun k e1 e2 => by
    rw [e7, cp_app]
    by_cases c : k < 12
    · rw [if_pos ⟨rfl, by omega, by omega⟩, if_pos c, cp_cell _ (by omega), F6 (b + 2) (by omega) (by omega) (by omega) (by omega) (by omega) (by omega) (by omega) (by omega) (by omega) (by omega), show (0 : Int) + (k - 0) = k by omega]
      exact (ac k e1 c).1
    · rw [if_neg (by omega), if_neg c, cp_app, if_pos ⟨rfl, by omega, by omega⟩, F6 (b + 5) (by omega) (by omega) (by omega) (by omega) (by omega) (by omega) (by omega) (by omega) (by omega) (by omega), show (0 : Int) + (k - 12) = k - 12 by omega]
      exact ak (k - 12) (by omega) (by omega)
  -- machines warm
  have WA := warm1 b h7' g8 nm (by rw [f7 _ (by omega), F6 _ (by omega) (by omega) (by omega) (by omega) (by omega) (by omega) (by omega) (by omega) (by omega) (by omega)]; exact mn) (by rw [K8 _ (by omega) (by omega) (by omega) (by omega) (by omega) (by omega) (by omega)]; exact cn) c10
    (fun m e1 e2 => by
      rw [f7 (b + 8) (by omega), f7 (b + 9) (by omega), f7 (b + 16) (by omega), F6 (b + 8) (by omega) (by omega) (by omega) (by omega) (by omega) (by omega) (by omega) (by omega) (by omega) (by omega), F6 (b + 9) (by omega) (by omega) (by omega) (by omega) (by omega) (by omega) (by omega) (by omega) (by omega) (by omega), K8 (84 + m) (by omega) (by omega) (by omega) (by omega) (by omega) (by omega) (by omega), K8 (94 + m) (by omega) (by omega) (by omega) (by omega) (by omega) (by omega) (by omega)]
      have q := zr6.1 m e1 e2
      exact ⟨(mm m e1 e2).1, (cm m e1 e2).1.1, (cm m e1 e2).1.2, q.2.1, q.2.2.1, q.2.2.2.1, (mm m e1 e2).2.1, (cm m e1 e2).2.1.1, (cm m e1 e2).2.1.2⟩)
    (fun c e1 e2 => by
      rw [f7 (b + 2) (by omega), F6 (b + 2) (by omega) (by omega) (by omega) (by omega) (by omega) (by omega) (by omega) (by omega) (by omega) (by omega), K8 (20 + c) (by omega) (by omega) (by omega) (by omega) (by omega) (by omega) (by omega)]
      exact ⟨(ac c e1 e2).1, (bc c e1 e2).1, (bc c e1 e2).2.1⟩)
  obtain ⟨h8', hh8⟩ : ∃ q, q = H_X6_warm (b + 7) (b + 1) h7' := ⟨_, rfl⟩
  obtain ⟨gw, hgw⟩ : ∃ q, q = (L_X12_warm_2 0 g8).2 := ⟨_, rfl⟩
  rw [← hh8, ← hgw] at WA
  obtain ⟨p8, m9, f8, fgw, kw, c8⟩ := WA
  -- heat settles
  have zh : zheat (b + 1) h8' gw := by
    unfold zheat
    rw [f8 (b + 1) (by omega), f7 (b + 1) (by omega), F6 (b + 1) (by omega) (by omega) (by omega) (by omega) (by omega) (by omega) (by omega) (by omega) (by omega) (by omega), kw 0 (by omega), kw 1 (by omega), kw 2 (by omega), K8 0 (by omega) (by omega) (by omega) (by omega) (by omega) (by omega) (by omega), K8 1 (by omega) (by omega) (by omega) (by omega) (by omega) (by omega) (by omega), K8 2 (by omega) (by omega) (by omega) (by omega) (by omega) (by omega) (by omega)]
    exact ⟨a0, a1, a2, b0, b0', b1, b1', b2, b2', fun c e1 e2 => by rw [show b + 1 + 1 = b + 2 by omega]; exact c8 c e1 e2⟩
  have SA := settleA (b + 1) h8' gw zh
  have SB := settleB (b + 1) h8' gw _ _ zh SA.2.2
  have SC := settleC (b + 1) h8' gw _ _ zh SB.2.2 (fun c e1 e2 => by
    rw [show b + 1 + 2 = b + 3 by omega, show b + 1 + 3 = b + 4 by omega, f8 (b + 3) (by omega), f8 (b + 4) (by omega), f7 (b + 3) (by omega), f7 (b + 4) (by omega), F6 (b + 3) (by omega) (by omega) (by omega) (by omega) (by omega) (by omega) (by omega) (by omega) (by omega) (by omega), F6 (b + 4) (by omega) (by omega) (by omega) (by omega) (by omega) (by omega) (by omega) (by omega) (by omega) (by omega), kw (32 + c) (by omega), kw (44 + c) (by omega), K8 (32 + c) (by omega) (by omega) (by omega) (by omega) (by omega) (by omega) (by omega), K8 (44 + c) (by omega) (by omega) (by omega) (by omega) (by omega) (by omega) (by omega)]
    exact ⟨(ac c e1 e2).2.1, (bc c e1 e2).2.2.1, (bc c e1 e2).2.2.2.1, (ac c e1 e2).2.2, (bc c e1 e2).2.2.2.2.1, (bc c e1 e2).2.2.2.2.2⟩)
  obtain ⟨h9, hh9⟩ : ∃ q, q = H_X0_settle (b + 1) h8' := ⟨_, rfl⟩
  obtain ⟨g9, hg9⟩ : ∃ q, q = H_X12_warm g8 := ⟨_, rfl⟩
  have eh9 : (L_X0_settle_57 (b + 1) 0 (L_X0_settle_28 (b + 1) 0 (L_X0_settle_2 (b + 1) 0 h8').2).2).2 = h9 := by rw [hh9]; rfl
  have eg9 : (L_X12_warm_103 0 (L_X12_warm_70 0 (L_X12_warm_40 0 gw).2).2).2 = g9 := by rw [hg9, hgw]; rfl
  rw [eh9, eg9] at SC
  obtain ⟨sc1, sc2, f9, fg9, k9, c9⟩ := SC
  have p9 : P_X0_settle (b + 1) h8' := ⟨SA.1, SB.1, sc1⟩
  have m10 : P_X12_warm g8 := ⟨m9, by rw [hgw] at SA; exact SA.2.1, by rw [hgw] at SB; exact SB.2.1, by rw [hgw] at sc2; exact sc2⟩
  have F9 : ∀ a, a ≠ b → a ≠ b + 41 → a ≠ b + 45 → a ≠ b + 17 → a ≠ b + 15 → a ≠ b + 16 → a ≠ b + 34 → a ≠ b + 35 → a ≠ b + 13 → a ≠ b + 18 → a ≠ b + 5 → a ≠ b + 2 → a ≠ b + 6 → h9 a = h a := fun a e1 e2 e3 e4 e5 e6 e7 e8 e9 e10 e11 e12 e13 => by rw [f9 a (by omega) (by omega), f8 a e12, f7 a e11]; exact F6 a e1 e2 e3 e4 e5 e6 e7 e8 e9 e10
  have F96 : ∀ a, a ≠ b + 5 → a ≠ b + 2 → a ≠ b + 6 → h9 a = h6 a := fun a e11 e12 e13 => by rw [f9 a (by omega) (by omega), f8 a e12, f7 a e11]
  have K98 : ∀ k : Int, (k < 20 ∨ 32 ≤ k) → g9 249 k = g8 249 k := fun k e1 => by rw [k9 k e1, kw k e1]
  have K9 : ∀ k : Int, k ≠ 16 → (k < 134 ∨ 144 ≤ k) → (k < 154 ∨ 174 ≤ k) → (k < 344 ∨ 360 ≤ k) → k ≠ 7 → k ≠ 17 → k ≠ 18 → (k < 20 ∨ 32 ≤ k) → g9 249 k = g 249 k := fun k e1 e2 e3 e4 e5 e6 e7 e8 => by rw [K98 k e8]; exact K8 k e1 e2 e3 e4 e5 e6 e7
  have zr9 : zrunF b h9 g9 nm nw := zrunF_of (zrun_congr zr6 c10 d16 (fun a q => F96 a (by omega) (by omega) (by omega)) (fun a q => by rw [fg9 a (by omega) (by omega), fgw a (by omega)]) (fun k q => K98 k (by omega)))
  -- failing
  have FA := fail_rel b h9 g9 nm nw (by rw [F9 _ (by omega) (by omega) (by omega) (by omega) (by omega) (by omega) (by omega) (by omega) (by omega) (by omega) (by omega) (by omega) (by omega)]; exact mn) (by rw [K9 _ (by omega) (by omega) (by omega) (by omega) (by omega) (by omega) (by omega) (by omega)]; exact cn) c10 d16 zr9
    (fun m e1 e2 => by
      rw [F9 (b + 8) (by omega) (by omega) (by omega) (by omega) (by omega) (by omega) (by omega) (by omega) (by omega) (by omega) (by omega) (by omega) (by omega), F9 (b + 14) (by omega) (by omega) (by omega) (by omega) (by omega) (by omega) (by omega) (by omega) (by omega) (by omega) (by omega) (by omega) (by omega), K9 (84 + m) (by omega) (by omega) (by omega) (by omega) (by omega) (by omega) (by omega) (by omega), K9 (144 + m) (by omega) (by omega) (by omega) (by omega) (by omega) (by omega) (by omega) (by omega)]
      exact ⟨(mm m e1 e2).1, (cm m e1 e2).1.1, (cm m e1 e2).1.2, (mm m e1 e2).2.2.2.2.2.2.1, (cm m e1 e2).2.2.2.2.2.2.1.1, (cm m e1 e2).2.2.2.2.2.2.1.2⟩)
    (fun c e1 e2 => by have := c9 c e1 e2; rw [show b + 1 + 1 = b + 2 by omega] at this; exact this)
    (by
      obtain ⟨l0, l1, l2, l3, lk⟩ := hlo
      unfold zlots
      rw [F9 (b + 42) (by omega) (by omega) (by omega) (by omega) (by omega) (by omega) (by omega) (by omega) (by omega) (by omega) (by omega) (by omega) (by omega), F9 (b + 43) (by omega) (by omega) (by omega) (by omega) (by omega) (by omega) (by omega) (by omega) (by omega) (by omega) (by omega) (by omega) (by omega), F9 (b + 44) (by omega) (by omega) (by omega) (by omega) (by omega) (by omega) (by omega) (by omega) (by omega) (by omega) (by omega) (by omega) (by omega), K9 9 (by omega) (by omega) (by omega) (by omega) (by omega) (by omega) (by omega) (by omega), K9 10 (by omega) (by omega) (by omega) (by omega) (by omega) (by omega) (by omega) (by omega), K9 11 (by omega) (by omega) (by omega) (by omega) (by omega) (by omega) (by omega) (by omega), K9 19 (by omega) (by omega) (by omega) (by omega) (by omega) (by omega) (by omega) (by omega)]
      refine ⟨l0, l1, l2, l3, fun k e1 e2 => ?_⟩
      rw [(lk k e1 e2).1, (lk k e1 e2).2]
      exact ⟨zs_congr (fun j u1 u2 => by simp only [K9 (500 + j) (by omega) (by omega) (by omega) (by omega) (by omega) (by omega) (by omega) (by omega), K9 (560 + j) (by omega) (by omega) (by omega) (by omega) (by omega) (by omega) (by omega) (by omega)]), zs_congr (fun j u1 u2 => by simp only [K9 (500 + j) (by omega) (by omega) (by omega) (by omega) (by omega) (by omega) (by omega) (by omega), K9 (560 + j) (by omega) (by omega) (by omega) (by omega) (by omega) (by omega) (by omega) (by omega)])⟩)
    (by
      unfold ylots at ylo ⊢
      rw [K9 9 (by omega) (by omega) (by omega) (by omega) (by omega) (by omega) (by omega) (by omega), K9 10 (by omega) (by omega) (by omega) (by omega) (by omega) (by omega) (by omega) (by omega), K9 11 (by omega) (by omega) (by omega) (by omega) (by omega) (by omega) (by omega) (by omega), K9 19 (by omega) (by omega) (by omega) (by omega) (by omega) (by omega) (by omega) (by omega)]
      obtain ⟨u1, u2, u3, u4, u5, u6, u7, u8⟩ := ylo
      exact ⟨u1, u2, u3, u4, u5, u6, u7, fun i e1 e2 => by rw [K9 (500 + i) (by omega) (by omega) (by omega) (by omega) (by omega) (by omega) (by omega) (by omega), K9 (560 + i) (by omega) (by omega) (by omega) (by omega) (by omega) (by omega) (by omega) (by omega)]; exact u8 i e1 e2⟩)
  obtain ⟨h10, hh10⟩ : ∃ q, q = H_X4_failMachines b h9 := ⟨_, rfl⟩
  obtain ⟨g10, hg10⟩ : ∃ q, q = H_X12_fail g9 := ⟨_, rfl⟩
  rw [← hh10, ← hg10] at FA
  obtain ⟨p10, m11, f10, fg10, k10, zr10, fa10, zl10, yl10⟩ := FA
  sorry
