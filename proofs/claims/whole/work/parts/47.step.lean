/-! A minute, whole: the class's step and the model's minute. -/
set_option maxHeartbeats 4000000 in
theorem step_rel (b : Int) (h g : pH) (nm nw : Nat) (hr : rl b h (g 249) nm nw) (hy : yl (g 249) nm nw) (ht : tellOK b h g) (htm : g 249 15 ≤ 1000000) :
    P_X4_step b h ∧ P_X12_minute g ∧ rl b (H_X4_step b h) (H_X12_minute g 249) nm nw ∧ yl (H_X12_minute g 249) nm nw ∧ F_X4_step b h = nbr (H_X12_minute g 249) nw - nbr (g 249) nw ∧
    (∀ a, (a < b ∨ b + 46 ≤ a ∨ a = b + 37 ∨ a = b + 38 ∨ a = b + 39 ∨ a = b + 40) → H_X4_step b h a = h a) ∧ (∀ a, (a < 248 ∨ a = 250 ∨ a = 251 ∨ a = 252 ∨ a = 253 ∨ a = 254 ∨ 264 ≤ a) → H_X12_minute g a = g a) ∧ (∀ k : Int, (k = 14 ∨ (376 ≤ k ∧ k < 440)) → H_X12_minute g 249 k = g 249 k) ∧ H_X12_minute g 249 15 = g 249 15 + 1 ∧ (∀ k : Int, k ≠ 8 → k ≠ 9 → k ≠ 11 → k ≠ 12 → H_X12_minute g 248 k = g 248 k) ∧ (∀ w : Int, 0 ≤ w → w < nw → (H_X12_minute g 249 (328 + w) = 9 → g 249 (328 + w) = 9) ∧ (g 249 (328 + w) = 3 → H_X12_minute g 249 (328 + w) = 3)) := by
  have H1 := half1 b h g nm nw hr hy ht
  obtain ⟨⟨a0, a1, a2, a8, ac, ak⟩, ⟨mn, mm⟩, hp, h17, ⟨wn, wh, ww, wo⟩, hlo, h7, h8⟩ := hr
  obtain ⟨⟨b0, b0', b1, b1', b2, b2', b8, b8', bc, bk⟩, ⟨cn, c10, cm⟩, yp, y17, ⟨dn, d16, dh, dw⟩, ylo, y15, y16⟩ := hy
  simp only at H1
  obtain ⟨h4, hh4⟩ : ∃ q, q = H_X4_setSpeeds b (H_X4_placeWorks b (H_X4_readGauges b (H_X4_tellSpeed b h))) := ⟨_, rfl⟩
  obtain ⟨g6, hg6⟩ : ∃ q, q = s_X12_minute_18 g := ⟨_, rfl⟩
  rw [← hh4, ← hg6] at H1
  obtain ⟨p1, p2, p3, p4, m1, m2, m3, m4, m5, m6, f4, f4b, e48, s0, s3, fg6, k6, zr, z260, z263, zl, g6w⟩ := H1
  have tx : ht.1 = ht.1 := rfl
  -- feeds trip
  obtain ⟨h5, hh5⟩ : ∃ q, q = H_X4_tripFeeds b h4 := ⟨_, rfl⟩
  obtain ⟨g7, hg7⟩ : ∃ q, q = s_X12_minute_20 g := ⟨_, rfl⟩
  have eg7 : g7 = (L_X12_minute_210 0 g6).2 := by rw [hg7, hg6]; rfl
  have zd4 : zdraws b h4 g6 nm := fun m e1 e2 => by
    rw [f4 (b + 10) (by omega) (by omega) (by omega) (by omega) (by omega) (by omega) (by omega) (by omega), f4 (b + 12) (by omega) (by omega) (by omega) (by omega) (by omega) (by omega) (by omega) (by omega), k6 (104 + m) (by omega) (by omega) (by omega), k6 (124 + m) (by omega) (by omega) (by omega)]
    exact ⟨(mm m e1 e2).2.2.1, (cm m e1 e2).2.2.1.1, (cm m e1 e2).2.2.1.2, (mm m e1 e2).2.2.2.2.1⟩
  have TR := trips_rel b h4 g6 nm nw (by rw [f4 _ (by omega) (by omega) (by omega) (by omega) (by omega) (by omega) (by omega) (by omega)]; exact mn) (by rw [k6 _ (by omega) (by omega) (by omega)]; exact cn) c10 d16 zd4 (fun f e1 e2 => by
      rw [f4 (b + 19) (by omega) (by omega) (by omega) (by omega) (by omega) (by omega) (by omega) (by omega), k6 (56 + f) (by omega) (by omega) (by omega)]
      exact ⟨hp.2.2.2.2.2.2.2 f e1 e2, yp.2.2.2.2.2.2.2.2.2.2.2.2 f e1 e2⟩)
    ⟨fun _ _ _ _ _ => rfl, fun _ _ _ => rfl, fun _ _ _ => rfl, zr, fun m e1 e2 => by
      rw [f4 (b + 13) (by omega) (by omega) (by omega) (by omega) (by omega) (by omega) (by omega) (by omega), k6 (134 + m) (by omega) (by omega) (by omega)]
      exact ⟨(mm m e1 e2).2.2.2.2.2.1, (cm m e1 e2).2.2.2.2.2.1.1, (cm m e1 e2).2.2.2.2.2.1.2⟩⟩
  rw [← hh5, ← eg7] at TR
  obtain ⟨p5, m7, f5, fg7, k7, zr5, tr5⟩ := TR
  have F5 : ∀ a, a ≠ b → a ≠ b + 41 → a ≠ b + 45 → a ≠ b + 17 → a ≠ b + 15 → a ≠ b + 16 → a ≠ b + 34 → a ≠ b + 35 → a ≠ b + 13 → h5 a = h a := fun a e1 e2 e3 e4 e5 e6 e7 e8 e9 => by rw [f5 a e9 e6 e7 e8]; exact f4 a e1 e2 e3 e4 e5 e6 e7 e8
  have K7 : ∀ k : Int, k ≠ 16 → (k < 134 ∨ 144 ≤ k) → (k < 154 ∨ 174 ≤ k) → (k < 344 ∨ 360 ≤ k) → g7 249 k = g 249 k := fun k e1 e2 e3 e4 => by rw [k7 k e2 (by omega)]; exact k6 k e1 e3 e4
  -- supply
  obtain ⟨h6, hh6⟩ : ∃ q, q = H_X8_supply (b + 18) ((H_X4_shedWorks b h5) b 7) (H_X4_shedWorks b h5) := ⟨_, rfl⟩
  obtain ⟨g8, hg8⟩ : ∃ q, q = H_X12_supply g7 := ⟨_, rfl⟩
  have SU := supply_rel b (zins (zkey (g 249)) nw) h5 g7 nm nw (by rw [F5 _ (by omega) (by omega) (by omega) (by omega) (by omega) (by omega) (by omega) (by omega) (by omega)]; exact mn) (by rw [K7 _ (by omega) (by omega) (by omega) (by omega)]; exact cn) (by rw [F5 _ (by omega) (by omega) (by omega) (by omega) (by omega) (by omega) (by omega) (by omega) (by omega)]; exact wn) (by rw [K7 _ (by omega) (by omega) (by omega) (by omega)]; exact dn) c10 d16
    ⟨fun k e1 e2 => by rw [f5 (b + 36) (by omega) (by omega) (by omega) (by omega), fg7 258 (by omega) (by omega)]; exact zl.1 k e1 e2, zl.2⟩
    (fun m e1 e2 => by
      rw [F5 (b + 10) (by omega) (by omega) (by omega) (by omega) (by omega) (by omega) (by omega) (by omega) (by omega), F5 (b + 12) (by omega) (by omega) (by omega) (by omega) (by omega) (by omega) (by omega) (by omega) (by omega), K7 (104 + m) (by omega) (by omega) (by omega) (by omega), K7 (124 + m) (by omega) (by omega) (by omega) (by omega)]
      exact ⟨(mm m e1 e2).2.2.1, (cm m e1 e2).2.2.1.1, (cm m e1 e2).2.2.1.2, (mm m e1 e2).2.2.2.2.1⟩) zr5
    (by
      obtain ⟨q2, q3, q4, q5, q6, q8, q20, q19⟩ := hp
      unfold zpow
      rw [F5 (b + 18) (by omega) (by omega) (by omega) (by omega) (by omega) (by omega) (by omega) (by omega) (by omega), F5 (b + 19) (by omega) (by omega) (by omega) (by omega) (by omega) (by omega) (by omega) (by omega) (by omega), F5 (b + 20) (by omega) (by omega) (by omega) (by omega) (by omega) (by omega) (by omega) (by omega) (by omega), K7 3 (by omega) (by omega) (by omega) (by omega), K7 4 (by omega) (by omega) (by omega) (by omega), K7 5 (by omega) (by omega) (by omega) (by omega), K7 6 (by omega) (by omega) (by omega) (by omega), K7 7 (by omega) (by omega) (by omega) (by omega), K7 18 (by omega) (by omega) (by omega) (by omega)]
      exact ⟨q2, q3, q4, q5, q6, q8, fun k e1 e2 => by rw [K7 _ (by omega) (by omega) (by omega) (by omega)]; exact q20 k e1 e2, fun k e1 e2 => by rw [K7 _ (by omega) (by omega) (by omega) (by omega)]; exact q19 k e1 e2⟩)
    (by
      unfold ypow at yp ⊢
      rw [K7 3 (by omega) (by omega) (by omega) (by omega), K7 4 (by omega) (by omega) (by omega) (by omega), K7 5 (by omega) (by omega) (by omega) (by omega), K7 6 (by omega) (by omega) (by omega) (by omega), K7 7 (by omega) (by omega) (by omega) (by omega), K7 18 (by omega) (by omega) (by omega) (by omega)]
      obtain ⟨u1, u2, u3, u4, u5, u6, u7, u8, u9, u10, u11, u12, u13⟩ := yp
      exact ⟨u1, u2, u3, u4, u5, u6, u7, u8, u9, u10, u11, fun k e1 e2 => by rw [K7 _ (by omega) (by omega) (by omega) (by omega)]; exact u12 k e1 e2, fun k e1 e2 => by rw [K7 _ (by omega) (by omega) (by omega) (by omega)]; exact u13 k e1 e2⟩)
    (by rw [f5 b (by omega) (by omega) (by omega) (by omega), f4b 7 (by omega), K7 15 (by omega) (by omega) (by omega) (by omega)]; exact h7) (by rw [K7 15 (by omega) (by omega) (by omega) (by omega)]; exact ⟨y15, htm⟩)
  rw [← hh6, ← hg8] at SU
  obtain ⟨p6, p7, m8, f6, fg8, k8, zr6, zp6, yp6, e617, u17, u17'⟩ := SU
  have F6 : ∀ a, a ≠ b → a ≠ b + 41 → a ≠ b + 45 → a ≠ b + 17 → a ≠ b + 15 → a ≠ b + 16 → a ≠ b + 34 → a ≠ b + 35 → a ≠ b + 13 → a ≠ b + 18 → h6 a = h a := fun a e1 e2 e3 e4 e5 e6 e7 e8 e9 e10 => by rw [f6 a e6 e7 e8 e10]; exact F5 a e1 e2 e3 e4 e5 e6 e7 e8 e9
  have K8 : ∀ k : Int, k ≠ 16 → (k < 134 ∨ 144 ≤ k) → (k < 154 ∨ 174 ≤ k) → (k < 344 ∨ 360 ≤ k) → k ≠ 7 → k ≠ 17 → k ≠ 18 → g8 249 k = g 249 k := fun k e1 e2 e3 e4 e5 e6 e7 => by rw [k8 k (by omega) e5 e6 e7]; exact K7 k e1 e2 e3 e4
  have h6b : ∀ k : Int, k ≠ 8 → h6 b k = h b k := fun k e1 => by rw [f6 b (by omega) (by omega) (by omega) (by omega), f5 b (by omega) (by omega) (by omega) (by omega)]; exact f4b k e1
  have h6b8 : h6 b 8 = g6 249 16 := by rw [f6 b (by omega) (by omega) (by omega) (by omega), f5 b (by omega) (by omega) (by omega) (by omega)]; exact e48
  have g816 : g8 249 16 = g6 249 16 := by rw [k8 16 (by omega) (by omega) (by omega) (by omega), k7 16 (by omega) (by omega)]
  -- the gauges' past
  obtain ⟨h7', hh7⟩ : ∃ q, q = H_X0_remember (b + 1) h6 := ⟨_, rfl⟩
  have e7 : h7' = pm_cpy (pm_cpy h6 (b + 5) 0 (b + 5) 12 48) (b + 2) 0 (b + 5) 0 12 := by
    rw [hh7]
    show s_X0_remember_1 _ _ = _
    unfold s_X0_remember_1
    rw [show b + 1 + 4 = b + 5 by omega, show b + 1 + 1 = b + 2 by omega]
  have f7 : ∀ a, a ≠ b + 5 → h7' a = h6 a := fun a e1 => by rw [e7, cp_cell _ e1, cp_cell _ e1]
  have h75 : ∀ k : Int, 0 ≤ k → k < 60 → h7' (b + 5) k = if k < 12 then g 249 (20 + k) else g 249 (440 + (k - 12)) := fun k e1 e2 => by
    rw [e7, cp_app]
    by_cases c : k < 12
    · rw [if_pos ⟨rfl, by omega, by omega⟩, if_pos c, cp_cell _ (by omega), F6 (b + 2) (by omega) (by omega) (by omega) (by omega) (by omega) (by omega) (by omega) (by omega) (by omega) (by omega), show (0 : Int) + (k - 0) = k by omega]
      exact (ac k e1 c).1
    · rw [if_neg (by omega), if_neg c, cp_app, if_pos ⟨rfl, by omega, by omega⟩, F6 (b + 5) (by omega) (by omega) (by omega) (by omega) (by omega) (by omega) (by omega) (by omega) (by omega) (by omega), show (0 : Int) + (k - 12) = k - 12 by omega]
      exact ak (k - 12) (by omega) (by omega)
  -- machines warm
  have WA := warm1 b h7' g8 nm (by rw [f7 _ (by omega), F6 _ (by omega) (by omega) (by omega) (by omega) (by omega) (by omega) (by omega) (by omega) (by omega) (by omega)]; exact mn) (by rw [K8 _ (by omega) (by omega) (by omega) (by omega) (by omega) (by omega) (by omega)]; exact cn) c10
    (fun m e1 e2 => by
      rw [f7 (b + 8) (by omega), f7 (b + 9) (by omega), f7 (b + 16) (by omega), F6 (b + 8) (by omega) (by omega) (by omega) (by omega) (by omega) (by omega) (by omega) (by omega) (by omega) (by omega), F6 (b + 9) (by omega) (by omega) (by omega) (by omega) (by omega) (by omega) (by omega) (by omega) (by omega) (by omega), K8 (84 + m) (by omega) (by omega) (by omega) (by omega) (by omega) (by omega) (by omega), K8 (94 + m) (by omega) (by omega) (by omega) (by omega) (by omega) (by omega) (by omega)]
      have q := zr6.1 m e1 e2
      exact ⟨(mm m e1 e2).1, (cm m e1 e2).1.1, (cm m e1 e2).1.2, q.2.1, q.2.2.1, q.2.2.2.1, (mm m e1 e2).2.1, (cm m e1 e2).2.1.1, (cm m e1 e2).2.1.2⟩)
    (fun c e1 e2 => by
      rw [f7 (b + 2) (by omega), F6 (b + 2) (by omega) (by omega) (by omega) (by omega) (by omega) (by omega) (by omega) (by omega) (by omega) (by omega), K8 (20 + c) (by omega) (by omega) (by omega) (by omega) (by omega) (by omega) (by omega)]
      exact ⟨(ac c e1 e2).1, (bc c e1 e2).1, (bc c e1 e2).2.1⟩)
  obtain ⟨h8', hh8⟩ : ∃ q, q = H_X6_warm (b + 7) (b + 1) h7' := ⟨_, rfl⟩
  obtain ⟨gw, hgw⟩ : ∃ q, q = (L_X12_warm_2 0 g8).2 := ⟨_, rfl⟩
  rw [← hh8, ← hgw] at WA
  obtain ⟨p8, m9, f8, fgw, kw, c8⟩ := WA
  -- heat settles
  have zh : zheat (b + 1) h8' gw := by
    unfold zheat
    rw [f8 (b + 1) (by omega), f7 (b + 1) (by omega), F6 (b + 1) (by omega) (by omega) (by omega) (by omega) (by omega) (by omega) (by omega) (by omega) (by omega) (by omega), kw 0 (by omega), kw 1 (by omega), kw 2 (by omega), K8 0 (by omega) (by omega) (by omega) (by omega) (by omega) (by omega) (by omega), K8 1 (by omega) (by omega) (by omega) (by omega) (by omega) (by omega) (by omega), K8 2 (by omega) (by omega) (by omega) (by omega) (by omega) (by omega) (by omega)]
    exact ⟨a0, a1, a2, b0, b0', b1, b1', b2, b2', fun c e1 e2 => by rw [show b + 1 + 1 = b + 2 by omega]; exact c8 c e1 e2⟩
  have SA := settleA (b + 1) h8' gw zh
  have SB := settleB (b + 1) h8' gw _ _ zh SA.2.2
  have SC := settleC (b + 1) h8' gw _ _ zh SB.2.2 (fun c e1 e2 => by
    rw [show b + 1 + 2 = b + 3 by omega, show b + 1 + 3 = b + 4 by omega, f8 (b + 3) (by omega), f8 (b + 4) (by omega), f7 (b + 3) (by omega), f7 (b + 4) (by omega), F6 (b + 3) (by omega) (by omega) (by omega) (by omega) (by omega) (by omega) (by omega) (by omega) (by omega) (by omega), F6 (b + 4) (by omega) (by omega) (by omega) (by omega) (by omega) (by omega) (by omega) (by omega) (by omega) (by omega), kw (32 + c) (by omega), kw (44 + c) (by omega), K8 (32 + c) (by omega) (by omega) (by omega) (by omega) (by omega) (by omega) (by omega), K8 (44 + c) (by omega) (by omega) (by omega) (by omega) (by omega) (by omega) (by omega)]
    exact ⟨(ac c e1 e2).2.1, (bc c e1 e2).2.2.1, (bc c e1 e2).2.2.2.1, (ac c e1 e2).2.2, (bc c e1 e2).2.2.2.2.1, (bc c e1 e2).2.2.2.2.2⟩)
  obtain ⟨h9, hh9⟩ : ∃ q, q = H_X0_settle (b + 1) h8' := ⟨_, rfl⟩
  obtain ⟨g9, hg9⟩ : ∃ q, q = H_X12_warm g8 := ⟨_, rfl⟩
  have eh9 : (L_X0_settle_57 (b + 1) 0 (L_X0_settle_28 (b + 1) 0 (L_X0_settle_2 (b + 1) 0 h8').2).2).2 = h9 := by rw [hh9]; rfl
  have eg9 : (L_X12_warm_103 0 (L_X12_warm_70 0 (L_X12_warm_40 0 gw).2).2).2 = g9 := by rw [hg9, hgw]; rfl
  rw [eh9, eg9] at SC
  obtain ⟨sc1, sc2, f9, fg9, k9, c9⟩ := SC
  have p9 : P_X0_settle (b + 1) h8' := ⟨SA.1, SB.1, sc1⟩
  have m10 : P_X12_warm g8 := ⟨m9, by rw [hgw] at SA; exact SA.2.1, by rw [hgw] at SB; exact SB.2.1, by rw [hgw] at sc2; exact sc2⟩
  have F9 : ∀ a, a ≠ b → a ≠ b + 41 → a ≠ b + 45 → a ≠ b + 17 → a ≠ b + 15 → a ≠ b + 16 → a ≠ b + 34 → a ≠ b + 35 → a ≠ b + 13 → a ≠ b + 18 → a ≠ b + 5 → a ≠ b + 2 → a ≠ b + 6 → h9 a = h a := fun a e1 e2 e3 e4 e5 e6 e7 e8 e9 e10 e11 e12 e13 => by rw [f9 a (by omega) (by omega), f8 a e12, f7 a e11]; exact F6 a e1 e2 e3 e4 e5 e6 e7 e8 e9 e10
  have F96 : ∀ a, a ≠ b + 5 → a ≠ b + 2 → a ≠ b + 6 → h9 a = h6 a := fun a e11 e12 e13 => by rw [f9 a (by omega) (by omega), f8 a e12, f7 a e11]
  have K98 : ∀ k : Int, (k < 20 ∨ 32 ≤ k) → g9 249 k = g8 249 k := fun k e1 => by rw [k9 k e1, kw k e1]
  have K9 : ∀ k : Int, k ≠ 16 → (k < 134 ∨ 144 ≤ k) → (k < 154 ∨ 174 ≤ k) → (k < 344 ∨ 360 ≤ k) → k ≠ 7 → k ≠ 17 → k ≠ 18 → (k < 20 ∨ 32 ≤ k) → g9 249 k = g 249 k := fun k e1 e2 e3 e4 e5 e6 e7 e8 => by rw [K98 k e8]; exact K8 k e1 e2 e3 e4 e5 e6 e7
  have zr9 : zrunF b h9 g9 nm nw := zrunF_of (zrun_congr zr6 c10 d16 (fun a q => F96 a (by omega) (by omega) (by omega)) (fun a q => by rw [fg9 a (by omega) (by omega), fgw a (by omega)]) (fun k q => K98 k (by omega)))
  -- failing
  have FA := fail_rel b h9 g9 nm nw (by rw [F9 _ (by omega) (by omega) (by omega) (by omega) (by omega) (by omega) (by omega) (by omega) (by omega) (by omega) (by omega) (by omega) (by omega)]; exact mn) (by rw [K9 _ (by omega) (by omega) (by omega) (by omega) (by omega) (by omega) (by omega) (by omega)]; exact cn) c10 d16 zr9
    (fun m e1 e2 => by
      rw [F9 (b + 8) (by omega) (by omega) (by omega) (by omega) (by omega) (by omega) (by omega) (by omega) (by omega) (by omega) (by omega) (by omega) (by omega), F9 (b + 14) (by omega) (by omega) (by omega) (by omega) (by omega) (by omega) (by omega) (by omega) (by omega) (by omega) (by omega) (by omega) (by omega), K9 (84 + m) (by omega) (by omega) (by omega) (by omega) (by omega) (by omega) (by omega) (by omega), K9 (144 + m) (by omega) (by omega) (by omega) (by omega) (by omega) (by omega) (by omega) (by omega)]
      exact ⟨(mm m e1 e2).1, (cm m e1 e2).1.1, (cm m e1 e2).1.2, (mm m e1 e2).2.2.2.2.2.2.1, (cm m e1 e2).2.2.2.2.2.2.1.1, (cm m e1 e2).2.2.2.2.2.2.1.2⟩)
    (fun c e1 e2 => by have := c9 c e1 e2; rw [show b + 1 + 1 = b + 2 by omega] at this; exact this)
    (by
      obtain ⟨l0, l1, l2, l3, lk⟩ := hlo
      unfold zlots
      rw [F9 (b + 42) (by omega) (by omega) (by omega) (by omega) (by omega) (by omega) (by omega) (by omega) (by omega) (by omega) (by omega) (by omega) (by omega), F9 (b + 43) (by omega) (by omega) (by omega) (by omega) (by omega) (by omega) (by omega) (by omega) (by omega) (by omega) (by omega) (by omega) (by omega), F9 (b + 44) (by omega) (by omega) (by omega) (by omega) (by omega) (by omega) (by omega) (by omega) (by omega) (by omega) (by omega) (by omega) (by omega), K9 9 (by omega) (by omega) (by omega) (by omega) (by omega) (by omega) (by omega) (by omega), K9 10 (by omega) (by omega) (by omega) (by omega) (by omega) (by omega) (by omega) (by omega), K9 11 (by omega) (by omega) (by omega) (by omega) (by omega) (by omega) (by omega) (by omega), K9 19 (by omega) (by omega) (by omega) (by omega) (by omega) (by omega) (by omega) (by omega)]
      refine ⟨l0, l1, l2, l3, fun k e1 e2 => ?_⟩
      rw [(lk k e1 e2).1, (lk k e1 e2).2]
      exact ⟨zs_congr (fun j u1 u2 => by simp only [K9 (500 + j) (by omega) (by omega) (by omega) (by omega) (by omega) (by omega) (by omega) (by omega), K9 (560 + j) (by omega) (by omega) (by omega) (by omega) (by omega) (by omega) (by omega) (by omega)]), zs_congr (fun j u1 u2 => by simp only [K9 (500 + j) (by omega) (by omega) (by omega) (by omega) (by omega) (by omega) (by omega) (by omega), K9 (560 + j) (by omega) (by omega) (by omega) (by omega) (by omega) (by omega) (by omega) (by omega)])⟩)
    (by
      unfold ylots at ylo ⊢
      rw [K9 9 (by omega) (by omega) (by omega) (by omega) (by omega) (by omega) (by omega) (by omega), K9 10 (by omega) (by omega) (by omega) (by omega) (by omega) (by omega) (by omega) (by omega), K9 11 (by omega) (by omega) (by omega) (by omega) (by omega) (by omega) (by omega) (by omega), K9 19 (by omega) (by omega) (by omega) (by omega) (by omega) (by omega) (by omega) (by omega)]
      obtain ⟨u1, u2, u3, u4, u5, u6, u7, u8⟩ := ylo
      exact ⟨u1, u2, u3, u4, u5, u6, u7, fun i e1 e2 => by rw [K9 (500 + i) (by omega) (by omega) (by omega) (by omega) (by omega) (by omega) (by omega) (by omega), K9 (560 + i) (by omega) (by omega) (by omega) (by omega) (by omega) (by omega) (by omega) (by omega)]; exact u8 i e1 e2⟩)
  obtain ⟨h10, hh10⟩ : ∃ q, q = H_X4_failMachines b h9 := ⟨_, rfl⟩
  obtain ⟨g10, hg10⟩ : ∃ q, q = H_X12_fail g9 := ⟨_, rfl⟩
  rw [← hh10, ← hg10] at FA
  obtain ⟨p10, m11, f10, fg10, k10, zr10, fa10, zl10, yl10⟩ := FA
  have F10 : ∀ a, a ≠ b → a ≠ b + 41 → a ≠ b + 45 → a ≠ b + 17 → a ≠ b + 15 → a ≠ b + 16 → a ≠ b + 34 → a ≠ b + 35 → a ≠ b + 13 → a ≠ b + 18 → a ≠ b + 5 → a ≠ b + 2 → a ≠ b + 6 → a ≠ b + 14 → a ≠ b + 42 → a ≠ b + 43 → a ≠ b + 44 → h10 a = h a := fun a e1 e2 e3 e4 e5 e6 e7 e8 e9 e10 e11 e12 e13 e14 e15 e16 e17 => by rw [f10 a e14 e7 e15 e16 e17]; exact F9 a e1 e2 e3 e4 e5 e6 e7 e8 e9 e10 e11 e12 e13
  have W10 : ∀ a, ((b + 19 ≤ a ∧ a ≤ b + 33) ∨ (b + 7 ≤ a ∧ a ≤ b + 12) ∨ a = b + 36 ∨ a = b + 3 ∨ a = b + 4 ∨ a = b + 1 ∨ (b + 37 ≤ a ∧ a ≤ b + 40)) → h10 a = h a := fun a e => F10 a (by omega) (by omega) (by omega) (by omega) (by omega) (by omega) (by omega) (by omega) (by omega) (by omega) (by omega) (by omega) (by omega) (by omega) (by omega) (by omega) (by omega)
  have K10 : ∀ k : Int, ((174 ≤ k ∧ k < 344) ∨ (360 ≤ k ∧ k < 500) ∨ (32 ≤ k ∧ k < 134) ∨ k = 0 ∨ k = 1 ∨ k = 2 ∨ k = 8 ∨ k = 12 ∨ k = 13 ∨ k = 14 ∨ k = 15) → g10 249 k = g 249 k := fun k e => by rw [k10 k (by omega) (by omega) (by omega) (by omega)]; exact K9 k (by omega) (by omega) (by omega) (by omega) (by omega) (by omega) (by omega) (by omega)
  have g1063 : ∀ w : Int, 0 ≤ w → w < nw → g10 263 w = if zopen (g 249) w then 1 else 0 := fun w e1 e2 => by
    rw [fg10 263 (by omega) (by omega), fg9 263 (by omega) (by omega), fgw 263 (by omega), fg8 263 (by omega) (by omega), fg7 263 (by omega) (by omega)]
    exact z263 w e1 e2
  -- finishing
  have FM := fins_M g10 nw (by rw [K10 13 (by omega)]; exact dn) d16 (fun w e1 e2 => by
      have q := zr10.2 w e1 e2
      have d := (dw w e1 e2).1
      rw [K10 (296 + w) (by omega)]
      have d1 := d.2.2.2.2.2.2.2.2.2.2.1
      have d2 := d.2.2.2.2.2.2.2.2.2.2.2.1
      exact ⟨by omega, by omega, q.2.2.1, q.2.2.2.1, d1, by omega⟩)
    (fun m e1 e2 ⟨w, e3, e4, e5⟩ => by
      have q := zr10.2 w e3 e4
      have q2 := zr10.1 m e1 (by omega)
      exact ⟨q2.2.2.1, q2.2.2.2.1⟩)
  have FX := fins_X b h10 nm nw (by rw [W10 _ (by omega)]; exact wn) d16 c10 (fun w e1 e2 => by
      have q := zr10.2 w e1 e2
      have d := (dw w e1 e2).1
      rw [W10 (b + 31) (by omega), (ww w e1 e2).2.2.2.2.2.2.1, q.2.1]
      have d1 := d.2.2.2.2.2.2.2.2.2.2.1
      have d2 := d.2.2.2.2.2.2.2.2.2.2.2.1
      refine ⟨?_, d1, by omega⟩
      split <;> omega)
    (fun m e1 e2 => by have q := zr10.1 m e1 e2; rw [q.2.1]; exact ⟨q.2.2.1, q.2.2.2.1⟩)
  obtain ⟨h11, hh11⟩ : ∃ q, q = H_X4_finishWorks b h10 := ⟨_, rfl⟩
  obtain ⟨g11, hg11⟩ : ∃ q, q = s_X12_minute_22 g := ⟨_, rfl⟩
  have eg11 : (L_X12_minute_226 0 g10).2 = g11 := by rw [hg11, hg10, hg9, hg8, hg7]; rfl
  rw [eg11] at FM
  rw [← hh11] at FX
  obtain ⟨m12, fg11, k11, v11⟩ := FM
  obtain ⟨p11, f11, x11⟩ := FX
  -- trips
  have EN := ends_rel b h11 g11 nm (by rw [f11 _ (by omega) (by omega), W10 _ (by omega)]; exact mn) (by rw [k11 _ (by omega), K10 _ (by omega)]; exact cn) c10 (fun m e1 e2 => by
    have q := tr5 m e1 e2
    rw [f11 (b + 13) (by omega) (by omega), f10 (b + 13) (by omega) (by omega) (by omega) (by omega) (by omega), F96 (b + 13) (by omega) (by omega) (by omega), f6 (b + 13) (by omega) (by omega) (by omega) (by omega), k11 (134 + m) (by omega), k10 (134 + m) (by omega) (by omega) (by omega) (by omega), K98 (134 + m) (by omega), k8 (134 + m) (by omega) (by omega) (by omega) (by omega)]
    exact q)
  obtain ⟨h12, hh12⟩ : ∃ q, q = H_X6_endTrips (b + 7) h11 := ⟨_, rfl⟩
  obtain ⟨g12, hg12⟩ : ∃ q, q = s_X12_minute_26 g := ⟨_, rfl⟩
  have eg12 : (L_X12_minute_246 0 g11).2 = g12 := by rw [hg12, hg11]; rfl
  rw [eg12, ← hh12] at EN
  obtain ⟨p12, m13, f12, fg12, k12, v12⟩ := EN
  have SH := shift_M g12
  obtain ⟨g13, hg13⟩ : ∃ q, q = s_X12_minute_28 g := ⟨_, rfl⟩
  have eg13 : (L_X12_minute_279 59 g12).2 = g13 := by rw [hg13, hg12]; rfl
  rw [eg13] at SH
  obtain ⟨m14, fg13, k13⟩ := SH
  have BE := began_M g13
  obtain ⟨g14, hg14⟩ : ∃ q, q = s_X12_minute_30 g := ⟨_, rfl⟩
  have eg14 : (L_X12_minute_300 0 g13).2 = g14 := by rw [hg14, hg13]; rfl
  rw [eg14] at BE
  obtain ⟨m15, fg14, k14⟩ := BE
  have K14 : ∀ k : Int, (k < 440 ∨ 500 ≤ k) → g14 249 k = g12 249 k := fun k e => by rw [k14, if_neg (by omega), k13, if_neg (by omega)]
  have t14 : g14 249 15 = g 249 15 := by rw [K14 15 (by omega), k12 15 (by omega), k11 15 (by omega), K10 15 (by omega)]
  obtain ⟨z', hz'⟩ : ∃ q, q = H_X12_minute g := ⟨_, rfl⟩
  have ez : z' = pm_upd g14 249 15 (g 249 15 + 1) := by
    rw [hz']
    show s_X12_minute_31 g = _
    unfold s_X12_minute_31
    rw [← hg14, t14]
  have Z15 : z' 249 15 = g 249 15 + 1 := by rw [ez, up_eq]
  have Z : ∀ k : Int, k ≠ 15 → (k < 440 ∨ 500 ≤ k) → z' 249 k = g12 249 k := fun k e1 e2 => by rw [ez, up_pl _ e1]; exact K14 k e2
  have Z11 : ∀ k : Int, k ≠ 15 → (k < 440 ∨ 500 ≤ k) → (k < 134 ∨ 144 ≤ k) → z' 249 k = g11 249 k := fun k e1 e2 e3 => by rw [Z k e1 e2]; exact k12 k e3
  have Z10 : ∀ k : Int, k ≠ 15 → (k < 440 ∨ 500 ≤ k) → (k < 134 ∨ 144 ≤ k) → (k < 296 ∨ 376 ≤ k) → z' 249 k = g10 249 k := fun k e1 e2 e3 e4 => by rw [Z11 k e1 e2 e3]; exact k11 k e4
  -- the class: the minute's number, closing
  obtain ⟨h13, hh13⟩ : ∃ q, q = pm_upd h12 b 7 (g 249 15 + 1) := ⟨_, rfl⟩
  have h12b : h12 b 7 = g 249 15 := by rw [f12 b (by omega), f11 b (by omega) (by omega), f10 b (by omega) (by omega) (by omega) (by omega) (by omega), F96 b (by omega) (by omega) (by omega), h6b 7 (by omega)]; exact h7
  have f13 : ∀ a, a ≠ b → h13 a = h12 a := fun a e1 => by rw [hh13, up_cell _ e1]
  have h13b : h13 b 7 = g 249 15 + 1 := by rw [hh13, up_eq]
  have W13 : ∀ a, ((b + 19 ≤ a ∧ a ≤ b + 30) ∨ a = b + 32 ∨ (b + 7 ≤ a ∧ a ≤ b + 12) ∨ a = b + 36 ∨ a = b + 3 ∨ a = b + 4 ∨ a = b + 1 ∨ (b + 37 ≤ a ∧ a ≤ b + 40)) → h13 a = h a := fun a e => by rw [f13 a (by omega), f12 a (by omega), f11 a (by omega) (by omega)]; exact W10 a (by omega)
  have CL := close_X b (h13 b 7) h13 nw (by rw [W13 _ (by omega)]; exact wn) d16 (fun w e1 e2 => by
    have d := (dw w e1 e2).1
    rw [W13 (b + 28) (by omega), W13 (b + 29) (by omega), (ww w e1 e2).2.2.2.1, (ww w e1 e2).2.2.2.2.1]
    have d1 := d.2.2.2.2.1
    have d2 := d.2.2.2.2.2.1
    have d3 := d.2.2.2.2.2.2.1
    have d4 := d.2.2.2.2.2.2.2.1
    omega)
  obtain ⟨h14, hh14⟩ : ∃ q, q = H_X10_close (b + 21) (h13 b 7) h13 := ⟨_, rfl⟩
  rw [← hh14] at CL
  obtain ⟨p14, f14, s14, r14⟩ := CL
  rw [h13b] at s14 r14
  have es7 : s_X4_step_7 b h = h13 := by
    have e : s_X4_step_7 b h = pm_upd h12 b 7 (h12 b 7 + 1) := by rw [hh12, hh11, hh10, hh9, hh8, hh7, hh6, hh5, hh4]; rfl
    rw [e, h12b, hh13]
  have eX : H_X4_step b h = h14 := by
    show H_X10_close (b + 21) ((s_X4_step_7 b h) b 7) (s_X4_step_7 b h) = _
    rw [es7, hh14]
  have eF : F_X4_step b h = F_X10_close (b + 21) (g 249 15 + 1) h13 := by
    show F_X10_close (b + 21) ((s_X4_step_7 b h) b 7) (s_X4_step_7 b h) = _
    rw [es7, h13b]
  -- each work
  have wk : ∀ w : Int, 0 ≤ w → w < nw →
      h14 (b + 31) w = z' 249 (296 + w) ∧ h14 (b + 33) w = z' 249 (312 + w) ∧ h14 (b + 32) w = zst (z' 249) w ∧ h14 (b + 35) w = z' 249 (344 + w) ∧ zwk (z' 249) w ∧ (-1 ≤ z' 249 (344 + w) ∧ z' 249 (344 + w) < nm) ∧
      (if z' 249 (328 + w) = 3 then (1 : Int) else 0) = (if g 249 (328 + w) = 3 then 1 else 0) + (if (h13 (b + 32) w = 0 ∨ h13 (b + 32) w = 1) ∧ F_X10_stateAt (b + 21) w (g 249 15 + 1) h13 = 3 then 1 else 0) ∧ (z' 249 (328 + w) = 9 → g 249 (328 + w) = 9) := by
    intro w e1 e2
    have d := (dw w e1 e2).1
    have q := zr10.2 w e1 e2
    have v := v11 w e1 e2
    have x := x11 w e1 e2
    have qw := ww w e1 e2
    have hop := zst_open d
    rw [g1063 w e1 e2] at v
    rw [W10 (b + 32) (by omega), W10 (b + 31) (by omega), W10 (b + 33) (by omega), qw.2.2.2.2.2.2.2.1, qw.2.2.2.2.2.2.1, qw.2.2.2.2.2.2.2.2.1] at x
    rw [K10 (296 + w) (by omega), K10 (312 + w) (by omega), K10 (328 + w) (by omega), K10 (360 + w) (by omega)] at v
    have e31 : h14 (b + 31) w = h11 (b + 31) w := by rw [f14 _ (by omega), f13 _ (by omega), f12 _ (by omega)]
    have e33 : h14 (b + 33) w = h11 (b + 33) w := by rw [f14 _ (by omega), f13 _ (by omega), f12 _ (by omega)]
    have e35 : h14 (b + 35) w = h10 (b + 35) w := by rw [f14 _ (by omega), f13 _ (by omega), f12 _ (by omega), f11 _ (by omega) (by omega)]
    have e32 : h13 (b + 32) w = zst (g 249) w := by rw [W13 _ (by omega)]; exact qw.2.2.2.2.2.2.2.1
    have hst := s14 w e1 e2
    rw [e32] at hst
    have n1 : z' 249 (296 + w) = g11 249 (296 + w) := Z11 _ (by omega) (by omega) (by omega)
    have n2 : z' 249 (312 + w) = g11 249 (312 + w) := Z11 _ (by omega) (by omega) (by omega)
    have n3 : z' 249 (328 + w) = g11 249 (328 + w) := Z11 _ (by omega) (by omega) (by omega)
    have n4 : z' 249 (344 + w) = g11 249 (344 + w) := Z11 _ (by omega) (by omega) (by omega)
    have n5 : z' 249 (360 + w) = g11 249 (360 + w) := Z11 _ (by omega) (by omega) (by omega)
    have o1 : z' 249 (200 + w) = g 249 (200 + w) := by rw [Z10 _ (by omega) (by omega) (by omega) (by omega), K10 _ (by omega)]
    have o2 : z' 249 (232 + w) = g 249 (232 + w) := by rw [Z10 _ (by omega) (by omega) (by omega) (by omega), K10 _ (by omega)]
    have o3 : z' 249 (248 + w) = g 249 (248 + w) := by rw [Z10 _ (by omega) (by omega) (by omega) (by omega), K10 _ (by omega)]
    have o4 : z' 249 (264 + w) = g 249 (264 + w) := by rw [Z10 _ (by omega) (by omega) (by omega) (by omega), K10 _ (by omega)]
    have sA : F_X10_stateAt (b + 21) w (g 249 15 + 1) h13 = nat_ (g 249 (200 + w)) (g 249 (232 + w)) (g 249 (248 + w)) (g 249 (264 + w)) (h11 (b + 31) w) (g 249 15 + 1) := by
      unfold F_X10_stateAt s_X10_stateAt_1 nat_
      rw [show b + 21 + 4 = b + 25 by omega, show b + 21 + 6 = b + 27 by omega, show b + 21 + 7 = b + 28 by omega, show b + 21 + 8 = b + 29 by omega, show b + 21 + 10 = b + 31 by omega, W13 (b + 25) (by omega), W13 (b + 27) (by omega), W13 (b + 28) (by omega), W13 (b + 29) (by omega), f13 (b + 31) (by omega), f12 (b + 31) (by omega), qw.1, qw.2.2.1, qw.2.2.2.1, qw.2.2.2.2.1]
    have rr : xwk b h10 w = zfr g10 w := by
      unfold xwk zfr
      rw [q.1, q.2.1]
      by_cases c : g10 259 w = 0
      · rw [if_pos c, if_pos (Or.inl c), if_pos c]
        by_cases c2 : g10 249 (344 + w) = -1
        · rw [if_pos c2, if_pos c2]
        · rw [if_neg c2, if_neg c2]
          exact (zr10.1 _ (by omega) (by omega)).2.1
      · rw [if_neg c, if_neg c]
        split <;> rfl
    have rb : 0 ≤ zfr g10 w ∧ zfr g10 w ≤ 3 ∧ (g10 259 w ≠ 0 → zfr g10 w = 0) := by
      unfold zfr
      by_cases c2 : g10 249 (344 + w) = -1
      · rw [if_pos c2]; omega
      · rw [if_neg c2]
        have := zr10.1 (g10 249 (344 + w)) (by omega) (by omega)
        split <;> omega
    have dd := d
    unfold zwk at dd
    by_cases hz : zopen (g 249) w
    · -- open
      have hst1 := hop.mpr hz
      rw [if_pos hz] at v
      simp only [show ¬ (1 : Int) = 0 by omega, if_false] at v
      rw [if_pos hst1, if_pos hst1] at x
      have co := close_open (q := g10 259 w) (r := zfr g10 w) dd y15 hz.1 hz.2 ⟨rb.1, rb.2.1⟩ ⟨q.2.2.1, q.2.2.2.1⟩ rb.2.2
      obtain ⟨u1, u2, u3, u4, u5, u6⟩ := co
      have vd : zfd' g10 w = nD (g 249 (200 + w)) (g 249 (232 + w)) (g 249 (296 + w)) (zfr g10 w) := by unfold zfd' nD; rw [K10 (200 + w) (by omega), K10 (232 + w) (by omega), K10 (296 + w) (by omega)]
      have vm : zfm g10 w = nS (g 249 (200 + w)) (g 249 (232 + w)) (g 249 (360 + w)) (zfr g10 w) := by unfold zfm nS; rw [K10 (200 + w) (by omega), K10 (232 + w) (by omega), K10 (360 + w) (by omega)]
      have vc : zfc g10 w = nC (g 249 (200 + w)) (g 249 (232 + w)) (g 249 (312 + w)) (g 249 (360 + w)) (g10 259 w) (zfr g10 w) := by unfold zfc nC; rw [K10 (200 + w) (by omega), K10 (232 + w) (by omega), K10 (360 + w) (by omega), K10 (312 + w) (by omega)]
      have vo : zfo g10 w = nO (g 249 (200 + w)) (g 249 (232 + w)) (g 249 (264 + w)) (nD (g 249 (200 + w)) (g 249 (232 + w)) (g 249 (296 + w)) (zfr g10 w)) (nS (g 249 (200 + w)) (g 249 (232 + w)) (g 249 (360 + w)) (zfr g10 w)) (g 249 15) := by
        unfold zfo nO
        rw [vd, vm, K10 (200 + w) (by omega), K10 (232 + w) (by omega), K10 (264 + w) (by omega), K10 15 (by omega)]
      have xd : xdn b h10 w = xD (g 249 (200 + w)) (g 249 (232 + w)) (g 249 (296 + w)) (zfr g10 w) := by unfold xdn xD; rw [rr, W10 (b + 25) (by omega), W10 (b + 27) (by omega), W10 (b + 31) (by omega), qw.1, qw.2.2.1, qw.2.2.2.2.2.2.1]
      have xc : xca b h10 w = xC (g 249 (200 + w)) (g 249 (232 + w)) (g 249 (312 + w)) (g10 259 w) (zfr g10 w) := by unfold xca xC; rw [rr, W10 (b + 25) (by omega), W10 (b + 27) (by omega), W10 (b + 33) (by omega), qw.1, qw.2.2.1, qw.2.2.2.2.2.2.2.2.1, q.1]
      have hD : h11 (b + 31) w = nD (g 249 (200 + w)) (g 249 (232 + w)) (g 249 (296 + w)) (zfr g10 w) := by rw [x.1, xd, u2]
      rw [vd] at v
      rw [vc, vo, vm] at v
      rw [hD] at sA
      rw [hst1, if_pos (Or.inr rfl), sA] at hst
      have zz : zst (z' 249) w = nst (nO (g 249 (200 + w)) (g 249 (232 + w)) (g 249 (264 + w)) (nD (g 249 (200 + w)) (g 249 (232 + w)) (g 249 (296 + w)) (zfr g10 w)) (nS (g 249 (200 + w)) (g 249 (232 + w)) (g 249 (360 + w)) (zfr g10 w)) (g 249 15)) (g 249 (200 + w)) (g 249 (248 + w)) (g 249 15 + 1) := by
        unfold zst; rw [n3, v.2.2.1, o1, o3, Z15]
      have q4 : zfa g10 w = h10 (b + 35) w := by
        rw [q.2.1]
        unfold zfa
        by_cases c2 : g10 249 (344 + w) = -1
        · rw [if_pos c2]
          split <;> omega
        · rw [if_neg c2]
          have r1 := q.2.2.2.2.1
          have r2 := zr10.1 (g10 249 (344 + w)) (by omega) (by omega)
          have r3 : g10 249 (154 + g10 249 (344 + w)) = w := by omega
          rw [r3] at r2
          rcases r2.2.2.2.2 with r4 | ⟨r4, r5, r6, r7⟩
          · omega
          · by_cases c3 : g10 249 (164 + g10 249 (344 + w)) ≤ 0
            · rw [if_pos c3, if_neg (fun z => by have := r7.mpr z; omega)]
            · rw [if_neg c3, if_pos (r7.mp (by omega))]
      refine ⟨?_, ?_, ?_, ?_, ?_, ?_, ?_, ?_⟩
      · rw [e31, hD, n1, v.1]
      · rw [e33, x.2, xc, n2, v.2.1, u3]
      · rw [hst, zz, u4]
      · rw [e35, n4, v.2.2.2.1, q4]
      · unfold zwk
        rw [o1, o2, o3, o4, n1, n2, n3, n5, v.1, v.2.1, v.2.2.1, v.2.2.2.2, Z15]
        exact u5
      · rw [n4, v.2.2.2.1, q4, q.2.1]
        split <;> omega
      · rw [n3, v.2.2.1, sA, e32, hst1, if_neg (show ¬ g 249 (328 + w) = 3 from fun z => by rw [hz.1] at z; omega)]
        by_cases c : nO (g 249 (200 + w)) (g 249 (232 + w)) (g 249 (264 + w)) (nD (g 249 (200 + w)) (g 249 (232 + w)) (g 249 (296 + w)) (zfr g10 w)) (nS (g 249 (200 + w)) (g 249 (232 + w)) (g 249 (360 + w)) (zfr g10 w)) (g 249 15) = 3
        · rw [if_pos c, if_pos ⟨Or.inr rfl, u6.mpr c⟩]; rfl
        · rw [if_neg c, if_neg (fun z => c (u6.mp z.2))]; rfl
      · rw [n3, v.2.2.1]
        intro z
        exfalso
        revert z
        unfold nO
        (repeat' split) <;> omega
    · -- shut
      have hst1 : ¬ zst (g 249) w = 1 := fun z => hz (hop.mp z)
      rw [if_neg hz] at v
      simp only [if_true] at v
      rw [if_neg hst1, if_neg hst1] at x
      have cs := close_shut dd y15 hz
      obtain ⟨u1, u2, u3, u4⟩ := cs
      have at1 : g10 249 (344 + w) = -1 := q.2.2.2.2.2.2 (by rw [g1063 w e1 e2, if_neg hz])
      rw [x.1] at sA
      have zz : zst (z' 249) w = nst (g 249 (328 + w)) (g 249 (200 + w)) (g 249 (248 + w)) (g 249 15 + 1) := by unfold zst; rw [n3, v.2.2.1, o1, o3, Z15]
      have z0 : zst (g 249) w = nst (g 249 (328 + w)) (g 249 (200 + w)) (g 249 (248 + w)) (g 249 15) := rfl
      refine ⟨?_, ?_, ?_, ?_, ?_, ?_, ?_, ?_⟩
      · rw [e31, x.1, n1, v.1]
      · rw [e33, x.2, n2, v.2.1]
      · rw [hst, zz, sA, z0]
        by_cases c : nst (g 249 (328 + w)) (g 249 (200 + w)) (g 249 (248 + w)) (g 249 15) = 0
        · rw [if_pos (Or.inl c), (u2 c).1]
        · rw [if_neg (fun z => z.elim c u1), u3 c]
      · rw [e35, n4, v.2.2.2.1, q.2.1, at1]; split <;> rfl
      · unfold zwk
        rw [o1, o2, o3, o4, n1, n2, n3, n5, v.1, v.2.1, v.2.2.1, v.2.2.2.2, Z15]
        exact u4
      · rw [n4, v.2.2.2.1, at1]; omega
      · rw [n3, v.2.2.1, sA, e32, z0, if_neg (c := _ ∧ _)]
        · omega
        · rintro ⟨z1, z2⟩
          rcases z1 with z1 | z1
          · exact (u2 z1).2 z2
          · exact u1 z1
      · rw [n3, v.2.2.1]
        exact fun z => z
  have fx7 : fx_i (h12 b 7 + 1) := by rw [h12b]; exact ⟨by omega, by omega⟩
  have fx15 : fx_l (g14 249 15 + 1) := by rw [t14]; exact ⟨by omega, by omega⟩
  have PX : P_X4_step b h := by
    unfold P_X4_step
    rw [es7]
    refine ⟨p1, p2, p3, p4, ?_, ?_, ?_, ?_, ?_, ?_, ?_, ?_, ?_, p14⟩
    · rw [hh4] at p5; exact p5
    · rw [hh5, hh4] at p6; exact p6
    · rw [hh5, hh4] at p7; exact p7
    · rw [hh7, hh6, hh5, hh4] at p8; exact p8
    · rw [hh8, hh7, hh6, hh5, hh4] at p9; exact p9
    · rw [hh9, hh8, hh7, hh6, hh5, hh4] at p10; exact p10
    · rw [hh10, hh9, hh8, hh7, hh6, hh5, hh4] at p11; exact p11
    · rw [hh11, hh10, hh9, hh8, hh7, hh6, hh5, hh4] at p12; exact p12
    · rw [hh12, hh11, hh10, hh9, hh8, hh7, hh6, hh5, hh4] at fx7; exact fx7
  have PM : P_X12_minute g := by
    unfold P_X12_minute
    refine ⟨m1, m2, m3, m4, m5, m6, ?_, ?_, ?_, ?_, ?_, ?_, ?_, ?_, ?_⟩
    · rw [hg6] at m7; exact m7
    · rw [hg7] at m8; exact m8
    · rw [hg8, hg7] at m10; exact m10
    · rw [hg9, hg8, hg7] at m11; exact m11
    · rw [hg10, hg9, hg8, hg7] at m12; exact m12
    · rw [hg11] at m13; exact m13
    · rw [hg12] at m14; exact m14
    · rw [hg13] at m15; exact m15
    · rw [hg14] at fx15; exact fx15
  have X14 : ∀ a, a ≠ b + 32 → a ≠ b → a ≠ b + 13 → a ≠ b + 31 → a ≠ b + 33 → h14 a = h10 a := fun a e1 e2 e3 e4 e5 => by rw [f14 a e1, f13 a e2, f12 a e3, f11 a e4 e5]
  have XW : ∀ a, ((b + 19 ≤ a ∧ a ≤ b + 30) ∨ (b + 7 ≤ a ∧ a ≤ b + 12) ∨ a = b + 36 ∨ a = b + 3 ∨ a = b + 4 ∨ a = b + 1 ∨ (b + 37 ≤ a ∧ a ≤ b + 40)) → h14 a = h a := fun a e => by rw [X14 a (by omega) (by omega) (by omega) (by omega) (by omega)]; exact W10 a (by omega)
  have ZK : ∀ k : Int, ((174 ≤ k ∧ k < 296) ∨ (376 ≤ k ∧ k < 440) ∨ (32 ≤ k ∧ k < 134) ∨ k = 0 ∨ k = 1 ∨ k = 2 ∨ k = 8 ∨ k = 12 ∨ k = 13 ∨ k = 14) → z' 249 k = g 249 k := fun k e => by rw [Z10 k (by omega) (by omega) (by omega) (by omega)]; exact K10 k (by omega)
  have Z8 : ∀ k : Int, (k = 3 ∨ k = 4 ∨ k = 5 ∨ k = 6 ∨ k = 7 ∨ k = 16 ∨ k = 17 ∨ k = 18 ∨ (56 ≤ k ∧ k < 84)) → z' 249 k = g8 249 k := fun k e => by rw [Z10 k (by omega) (by omega) (by omega) (by omega), k10 k (by omega) (by omega) (by omega) (by omega)]; exact K98 k (by omega)
  have g1260 : ∀ c : Int, 0 ≤ c → c < 12 → g13 260 c = g 249 (20 + c) := fun c e1 e2 => by
    rw [fg13 260 (by omega), fg12 260 (by omega), fg11 260 (by omega), fg10 260 (by omega) (by omega), fg9 260 (by omega) (by omega), fgw 260 (by omega), fg8 260 (by omega) (by omega), fg7 260 (by omega) (by omega)]
    exact z260 c e1 e2
  have ZP : ∀ k : Int, 0 ≤ k → k < 60 → z' 249 (440 + k) = if k < 12 then g 249 (20 + k) else g 249 (440 + (k - 12)) := fun k e1 e2 => by
    rw [ez, up_pl _ (by omega), k14]
    by_cases c : k < 12
    · rw [if_pos (by omega), if_pos c, show 440 + k - 440 = k by omega]; exact g1260 k e1 c
    · rw [if_neg (by omega), if_neg c, k13, if_pos (by omega), k12 _ (by omega), k11 _ (by omega), K10 _ (by omega), show 440 + k - 12 = 440 + (k - 12) by omega]
  have ZH : ∀ c : Int, 0 ≤ c → c < 12 → z' 249 (20 + c) = g9 249 (20 + c) := fun c e1 e2 => by rw [Z10 _ (by omega) (by omega) (by omega) (by omega), k10 _ (by omega) (by omega) (by omega) (by omega)]
  have X9 : ∀ a, a ≠ b + 32 → a ≠ b → a ≠ b + 13 → a ≠ b + 31 → a ≠ b + 33 → a ≠ b + 14 → a ≠ b + 34 → a ≠ b + 42 → a ≠ b + 43 → a ≠ b + 44 → h14 a = h9 a := fun a e1 e2 e3 e4 e5 e6 e7 e8 e9 e10 => by rw [X14 a e1 e2 e3 e4 e5]; exact f10 a e6 e7 e8 e9 e10
  have Xb8 : h14 b 8 = z' 249 16 := by
    rw [f14 b (by omega), hh13, up_pl _ (by omega), f12 b (by omega), f11 b (by omega) (by omega), f10 b (by omega) (by omega) (by omega) (by omega) (by omega), F96 b (by omega) (by omega) (by omega), h6b8, Z8 16 (by omega), g816]
  have kz : zins (zkey (z' 249)) nw = zins (zkey (g 249)) nw := zins_congr (n := nw) (fun w e1 e2 => by
    unfold zkey
    have := (dw w e1 e2).2.1
    rw [ZK (216 + w) (by omega), ZK (174 + g 249 (216 + w)) (by omega)]) nw (Nat.le_refl _)
  refine ⟨PX, PM, ?_, ?_, ?_, ?_, ?_, ?_, ?_, ?_, ?_⟩
  · -- the relation
    rw [eX, ← hz']
    refine ⟨⟨?_, ?_, ?_, ?_, fun c e1 e2 => ?_, fun k e1 e2 => ?_⟩, ⟨?_, fun m e1 e2 => ?_⟩, ?_, ?_, ⟨?_, fun k e1 e2 => ?_, fun w e1 e2 => ?_, fun k e1 e2 => ?_⟩, ?_, ?_, Xb8⟩
    · rw [XW (b + 1) (by omega), ZK 0 (by omega)]; exact a0
    · rw [XW (b + 1) (by omega), ZK 1 (by omega)]; exact a1
    · rw [XW (b + 1) (by omega), ZK 2 (by omega)]; exact a2
    · rw [XW (b + 1) (by omega), ZK 8 (by omega)]; exact a8
    · rw [XW (b + 3) (by omega), XW (b + 4) (by omega), X9 (b + 2) (by omega) (by omega) (by omega) (by omega) (by omega) (by omega) (by omega) (by omega) (by omega) (by omega), ZH c e1 e2, ZK (32 + c) (by omega), ZK (44 + c) (by omega)]
      have q := (c9 c e1 e2).1
      rw [show b + 1 + 1 = b + 2 by omega] at q
      exact ⟨q, (ac c e1 e2).2.1, (ac c e1 e2).2.2⟩
    · rw [ZP k e1 e2, X9 (b + 5) (by omega) (by omega) (by omega) (by omega) (by omega) (by omega) (by omega) (by omega) (by omega) (by omega), f9 (b + 5) (by omega) (by omega), f8 (b + 5) (by omega)]
      exact h75 k e1 e2
    · rw [XW (b + 7) (by omega)]; exact mn
    · have q := mm m e1 e2
      have q2 := zr10.1 m e1 e2
      have q3 := fa10 m e1 e2
      have q4 := v12 m e1 e2
      rw [XW (b + 8) (by omega), XW (b + 9) (by omega), XW (b + 10) (by omega), XW (b + 11) (by omega), XW (b + 12) (by omega), X14 (b + 14) (by omega) (by omega) (by omega) (by omega) (by omega), X14 (b + 15) (by omega) (by omega) (by omega) (by omega) (by omega), X14 (b + 16) (by omega) (by omega) (by omega) (by omega) (by omega), f14 (b + 13) (by omega), f13 (b + 13) (by omega), ZK (84 + m) (by omega), ZK (94 + m) (by omega), ZK (104 + m) (by omega), ZK (114 + m) (by omega), ZK (124 + m) (by omega), Z (134 + m) (by omega) (by omega), Z10 (144 + m) (by omega) (by omega) (by omega) (by omega), Z10 (154 + m) (by omega) (by omega) (by omega) (by omega), Z10 (164 + m) (by omega) (by omega) (by omega) (by omega)]
      exact ⟨q.1, q.2.1, q.2.2.1, q.2.2.2.1, q.2.2.2.2.1, q4.1, q3.1, q2.1, q2.2.1⟩
    · obtain ⟨u2, u3, u4, u5, u6, u8, u20, u19⟩ := zp6
      unfold zpow
      rw [X9 (b + 18) (by omega) (by omega) (by omega) (by omega) (by omega) (by omega) (by omega) (by omega) (by omega) (by omega), F96 (b + 18) (by omega) (by omega) (by omega), X9 (b + 19) (by omega) (by omega) (by omega) (by omega) (by omega) (by omega) (by omega) (by omega) (by omega) (by omega), F96 (b + 19) (by omega) (by omega) (by omega), X9 (b + 20) (by omega) (by omega) (by omega) (by omega) (by omega) (by omega) (by omega) (by omega) (by omega) (by omega), F96 (b + 20) (by omega) (by omega) (by omega), Z8 3 (by omega), Z8 4 (by omega), Z8 5 (by omega), Z8 6 (by omega), Z8 7 (by omega), Z8 18 (by omega)]
      exact ⟨u2, u3, u4, u5, u6, u8, fun k e1 e2 => by rw [Z8 _ (by omega)]; exact u20 k e1 e2, fun k e1 e2 => by rw [Z8 _ (by omega)]; exact u19 k e1 e2⟩
    · rw [X9 (b + 18) (by omega) (by omega) (by omega) (by omega) (by omega) (by omega) (by omega) (by omega) (by omega) (by omega), F96 (b + 18) (by omega) (by omega) (by omega), Z8 17 (by omega)]; exact e617
    · rw [X14 (b + 21) (by omega) (by omega) (by omega) (by omega) (by omega), W10 (b + 21) (by omega)]; exact wn
    · rw [XW (b + 22) (by omega), XW (b + 23) (by omega), XW (b + 24) (by omega), ZK (174 + k) (by omega), ZK (182 + k) (by omega), ZK (190 + k) (by omega)]; exact wh k e1 e2
    · have q := ww w e1 e2
      have q2 := wk w e1 e2
      rw [XW (b + 25) (by omega), XW (b + 26) (by omega), XW (b + 27) (by omega), XW (b + 28) (by omega), XW (b + 29) (by omega), XW (b + 30) (by omega), ZK (200 + w) (by omega), ZK (216 + w) (by omega), ZK (232 + w) (by omega), ZK (248 + w) (by omega), ZK (264 + w) (by omega), ZK (280 + w) (by omega)]
      exact ⟨q.1, q.2.1, q.2.2.1, q.2.2.2.1, q.2.2.2.2.1, q.2.2.2.2.2.1, q2.1, q2.2.2.1, q2.2.1, q2.2.2.2.1⟩
    · rw [XW (b + 36) (by omega), kz]; exact wo k e1 e2
    · obtain ⟨l0, l1, l2, l3, lk⟩ := zl10
      unfold zlots
      rw [X14 (b + 42) (by omega) (by omega) (by omega) (by omega) (by omega), X14 (b + 43) (by omega) (by omega) (by omega) (by omega) (by omega), X14 (b + 44) (by omega) (by omega) (by omega) (by omega) (by omega), Z10 9 (by omega) (by omega) (by omega) (by omega), Z10 10 (by omega) (by omega) (by omega) (by omega), Z10 11 (by omega) (by omega) (by omega) (by omega), Z10 19 (by omega) (by omega) (by omega) (by omega)]
      refine ⟨l0, l1, l2, l3, fun k e1 e2 => ?_⟩
      rw [(lk k e1 e2).1, (lk k e1 e2).2]
      unfold ylots at yl10
      exact ⟨zs_congr (fun j u1 u2 => by simp only [Z10 (500 + j) (by omega) (by omega) (by omega) (by omega), Z10 (560 + j) (by omega) (by omega) (by omega) (by omega)]), zs_congr (fun j u1 u2 => by simp only [Z10 (500 + j) (by omega) (by omega) (by omega) (by omega), Z10 (560 + j) (by omega) (by omega) (by omega) (by omega)])⟩
    · rw [f14 b (by omega), h13b, Z15]
  · -- ranges
    rw [← hz']
    refine ⟨?_, ⟨?_, c10, fun m e1 e2 => ?_⟩, ?_, ?_, ⟨?_, d16, fun k e1 e2 => ?_, fun w e1 e2 => ?_⟩, ?_, ?_, ?_⟩
    · unfold yl_air
      rw [ZK 0 (by omega), ZK 1 (by omega), ZK 2 (by omega), ZK 8 (by omega)]
      refine ⟨b0, b0', b1, b1', b2, b2', b8, b8', fun c e1 e2 => ?_, fun k e1 e2 => ?_⟩
      · rw [ZH c e1 e2, ZK (32 + c) (by omega), ZK (44 + c) (by omega)]
        have q := c9 c e1 e2
        have q2 := bc c e1 e2
        exact ⟨q.2.1, q.2.2, q2.2.2.1, q2.2.2.2.1, q2.2.2.2.2.1, q2.2.2.2.2.2⟩
      · rw [ZP k e1 e2]
        split
        · have q := bc k e1 (by omega); exact ⟨q.1, q.2.1⟩
        · exact bk (k - 12) (by omega) (by omega)
    · rw [ZK 12 (by omega)]; exact cn
    · have q := cm m e1 e2
      have q2 := zr10.1 m e1 e2
      have q3 := fa10 m e1 e2
      have q4 := v12 m e1 e2
      rw [ZK (84 + m) (by omega), ZK (94 + m) (by omega), ZK (104 + m) (by omega), ZK (114 + m) (by omega), ZK (124 + m) (by omega), Z (134 + m) (by omega) (by omega), Z10 (144 + m) (by omega) (by omega) (by omega) (by omega), Z10 (154 + m) (by omega) (by omega) (by omega) (by omega), Z10 (164 + m) (by omega) (by omega) (by omega) (by omega)]
      exact ⟨q.1, q.2.1, q.2.2.1, q.2.2.2.1, q.2.2.2.2.1, q4.2, q3.2, by omega, ⟨q2.2.2.1, q2.2.2.2.1⟩⟩
    · unfold ypow at yp6 ⊢
      rw [Z8 3 (by omega), Z8 4 (by omega), Z8 5 (by omega), Z8 6 (by omega), Z8 7 (by omega), Z8 18 (by omega)]
      obtain ⟨u1, u2, u3, u4, u5, u6, u7, u8, u9, u10, u11, u12, u13⟩ := yp6
      exact ⟨u1, u2, u3, u4, u5, u6, u7, u8, u9, u10, u11, fun k e1 e2 => by rw [Z8 _ (by omega)]; exact u12 k e1 e2, fun k e1 e2 => by rw [Z8 _ (by omega)]; exact u13 k e1 e2⟩
    · rw [Z8 17 (by omega)]; exact ⟨u17, u17'⟩
    · rw [ZK 13 (by omega)]; exact dn
    · rw [ZK (174 + k) (by omega), ZK (182 + k) (by omega), ZK (190 + k) (by omega)]; exact dh k e1 e2
    · have q2 := wk w e1 e2
      rw [ZK (216 + w) (by omega), ZK (280 + w) (by omega)]
      exact ⟨q2.2.2.2.2.1, (dw w e1 e2).2.1, (dw w e1 e2).2.2.1, q2.2.2.2.2.2.1⟩
    · unfold ylots at yl10 ⊢
      rw [Z10 9 (by omega) (by omega) (by omega) (by omega), Z10 10 (by omega) (by omega) (by omega) (by omega), Z10 11 (by omega) (by omega) (by omega) (by omega), Z10 19 (by omega) (by omega) (by omega) (by omega)]
      obtain ⟨u1, u2, u3, u4, u5, u6, u7, u8⟩ := yl10
      exact ⟨u1, u2, u3, u4, u5, u6, u7, fun i e1 e2 => by rw [Z10 (500 + i) (by omega) (by omega) (by omega) (by omega), Z10 (560 + i) (by omega) (by omega) (by omega) (by omega)]; exact u8 i e1 e2⟩
    · rw [Z15]; omega
    · rw [Z8 16 (by omega), g816]; exact ⟨s0, s3⟩
  · -- how many broke
    rw [eF, r14, ← hz']
    unfold nbr
    rw [zs_congr (f := fun w => if z' 249 (328 + w) = 3 then (1 : Int) else 0) (fun w e1 e2 => (wk w e1 e2).2.2.2.2.2.2.1), zs_add]
    omega
  · intro a e
    rw [eX]
    rcases e with e | e | e | e | e | e
    · rw [X14 a (by omega) (by omega) (by omega) (by omega) (by omega)]; exact F10 a (by omega) (by omega) (by omega) (by omega) (by omega) (by omega) (by omega) (by omega) (by omega) (by omega) (by omega) (by omega) (by omega) (by omega) (by omega) (by omega) (by omega)
    · rw [X14 a (by omega) (by omega) (by omega) (by omega) (by omega)]; exact F10 a (by omega) (by omega) (by omega) (by omega) (by omega) (by omega) (by omega) (by omega) (by omega) (by omega) (by omega) (by omega) (by omega) (by omega) (by omega) (by omega) (by omega)
    all_goals exact XW a (by omega)
  · intro a e
    rw [← hz', ez, up_cell _ (by omega), fg14 a (by omega), fg13 a (by omega), fg12 a (by omega), fg11 a (by omega), fg10 a (by omega) (by omega), fg9 a (by omega) (by omega), fgw a (by omega), fg8 a (by omega) (by omega), fg7 a (by omega) (by omega)]
    exact fg6 a (by omega) (by omega) (by omega) (by omega) (by omega) (by omega) (by omega) (by omega) (by omega) (by omega)
  · intro k e
    rw [← hz']
    exact ZK k (by omega)
  · rw [← hz']; exact Z15
  · intro k k1 k2 k3 k4
    rw [← hz', ez, up_cell _ (by omega), fg14 248 (by omega), fg13 248 (by omega), fg12 248 (by omega), fg11 248 (by omega), fg10 248 (by omega) (by omega), fg9 248 (by omega) (by omega), fgw 248 (by omega), fg8 248 (by omega) (by omega), fg7 248 (by omega) (by omega), g6w]
    exact ht.2.2.2.2.2.2.2.2 k k1 k2 k3 k4
  · intro w e1 e2
    rw [← hz']
    have q := wk w e1 e2
    refine ⟨q.2.2.2.2.2.2.2, fun z => ?_⟩
    have w1 := q.2.2.2.2.2.2.1
    rw [if_pos z] at w1
    by_cases c : z' 249 (328 + w) = 3
    · exact c
    · rw [if_neg c] at w1
      split at w1 <;> omega
