/-! Shedding and supply, both sides. -/
theorem less_min (x y : Int) : s_X12_less_1 x y = fx_min x y := by
  unfold s_X12_less_1 fx_min
  by_cases h : y ≤ x
  · rw [if_pos h, if_neg (by omega)]
  · rw [if_neg h, if_pos (by omega)]
theorem fx_min_le (x y : Int) : fx_min x y ≤ x ∧ fx_min x y ≤ y ∧ (fx_min x y = x ∨ fx_min x y = y) := by unfold fx_min; split <;> omega
theorem fx_max_le (x y : Int) : x ≤ fx_max x y ∧ y ≤ fx_max x y ∧ (fx_max x y = x ∨ fx_max x y = y) := by unfold fx_max; split <;> omega
/-- of the power: the class's cell b + 18 and the row -/
def zpow (b : Int) (h : pH) (z : Int → Int) : Prop := h (b + 18) 2 = z 3 ∧ h (b + 18) 3 = z 4 ∧ h (b + 18) 4 = z 5 ∧ h (b + 18) 5 = z 6 ∧ h (b + 18) 6 = z 7 ∧ h (b + 18) 8 = z 18 ∧ (∀ k : Int, 0 ≤ k → k < 24 → h (b + 20) k = z (60 + k)) ∧ (∀ f : Int, 0 ≤ f → f < 4 → h (b + 19) f = z (56 + f))
def ypow (z : Int → Int) : Prop := 0 ≤ z 3 ∧ z 3 ≤ 100000 ∧ 0 ≤ z 4 ∧ z 4 ≤ 100000 ∧ 0 ≤ z 5 ∧ z 5 ≤ 10000 ∧ 0 ≤ z 6 ∧ z 6 ≤ 1000 ∧ 0 ≤ z 7 ∧ z 7 ≤ z 4 ∧ fx_l (z 18) ∧ (∀ k : Int, 0 ≤ k → k < 24 → 0 ≤ z (60 + k) ∧ z (60 + k) ≤ 1000) ∧ (∀ f : Int, 0 ≤ f → f < 4 → 0 ≤ z (56 + f) ∧ z (56 + f) ≤ 10000)
theorem pm_wl_l (x : Int) : fx_l (pm_wl x) := by
  unfold pm_wl fx_l; rw [Int.bmod_def]; split <;> omega
theorem price_mul {p x : Int} (h1 : 0 ≤ p) (h2 : p ≤ 1000) (h3 : 0 ≤ x) (h4 : x ≤ 200000) : 0 ≤ p * x ∧ p * x ≤ 200000000 := by
  constructor
  · exact Int.mul_nonneg h1 h3
  · have := Int.mul_le_mul h2 h4 h3 (by omega)
    omega
set_option maxHeartbeats 2000000 in
theorem supply_rel (b : Int) (L : Int → Int) (h0 g0 : pH) (nm nw : Nat) (hn : h0 (b + 7) 10 = nm) (gn : g0 249 12 = nm) (hw : h0 (b + 21) 15 = nw) (gw : g0 249 13 = nw) (h10 : nm ≤ 10) (h16 : nw ≤ 16) (hL : zline b h0 g0 L nw) (hd : zdraws b h0 g0 nm)
    (hz : zrun b h0 g0 nm nw) (hp : zpow b h0 (g0 249)) (yp : ypow (g0 249)) (hm : h0 b 7 = g0 249 15) (hm0 : 0 ≤ g0 249 15 ∧ g0 249 15 ≤ 1000000) :
    P_X4_shedWorks b h0 ∧ P_X8_supply (b + 18) ((H_X4_shedWorks b h0) b 7) (H_X4_shedWorks b h0) ∧ P_X12_supply g0 ∧
    (∀ a, a ≠ b + 16 → a ≠ b + 34 → a ≠ b + 35 → a ≠ b + 18 → H_X8_supply (b + 18) ((H_X4_shedWorks b h0) b 7) (H_X4_shedWorks b h0) a = h0 a) ∧ (∀ a, a ≠ 249 → a ≠ 259 → H_X12_supply g0 a = g0 a) ∧ (∀ k : Int, (k < 164 ∨ 174 ≤ k) → k ≠ 7 → k ≠ 17 → k ≠ 18 → H_X12_supply g0 249 k = g0 249 k) ∧
    zrun b (H_X8_supply (b + 18) ((H_X4_shedWorks b h0) b 7) (H_X4_shedWorks b h0)) (H_X12_supply g0) nm nw ∧ zpow b (H_X8_supply (b + 18) ((H_X4_shedWorks b h0) b 7) (H_X4_shedWorks b h0)) (H_X12_supply g0 249) ∧ ypow (H_X12_supply g0 249) ∧
    H_X8_supply (b + 18) ((H_X4_shedWorks b h0) b 7) (H_X4_shedWorks b h0) (b + 18) 7 = H_X12_supply g0 249 17 ∧ 0 ≤ H_X12_supply g0 249 17 ∧ H_X12_supply g0 249 17 ≤ 15000 := by
  obtain ⟨c2, c3, c4, c5, c6, c8, c20, c19⟩ := hp
  obtain ⟨y3, y3', y4, y4', y5, y5', y6, y6', y7, y7', y18, y60, y56⟩ := yp
  have hzs : zshed b h0 g0 h0 g0 nm nw := ⟨fun _ _ _ _ => rfl, fun _ _ _ => rfl, fun _ _ => rfl, hz⟩
  obtain ⟨can, hcan⟩ : ∃ q, q = fx_min (g0 249 5) (g0 249 7) := ⟨_, rfl⟩
  have mn := fx_min_le (g0 249 5) (g0 249 7)
  rw [← hcan] at mn
  have sim := shed_sim b can L h0 g0 nm nw hn gn gw h10 h16 hL (fun m a1 a2 => ⟨(hd m a1 a2).1, (hd m a1 a2).2.1, (hd m a1 a2).2.2.1⟩) ⟨y3, y3'⟩ (by omega) nw (Nat.le_refl _) h0 g0 hzs (fun k a1 a2 => by omega)
  have dX := drawnAll_X b h0 g0 nm hn h10 (fun m a1 a2 => ⟨(hz.1 m a1 a2).2.1, (hz.1 m a1 a2).2.2.1, (hz.1 m a1 a2).2.2.2.1, (hd m a1 a2).1, (hd m a1 a2).2.1, (hd m a1 a2).2.2.1⟩)
  have dM := drawnAll_M g0 nm gn h10 (fun m a1 a2 => ⟨(hz.1 m a1 a2).2.2.1, (hz.1 m a1 a2).2.2.2.1, (hd m a1 a2).2.1, (hd m a1 a2).2.2.1⟩)
  obtain ⟨s1, s2, s3, s4, s5⟩ := sim
  -- the class behind shedding
  have eX5 : s_X4_shedWorks_5 b h0 = (L_X4_shedWorks_18 b (g0 249 3 + can) (zs (zad (g0 249)) nm) ((nw : Int) - 1) h0).2.2 := by
    unfold s_X4_shedWorks_5; rw [c2, c4, c6, ← hcan, dX.2, hw]
  have eX3 : s_X4_shedWorks_3 b h0 = (L_X4_shedWorks_18 b (g0 249 3 + can) (zs (zad (g0 249)) nm) ((nw : Int) - 1) h0).1 := by
    unfold s_X4_shedWorks_3; rw [c2, c4, c6, ← hcan, dX.2, hw]
  have eM5 : s_X12_supply_5 g0 = (L_X12_supply_24 can (if g0 249 3 + can < zs (zad (g0 249)) nm then 1 else 0) g0).2 := by
    unfold s_X12_supply_5; rw [less_min, ← hcan, dM.2.1]
  rw [← eX5, ← eM5] at s3
  rw [← eX3, ← eM5] at s4
  rw [← eM5] at s5
  have pX : P_X4_shedWorks b h0 := by
    unfold P_X4_shedWorks fx_i
    rw [c2, c4, c6, ← hcan, dX.2, hw]
    exact ⟨dX.1, by omega, by omega, s1⟩
  obtain ⟨f1, f2, f3, z⟩ := s3
  have dM5 := drawnAll_M (s_X12_supply_5 g0) nm (by rw [f3 12 (by omega)]; exact gn) h10 (fun m a1 a2 => by
    rw [f3 (104 + m) (by omega)]
    exact ⟨(z.1 m a1 a2).2.2.1, (z.1 m a1 a2).2.2.2.1, (hd m a1 a2).2.1, (hd m a1 a2).2.2.1⟩)
  obtain ⟨d, hdd⟩ : ∃ q, q = zs (zad (s_X12_supply_5 g0 249)) nm := ⟨_, rfl⟩
  rw [← hdd] at s4 s5 dM5
  obtain ⟨p, hpp⟩ : ∃ q, q = g0 249 (60 + Int.tmod (g0 249 15) 24) := ⟨_, rfl⟩
  have tm := Int.tmod_nonneg 24 hm0.1
  have tm2 := Int.tmod_lt_of_pos (g0 249 15) (show (0 : Int) < 24 by decide)
  have fm := Int.fmod_eq_tmod_of_nonneg hm0.1 (show (0 : Int) ≤ 24 by decide)
  have p1 := y60 _ tm tm2
  rw [← hpp] at p1
  -- the class's power behind shedding
  have eH : H_X4_shedWorks b h0 = pm_upd (s_X4_shedWorks_5 b h0) (b + 18) 7 d := by
    show s_X4_shedWorks_6 b h0 = _
    unfold s_X4_shedWorks_6; rw [s4]
  have e18 : s_X4_shedWorks_5 b h0 (b + 18) = h0 (b + 18) := f1 _ (by omega) (by omega) (by omega)
  have e20 : s_X4_shedWorks_5 b h0 (b + 20) = h0 (b + 20) := f1 _ (by omega) (by omega) (by omega)
  have eb : s_X4_shedWorks_5 b h0 b = h0 b := f1 _ (by omega) (by omega) (by omega)
  obtain ⟨h1, hh1⟩ : ∃ q, q = H_X4_shedWorks b h0 := ⟨_, rfl⟩
  rw [← hh1] at eH ⊢
  have q2 : h1 (b + 18) 2 = g0 249 3 := by rw [eH, up_pl _ (by omega), e18]; exact c2
  have q3 : h1 (b + 18) 3 = g0 249 4 := by rw [eH, up_pl _ (by omega), e18]; exact c3
  have q4 : h1 (b + 18) 4 = g0 249 5 := by rw [eH, up_pl _ (by omega), e18]; exact c4
  have q5 : h1 (b + 18) 5 = g0 249 6 := by rw [eH, up_pl _ (by omega), e18]; exact c5
  have q6 : h1 (b + 18) 6 = g0 249 7 := by rw [eH, up_pl _ (by omega), e18]; exact c6
  have q7 : h1 (b + 18) 7 = d := by rw [eH, up_eq]
  have q8 : h1 (b + 18) 8 = g0 249 18 := by rw [eH, up_pl _ (by omega), e18]; exact c8
  have qb : h1 b 7 = g0 249 15 := by rw [eH, up_cell _ (by omega), eb]; exact hm
  have q20 : h1 (b + 18 + 2) (Int.fmod (g0 249 15) 24) = p := by rw [show b + 18 + 2 = b + 20 by omega, eH, up_cell _ (by omega), e20, fm, hpp]; exact c20 _ tm tm2
  rw [qb]
  -- numbers
  obtain ⟨gv, hgv⟩ : ∃ q, q = (if g0 249 6 ≤ p then fx_min d can else fx_max 0 (d - g0 249 3)) := ⟨_, rfl⟩
  have m1 := fx_min_le d can
  have m2 := fx_max_le 0 (d - g0 249 3)
  have gv1 : 0 ≤ gv ∧ gv ≤ d ∧ gv ≤ g0 249 7 ∧ d - gv ≤ g0 249 3 := by rw [hgv]; split <;> omega
  obtain ⟨tk, htk⟩ : ∃ q, q = fx_min (fx_min (g0 249 3 - (d - gv)) (g0 249 5)) (g0 249 4 - (g0 249 7 - gv)) := ⟨_, rfl⟩
  have m3 := fx_min_le (g0 249 3 - (d - gv)) (g0 249 5)
  have m4 := fx_min_le (fx_min (g0 249 3 - (d - gv)) (g0 249 5)) (g0 249 4 - (g0 249 7 - gv))
  rw [← htk] at m4
  have k1 : s_X8_supply_1 (b + 18) (g0 249 15) h1 = gv := by unfold s_X8_supply_1; rw [q5, q20, q7, q4, q6, ← hcan, q2, hgv]
  have u6 : ∀ i : Int, i ≠ 6 → pm_upd h1 (b + 18) 6 (h1 (b + 18) 6 - gv) (b + 18) i = h1 (b + 18) i := fun i hi => up_pl _ hi
  have k3 : s_X8_supply_3 (b + 18) (g0 249 15) h1 = tk := by
    unfold s_X8_supply_3 s_X8_supply_2
    rw [k1, u6 2 (by omega), u6 4 (by omega), u6 3 (by omega), up_eq, q2, q4, q3, q6, q7, htk]
  obtain ⟨nt, hnt⟩ : ∃ q, q = (if g0 249 6 ≤ p then d - gv else d - gv + tk) := ⟨_, rfl⟩
  have k6 : s_X8_supply_6 (b + 18) (g0 249 15) h1 = nt := by unfold s_X8_supply_6; rw [k1, k3, q5, q20, q7, hnt]
  have nt1 : 0 ≤ nt ∧ nt ≤ 200000 := by rw [hnt]; split <;> omega
  have pm := price_mul p1.1 p1.2 nt1.1 nt1.2
  obtain ⟨inn, hinn⟩ : ∃ q, q = (if g0 249 6 ≤ p then g0 249 7 - gv else g0 249 7 - gv + tk) := ⟨_, rfl⟩
  have inn1 : 0 ≤ inn ∧ inn ≤ g0 249 4 := by rw [hinn]; split <;> omega
  have k5 : ∀ i : Int, s_X8_supply_5 (b + 18) (g0 249 15) h1 (b + 18) i = if i = 6 then inn else h1 (b + 18) i := by
    intro i
    unfold s_X8_supply_5 s_X8_supply_4
    rw [k1, k3, q5, q20, hinn]
    split
    · rw [up_app, q6]; grind
    · rw [up_app, up_eq, up_app, q6]; grind
  have k5c : ∀ a, a ≠ b + 18 → s_X8_supply_5 (b + 18) (g0 249 15) h1 a = h1 a := by
    intro a ha
    unfold s_X8_supply_5 s_X8_supply_4
    split
    · rw [up_cell _ ha]
    · rw [up_cell _ ha, up_cell _ ha]
  have eH2 : H_X8_supply (b + 18) (g0 249 15) h1 = pm_upd (s_X8_supply_5 (b + 18) (g0 249 15) h1) (b + 18) 8 (pm_wl (g0 249 18 + p * nt)) := by
    show s_X8_supply_7 _ _ _ = _
    unfold s_X8_supply_7; rw [k5 8, if_neg (by omega), q8, q20, k6]
  -- the model
  obtain ⟨g1, hg1⟩ : ∃ q, q = s_X12_supply_5 g0 := ⟨_, rfl⟩
  rw [← hg1] at f2 f3 z dM5
  have r6 : ∀ k : Int, s_X12_supply_6 g0 249 k = if k = 17 then d else g1 249 k := by
    intro k
    unfold s_X12_supply_6
    rw [← hg1, dM5.2.1, up_app]; grind
  have r6n : ∀ k : Int, k ≠ 17 → s_X12_supply_6 g0 249 k = g1 249 k := fun k hk => by rw [r6, if_neg hk]
  have rp : s_X12_supply_6 g0 249 (60 + Int.tmod (s_X12_supply_6 g0 249 15) 24) = p := by
    rw [r6 15, if_neg (by omega), f3 15 (by omega), r6, if_neg (by omega), f3 _ (by omega), hpp]
  have r7 : s_X12_supply_7 g0 = gv := by
    unfold s_X12_supply_7
    rw [rp, r6n 6 (by omega), f3 6 (by omega), ← hg1, dM5.2.1, r6n 3 (by omega), f3 3 (by omega), less_min, less_min, ← hcan, hgv]
    by_cases c : g0 249 6 ≤ p
    · rw [if_neg (by omega), if_pos c]
    · rw [if_pos (by omega), if_neg c]
      by_cases c2 : d ≤ g0 249 3
      · rw [if_pos c2]; omega
      · rw [if_neg c2]; omega
  have r8 : ∀ k : Int, s_X12_supply_8 g0 249 k = if k = 7 then g0 249 7 - gv else if k = 17 then d else g1 249 k := by
    intro k
    unfold s_X12_supply_8
    rw [r7, up_app, r6 k, r6 7, if_neg (show ¬ (7 : Int) = 17 by omega), f3 7 (by omega)]; grind
  have r8n : ∀ k : Int, k ≠ 7 → k ≠ 17 → s_X12_supply_8 g0 249 k = g1 249 k := fun k a1 a2 => by rw [r8, if_neg a1, if_neg a2]
  have r87 : s_X12_supply_8 g0 249 7 = g0 249 7 - gv := by rw [r8, if_pos rfl]
  have r9 : s_X12_supply_9 g0 = tk := by
    unfold s_X12_supply_9
    rw [less_min, less_min, r8n 5 (by omega) (by omega), r8n 4 (by omega) (by omega), r87, r8n 3 (by omega) (by omega), r7, ← hg1, dM5.2.1, f3 5 (by omega), f3 4 (by omega), f3 3 (by omega), htk]
    have w1 := fx_min_le (g0 249 5) (g0 249 4 - (g0 249 7 - gv))
    have w2 := fx_min_le (fx_min (g0 249 5) (g0 249 4 - (g0 249 7 - gv))) (g0 249 3 - (d - gv))
    omega
  have r11 : ∀ k : Int, s_X12_supply_11 g0 249 k = if k = 7 then inn else if k = 17 then d else g1 249 k := by
    intro k
    unfold s_X12_supply_11 s_X12_supply_10
    rw [rp, r9, r8n 6 (by omega) (by omega), f3 6 (by omega), r87, hinn]
    split
    · rw [r8 k]
    · rw [up_app, r8 k]; grind
  have r12 : s_X12_supply_12 g0 = nt := by
    unfold s_X12_supply_12
    rw [rp, r9, r7, r8n 6 (by omega) (by omega), f3 6 (by omega), ← hg1, dM5.2.1, hnt]
  have gH : ∀ k : Int, H_X12_supply g0 249 k = if k = 18 then pm_wl (g0 249 18 + p * nt) else if k = 7 then inn else if k = 17 then d else g1 249 k := by
    intro k
    show s_X12_supply_13 g0 249 k = _
    unfold s_X12_supply_13
    rw [rp, r12, r11 18, if_neg (by omega), if_neg (by omega), f3 18 (by omega), up_app, r11 k]; grind
  have gHc : ∀ a, a ≠ 249 → H_X12_supply g0 a = g1 a := by
    intro a ha
    show s_X12_supply_13 g0 a = _
    unfold s_X12_supply_13 s_X12_supply_11 s_X12_supply_10 s_X12_supply_8 s_X12_supply_6
    rw [up_cell _ ha, ← hg1]
    split
    · rw [up_cell _ ha, up_cell _ ha]
    · rw [up_cell _ ha, up_cell _ ha, up_cell _ ha]
  have gk : ∀ k : Int, k ≠ 7 → k ≠ 17 → k ≠ 18 → H_X12_supply g0 249 k = g1 249 k := fun k a1 a2 a3 => by rw [gH, if_neg a3, if_neg a1, if_neg a2]
  have X18 : ∀ i : Int, H_X8_supply (b + 18) (g0 249 15) h1 (b + 18) i = if i = 8 then pm_wl (g0 249 18 + p * nt) else if i = 6 then inn else h1 (b + 18) i := fun i => by rw [eH2, up_app, k5 i]; grind
  have Xc : ∀ a, a ≠ b + 18 → H_X8_supply (b + 18) (g0 249 15) h1 a = s_X4_shedWorks_5 b h0 a := fun a ha => by rw [eH2, up_cell _ ha, k5c a ha, eH, up_cell _ ha]
  refine ⟨pX, ?_, ?_, fun a a1 a2 a3 a4 => ?_, fun a a1 a2 => ?_, fun k a1 a2 a3 a4 => ?_, ?_, ?_, ?_, ?_, ?_, ?_⟩
  · unfold P_X8_supply P_X8_priceAt fx_i fx_l
    rw [k1, k3, k6, u6 2 (by omega), u6 3 (by omega), up_eq, q2, q3, q5, q6, q7, q20, fm]
    exact ⟨by omega, fun _ => by omega, by omega, by omega, fun _ => ⟨by omega, by omega, by omega, by omega⟩, by omega⟩
  · unfold P_X12_supply P_X12_at fx_i fx_l
    rw [rp, r9, r7, r12, r8 4, r8 7, r8 3, r8 6, if_neg (show ¬ (4 : Int) = 7 by omega), if_neg (show ¬ (4 : Int) = 17 by omega), if_pos rfl, if_neg (show ¬ (3 : Int) = 7 by omega), if_neg (show ¬ (3 : Int) = 17 by omega), if_neg (show ¬ (6 : Int) = 7 by omega), if_neg (show ¬ (6 : Int) = 17 by omega), r6 7, r6 3, r6 6, r6 15, if_neg (show ¬ (7 : Int) = 17 by omega), if_neg (show ¬ (3 : Int) = 17 by omega), if_neg (show ¬ (6 : Int) = 17 by omega), if_neg (show ¬ (15 : Int) = 17 by omega), f3 3 (by omega), f3 4 (by omega), f3 6 (by omega), f3 7 (by omega), f3 15 (by omega), less_min, ← hcan, dM.2.1, ← hg1, dM5.2.1]
    exact ⟨dM.1, by omega, s2, dM5.1, by omega, by omega, by omega, fun _ _ => by omega, by omega, by omega, fun _ => ⟨by omega, by omega, by omega, by omega⟩, by omega⟩
  · rw [Xc a a4]; exact f1 a a1 a2 a3
  · rw [gHc a a1]; exact f2 a a1 a2
  · rw [gk k a2 a3 a4]; exact f3 k a1
  · refine zrun_congr z h10 h16 (fun a q => Xc a (by omega)) (fun a q => gHc a (by omega)) (fun k q => gk k (by omega) (by omega) (by omega))
  · have g0k : ∀ k : Int, (k < 164 ∨ 174 ≤ k) → k ≠ 7 → k ≠ 17 → k ≠ 18 → H_X12_supply g0 249 k = g0 249 k := fun k a1 a2 a3 a4 => by rw [gk k a2 a3 a4]; exact f3 k a1
    refine ⟨?_, ?_, ?_, ?_, ?_, ?_, fun k a1 a2 => ?_, fun f a1 a2 => ?_⟩
    · rw [X18, if_neg (by omega), if_neg (by omega), q2, g0k 3 (by omega) (by omega) (by omega) (by omega)]
    · rw [X18, if_neg (by omega), if_neg (by omega), q3, g0k 4 (by omega) (by omega) (by omega) (by omega)]
    · rw [X18, if_neg (by omega), if_neg (by omega), q4, g0k 5 (by omega) (by omega) (by omega) (by omega)]
    · rw [X18, if_neg (by omega), if_neg (by omega), q5, g0k 6 (by omega) (by omega) (by omega) (by omega)]
    · rw [X18, if_neg (by omega), if_pos rfl, gH, if_neg (by omega), if_pos rfl]
    · rw [X18, if_pos rfl, gH, if_pos rfl]
    · rw [Xc _ (by omega), e20, g0k _ (by omega) (by omega) (by omega) (by omega)]; exact c20 k a1 a2
    · rw [Xc _ (by omega), f1 _ (by omega) (by omega) (by omega), g0k _ (by omega) (by omega) (by omega) (by omega)]; exact c19 f a1 a2
  · have g0k : ∀ k : Int, (k < 164 ∨ 174 ≤ k) → k ≠ 7 → k ≠ 17 → k ≠ 18 → H_X12_supply g0 249 k = g0 249 k := fun k a1 a2 a3 a4 => by rw [gk k a2 a3 a4]; exact f3 k a1
    unfold ypow
    rw [g0k 3 (by omega) (by omega) (by omega) (by omega), g0k 4 (by omega) (by omega) (by omega) (by omega), g0k 5 (by omega) (by omega) (by omega) (by omega), g0k 6 (by omega) (by omega) (by omega) (by omega), gH 7, gH 18, if_neg (by omega), if_pos rfl, if_pos rfl]
    exact ⟨y3, y3', y4, y4', y5, y5', y6, y6', inn1.1, inn1.2, pm_wl_l _, fun k a1 a2 => by rw [g0k _ (by omega) (by omega) (by omega) (by omega)]; exact y60 k a1 a2, fun f a1 a2 => by rw [g0k _ (by omega) (by omega) (by omega) (by omega)]; exact y56 f a1 a2⟩
  · rw [X18, if_neg (by omega), if_neg (by omega), q7, gH, if_neg (by omega), if_neg (by omega), if_pos rfl]
  · rw [gH, if_neg (by omega), if_neg (by omega), if_pos rfl]; omega
  · rw [gH, if_neg (by omega), if_neg (by omega), if_pos rfl]; omega
