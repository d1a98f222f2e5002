/-! Placing: gauges as a minute begins, clearing, works to machines. -/
/-- the gauges of the machines (class) -/
theorem gauges_X (b : Int) (h : pH) (n : Nat) (hn : h (b + 7) 10 = n) (h10 : n ≤ 10) (h8 : 0 ≤ h (b + 1) 8 ∧ h (b + 1) 8 ≤ 5) (hc : ∀ m : Int, 0 ≤ m → m < n → 0 ≤ h (b + 8) m ∧ h (b + 8) m < 12) :
    P_X4_readGauges b h ∧ (∀ a, a ≠ b + 17 → H_X4_readGauges b h a = h a) ∧ (∀ m : Int, 0 ≤ m → m < n → H_X4_readGauges b h (b + 17) m = s_X0_gauge_1 (b + 1) (h (b + 8) m) h) := by
  have key := fx_rule (σ := Int × pH) (c := (fun s => C_X4_readGauges_2 b s.1 s.2)) (f := (fun s => B_X4_readGauges_2 b s.1 s.2)) (P := (fun s => P_X4_readGauges_2 b s.1 s.2)) (s0 := (0, h)) n
    (fun i s => s.1 = i ∧ (∀ a, a ≠ b + 17 → s.2 a = h a) ∧ (∀ m : Int, 0 ≤ m → m < i → s.2 (b + 17) m = s_X0_gauge_1 (b + 1) (h (b + 8) m) h))
    ⟨rfl, fun _ _ => rfl, fun m h1 h2 => by omega⟩ ?_ ?_
  · exact ⟨key.1, key.2.2.1, key.2.2.2⟩
  · rintro i ⟨x, h'⟩ hi ⟨hx, hf, hv⟩
    simp only at hx hf hv
    subst hx
    have e7 := hf (b + 7) (by omega)
    have e8 := hf (b + 8) (by omega)
    have e1 := hf (b + 1) (by omega)
    have e2 := hf (b + 1 + 1) (by omega)
    have e4 := hf (b + 1 + 4) (by omega)
    have hc' := hc i (by omega) (by omega)
    simp only [P_X4_readGauges_2, C_X4_readGauges_2, B_X4_readGauges_2, s_X4_readGauges_1, P_X0_gauge, s_X0_gauge_1, fx_i, e7, e8, e1, e2, e4] at *
    grind [up_app, up_cell]
  · rintro ⟨x, h'⟩ ⟨hx, hf, hv⟩
    simp only at hx hf hv
    subst hx
    have e7 := hf (b + 7) (by omega)
    simp only [P_X4_readGauges_2, C_X4_readGauges_2, B_X4_readGauges_2, e7]
    grind
/-- what was and what is shown (model) -/
theorem shown_M (g : pH) (h8 : 0 ≤ g 249 8 ∧ g 249 8 ≤ 5) : O_X12_minute_26 0 g ∧ (∀ a, a ≠ 260 → a ≠ 261 → (L_X12_minute_26 0 g).2 a = g a) ∧
    ∀ c : Int, 0 ≤ c → c < 12 → (L_X12_minute_26 0 g).2 260 c = g 249 (20 + c) ∧ (L_X12_minute_26 0 g).2 261 c = zgauge (g 249) c := by
  have key := fx_rule (σ := Int × pH) (c := (fun s => C_X12_minute_26 s.1 s.2)) (f := (fun s => B_X12_minute_26 s.1 s.2)) (P := (fun s => P_X12_minute_26 s.1 s.2)) (s0 := (0, g)) 12
    (fun i s => s.1 = i ∧ i ≤ 12 ∧ (∀ a, a ≠ 260 → a ≠ 261 → s.2 a = g a) ∧ (∀ c : Int, 0 ≤ c → c < i → s.2 260 c = g 249 (20 + c) ∧ s.2 261 c = zgauge (g 249) c))
    ⟨rfl, by omega, fun _ _ _ => rfl, fun m h1 h2 => by omega⟩ ?_ ?_
  · exact ⟨key.1, key.2.2.2.1, key.2.2.2.2⟩
  · rintro i ⟨x, h'⟩ hi ⟨hx, hi2, hf, hv⟩
    simp only at hx hf hv
    subst hx
    have e9 := hf 249 (by omega) (by omega)
    have ha : pm_upd h' 260 i (h' 249 (20 + i)) 249 = g 249 := by rw [up_cell _ (by omega)]; exact e9
    have hp := (gauge_M i (pm_upd h' 260 i (h' 249 (20 + i))) (by rw [ha]; exact h8) (by omega))
    have hq : s_X12_gauge_1 i (pm_upd h' 260 i (h' 249 (20 + i))) = zgauge (g 249) i := by rw [← ha]; exact hp.2
    simp only [P_X12_minute_26, C_X12_minute_26, B_X12_minute_26, s_X12_minute_3, fx_i, hq]
    rw [e9] at hp ⊢
    refine ⟨fun _ => ⟨by omega, by omega, by omega, hp.1, by omega⟩, by omega, by omega, by omega, fun a h1 h2 => ?_, fun c h1 h2 => ?_⟩
    · rw [up_cell _ h2, up_cell _ h1]; exact hf a h1 h2
    · simp only [up_app]
      have := hv c
      grind
  · rintro ⟨x, h'⟩ ⟨hx, hi2, hf, hv⟩
    simp only at hx
    subst hx
    simp only [P_X12_minute_26, C_X12_minute_26, B_X12_minute_26]
    omega
theorem clear_M (g : pH) (n : Nat) (hn : g 249 12 = n) (h10 : n ≤ 10) : O_X12_minute_50 0 g ∧ (∀ a, a ≠ 249 → (L_X12_minute_50 0 g).2 a = g a) ∧ (∀ k : Int, k < 154 ∨ 174 ≤ k → (L_X12_minute_50 0 g).2 249 k = g 249 k) ∧
    ∀ m : Int, 0 ≤ m → m < n → (L_X12_minute_50 0 g).2 249 (154 + m) = -1 ∧ (L_X12_minute_50 0 g).2 249 (164 + m) = 0 := by
  have key := fx_rule (σ := Int × pH) (c := (fun s => C_X12_minute_50 s.1 s.2)) (f := (fun s => B_X12_minute_50 s.1 s.2)) (P := (fun s => P_X12_minute_50 s.1 s.2)) (s0 := (0, g)) n
    (fun i s => s.1 = i ∧ i ≤ n ∧ (∀ a, a ≠ 249 → s.2 a = g a) ∧ (∀ k : Int, k < 154 ∨ 174 ≤ k → s.2 249 k = g 249 k) ∧ (∀ m : Int, 0 ≤ m → m < i → s.2 249 (154 + m) = -1 ∧ s.2 249 (164 + m) = 0))
    ⟨rfl, by omega, fun _ _ => rfl, fun _ _ => rfl, fun m h1 h2 => by omega⟩ ?_ ?_
  · exact ⟨key.1, key.2.2.2.1, key.2.2.2.2.1, key.2.2.2.2.2⟩
  · rintro i ⟨x, h'⟩ hi ⟨hx, hi2, hf, hk, hv⟩
    simp only at hx hf hv hk
    subst hx
    have e12 := hk 12 (by omega)
    simp only [P_X12_minute_50, C_X12_minute_50, B_X12_minute_50, fx_i, e12]
    refine ⟨fun _ => by omega, by omega, by omega, by omega, fun a h1 => ?_, fun k h1 => ?_, fun m h1 h2 => ?_⟩
    · rw [up_cell _ h1, up_cell _ h1]; exact hf a h1
    · simp only [up_app]; grind
    · simp only [up_app]
      have := hv m
      grind
  · rintro ⟨x, h'⟩ ⟨hx, hi2, hf, hk, hv⟩
    simp only at hx hk
    subst hx
    have e12 := hk 12 (by omega)
    simp only [P_X12_minute_50, C_X12_minute_50, B_X12_minute_50]
    omega
/-- one work -/
theorem place_rel (b w : Int) (h g : pH) (n : Nat) (hn : h (b + 7) 10 = n) (gn : g 249 12 = n) (h10 : n ≤ 10) (hw : 0 ≤ w ∧ w < 16)
    (eW : ∀ m : Int, 0 ≤ m → m < n → h (b + 15) m = g 249 (154 + m) ∧ h (b + 13) m = g 249 (134 + m) ∧ h (b + 14) m = g 249 (144 + m) ∧ h (b + 17) m = g 261 (g 249 (84 + m)) ∧ 0 ≤ g 249 (84 + m) ∧ g 249 (84 + m) < 12)
    (eP : h (b + 30) w = g 249 (280 + w)) :
    P_X4_placeWork b w h ∧ P_X12_place w g ∧ s_X4_placeWork_2 b w h = (L_X12_place_4 w g (-1) 0).1 ∧
    ((L_X12_place_4 w g (-1) 0).1 = -1 ∨ (0 ≤ (L_X12_place_4 w g (-1) 0).1 ∧ (L_X12_place_4 w g (-1) 0).1 < n ∧ g 249 (154 + (L_X12_place_4 w g (-1) 0).1) = -1)) := by
  have e30 : h (b + 21 + 9) w = g 249 (280 + w) := by rw [show b + 21 + 9 = b + 30 by omega]; exact eP
  have key := fx_rel (σ := Int × Int) (c := (fun s => C_X4_placeWork_4 b w h s.1 s.2)) (f := (fun s => B_X4_placeWork_4 b w h s.1 s.2)) (P := (fun s => P_X4_placeWork_4 b w h s.1 s.2)) (s0 := ((-1), 0)) (τ := Int × Int) (d := (fun s => C_X12_place_4 w g s.1 s.2)) (g := (fun s => B_X12_place_4 w g s.1 s.2)) (P' := (fun s => P_X12_place_4 w g s.1 s.2)) (t0 := ((-1), 0)) n (fun i s t => s = t ∧ s.2 = i ∧ (s.1 = -1 ∨ (0 ≤ s.1 ∧ s.1 < i ∧ g 249 (154 + s.1) = -1))) ⟨rfl, rfl, Or.inl rfl⟩ ?_ ?_
  · obtain ⟨k1, k2, k3, k4, k5⟩ := key
    have e2 : s_X4_placeWork_2 b w h = (L_X12_place_4 w g (-1) 0).1 := congrArg Prod.fst k3
    have e5 : ((L_X12_place_4 w g (-1) 0).1 = -1 ∨ (0 ≤ (L_X12_place_4 w g (-1) 0).1 ∧ (L_X12_place_4 w g (-1) 0).1 < n ∧ g 249 (154 + (L_X12_place_4 w g (-1) 0).1) = -1)) := by
      rw [k3] at k5; exact k5
    refine ⟨⟨k1, ?_⟩, ⟨k2, ?_⟩, e2, e5⟩
    · rw [e2]
      generalize (L_X12_place_4 w g (-1) 0).1 = q at *
      grind
    · generalize (L_X12_place_4 w g (-1) 0).1 = q at *
      simp only [fx_i]
      grind
  · rintro i ⟨x, y⟩ t hi ⟨rfl, hy, hs⟩
    simp only at hy hs
    subst hy
    have e := eW i (by omega) (by omega)
    have e' := eW x
    have e71 : h (b + 7 + 6) = h (b + 13) := by rw [show b + 7 + 6 = b + 13 by omega]
    have e72 : h (b + 7 + 7) = h (b + 14) := by rw [show b + 7 + 7 = b + 14 by omega]
    simp only [P_X4_placeWork_4, C_X4_placeWork_4, B_X4_placeWork_4, P_X12_place_4, C_X12_place_4, B_X12_place_4, s_X4_placeWork_1, s_X12_place_1, F_X6_isFit, P_X6_isFit, F_X10_mayHave, P_X10_mayHave, P_X12_mayHave, P_X12_at, fx_i, e30, e71, e72, fx_b0, Decidable.not_not, e.1, e.2.1, e.2.2.1, e.2.2.2.1]
    clear eW
    rcases hs with rfl | hs
    · clear e'
      refine ⟨⟨?_, ?_⟩, ⟨?_, ?_⟩, ?_⟩ <;> grind
    · have e' := e' hs.1 (by omega)
      simp only [e'.2.2.2.1]
      refine ⟨⟨?_, ?_⟩, ⟨?_, ?_⟩, ?_⟩ <;> grind
  · rintro ⟨x, y⟩ t ⟨rfl, hy, hs⟩
    simp only at hy
    subst hy
    simp only [P_X4_placeWork_4, C_X4_placeWork_4, B_X4_placeWork_4, P_X12_place_4, C_X12_place_4, B_X12_place_4]
    omega
