/-! Speeds. What holds of machines and works while a minute goes. -/
def zrun (b : Int) (h g : pH) (nm nw : Nat) : Prop :=
  (∀ m : Int, 0 ≤ m → m < nm → h (b + 15) m = g 249 (154 + m) ∧ h (b + 16) m = g 249 (164 + m) ∧ 0 ≤ g 249 (164 + m) ∧ g 249 (164 + m) ≤ 3 ∧ ((g 249 (154 + m) = -1 ∧ g 249 (164 + m) = 0) ∨ (0 ≤ g 249 (154 + m) ∧ g 249 (154 + m) < nw ∧ g 249 (344 + g 249 (154 + m)) = m ∧ (0 < g 249 (164 + m) ↔ g 259 (g 249 (154 + m)) = 0)))) ∧
  (∀ w : Int, 0 ≤ w → w < nw → h (b + 34) w = g 259 w ∧ (h (b + 35) w = if g 259 w = 0 then g 249 (344 + w) else -1) ∧ 0 ≤ g 259 w ∧ g 259 w ≤ 4 ∧ (g 249 (344 + w) = -1 ∨ (0 ≤ g 249 (344 + w) ∧ g 249 (344 + w) < nm ∧ g 249 (154 + g 249 (344 + w)) = w)) ∧ (g 249 (344 + w) = -1 → g 259 w = if g 263 w = 0 then 0 else 1) ∧ (g 263 w = 0 → g 249 (344 + w) = -1))
set_option maxHeartbeats 2000000 in
theorem speeds_rel (b : Int) (h g : pH) (nm nw : Nat) (hn : h (b + 7) 10 = nm) (gn : g 249 12 = nm) (h10 : nm ≤ 10) (h16 : nw ≤ 16)
    (hA : ∀ m : Int, 0 ≤ m → m < nm → h (b + 15) m = g 249 (154 + m) ∧ h (b + 16) m = 0 ∧ g 249 (164 + m) = 0 ∧ (g 249 (154 + m) = -1 ∨ (0 ≤ g 249 (154 + m) ∧ g 249 (154 + m) < nw ∧ g 249 (344 + g 249 (154 + m)) = m)))
    (hB : ∀ w : Int, 0 ≤ w → w < nw → h (b + 35) w = g 249 (344 + w) ∧ h (b + 34) w = g 259 w ∧ (g 249 (344 + w) = -1 ∨ (0 ≤ g 249 (344 + w) ∧ g 249 (344 + w) < nm ∧ g 249 (154 + g 249 (344 + w)) = w)) ∧ (g 259 w = if ¬ g 263 w = 0 ∧ g 249 (344 + w) = -1 then 1 else 0) ∧ (g 263 w = 0 → g 249 (344 + w) = -1))
    (hC : ∀ m : Int, 0 ≤ m → m < nm → h (b + 17) m = g 261 (g 249 (84 + m)) ∧ 0 ≤ g 249 (84 + m) ∧ g 249 (84 + m) < 12 ∧ h (b + 11) m = g 249 (114 + m))
    (hD : ∀ w : Int, 0 ≤ w → w < nw → h (b + 25) w = g 249 (200 + w) ∧ h (b + 27) w = g 249 (232 + w) ∧ (g 249 (200 + w) = 1 → 1 ≤ g 249 (232 + w)))
    (hs : h b 8 = g 249 16) (hs1 : 0 ≤ g 249 16 ∧ g 249 16 ≤ 3) :
    P_X4_setSpeeds b h ∧ O_X12_minute_122 0 g ∧ (∀ a, a ≠ b + 16 → a ≠ b + 34 → a ≠ b + 35 → H_X4_setSpeeds b h a = h a) ∧ (∀ a, a ≠ 249 → a ≠ 259 → (L_X12_minute_122 0 g).2 a = g a) ∧ (∀ k : Int, (k < 164 ∨ 174 ≤ k) → (L_X12_minute_122 0 g).2 249 k = g 249 k) ∧
    zrun b (H_X4_setSpeeds b h) (L_X12_minute_122 0 g).2 nm nw := by
  have key := fx_rel (σ := Int × pH) (c := (fun s => C_X4_setSpeeds_2 b s.1 s.2)) (f := (fun s => B_X4_setSpeeds_2 b s.1 s.2)) (P := (fun s => P_X4_setSpeeds_2 b s.1 s.2)) (s0 := (0, h)) (τ := Int × pH) (d := (fun s => C_X12_minute_122 s.1 s.2)) (g := (fun s => B_X12_minute_122 s.1 s.2)) (P' := (fun s => P_X12_minute_122 s.1 s.2)) (t0 := (0, g)) nm (fun i s t => s.1 = i ∧ t.1 = i ∧ i ≤ nm ∧
    (∀ a, a ≠ b + 16 → a ≠ b + 34 → a ≠ b + 35 → s.2 a = h a) ∧ (∀ a, a ≠ 249 → a ≠ 259 → t.2 a = g a) ∧ (∀ k : Int, (k < 164 ∨ 174 ≤ k) → t.2 249 k = g 249 k) ∧
    (∀ m : Int, 0 ≤ m → m < nm → s.2 (b + 16) m = t.2 249 (164 + m) ∧ 0 ≤ t.2 249 (164 + m) ∧ t.2 249 (164 + m) ≤ 3 ∧ (m < i → g 249 (154 + m) ≠ -1 → (0 < t.2 249 (164 + m) ↔ t.2 259 (g 249 (154 + m)) = 0)) ∧ ((g 249 (154 + m) = -1 ∨ i ≤ m) → t.2 249 (164 + m) = 0)) ∧
    (∀ w : Int, 0 ≤ w → w < nw → s.2 (b + 34) w = t.2 259 w ∧ (s.2 (b + 35) w = if t.2 259 w = 0 then g 249 (344 + w) else -1) ∧ 0 ≤ t.2 259 w ∧ t.2 259 w ≤ 4 ∧ (g 249 (344 + w) = -1 → t.2 259 w = if g 263 w = 0 then 0 else 1) ∧ (i ≤ g 249 (344 + w) → t.2 259 w = 0)))
    ⟨rfl, rfl, by omega, fun _ _ _ _ => rfl, fun _ _ _ => rfl, fun _ _ => rfl, fun m h1 h2 => by have := hA m h1 h2; simp only; omega, fun w h1 h2 => by have := hB w h1 h2; simp only; grind⟩ ?_ ?_
  · obtain ⟨k1, k2, k3, k4, k5, k6, k7, k8, k9, k10⟩ := key
    refine ⟨k1, k2, k6, k7, k8, fun m h1 h2 => ?_, fun w h1 h2 => ?_⟩
    · have q1 := k9 m h1 h2
      have q2 := hA m h1 h2
      have f1 : H_X4_setSpeeds b h (b + 15) = h (b + 15) := k6 _ (by omega) (by omega) (by omega)
      rw [f1]
      show _ ∧ (L_X4_setSpeeds_2 b 0 h).2 (b + 16) m = _ ∧ _
      have e1 : (L_X12_minute_122 0 g).2 249 (154 + m) = g 249 (154 + m) := k8 _ (by omega)
      rw [e1]
      refine ⟨q2.1, q1.1, q1.2.1, q1.2.2.1, ?_⟩
      rcases q2.2.2.2 with z | ⟨z1, z2, z3⟩
      · exact Or.inl ⟨z, q1.2.2.2.2 (Or.inl z)⟩
      · have e2 : (L_X12_minute_122 0 g).2 249 (344 + g 249 (154 + m)) = g 249 (344 + g 249 (154 + m)) := k8 _ (by omega)
        rw [e2]
        exact Or.inr ⟨z1, z2, z3, q1.2.2.2.1 (by omega) (by omega)⟩
    · have q1 := k10 w h1 h2
      have q2 := hB w h1 h2
      have e2 : (L_X12_minute_122 0 g).2 249 (344 + w) = g 249 (344 + w) := k8 _ (by omega)
      have e3 : (L_X12_minute_122 0 g).2 263 = g 263 := k7 _ (by omega) (by omega)
      rw [e2, e3]
      refine ⟨q1.1, q1.2.1, q1.2.2.1, q1.2.2.2.1, ?_, q1.2.2.2.2.1, q2.2.2.2.2⟩
      rcases q2.2.2.1 with z | ⟨z1, z2, z3⟩
      · exact Or.inl z
      · have e4 : (L_X12_minute_122 0 g).2 249 (154 + g 249 (344 + w)) = g 249 (154 + g 249 (344 + w)) := k8 _ (by omega)
        rw [e4]
        exact Or.inr ⟨z1, z2, z3⟩
  · rintro i ⟨x, h'⟩ ⟨y, g'⟩ hi ⟨hx, hy, hi2, f1, f2, f3, fm, fw⟩
    simp only at hx hy f1 f2 f3 fm fw
    subst hx; subst hy
    have a1 := hA i (by omega) (by omega)
    have c1 := hC i (by omega) (by omega)
    have m1 := fm i (by omega) (by omega)
    have e7 : h' (b + 7) = h (b + 7) := f1 _ (by omega) (by omega) (by omega)
    have e15 : h' (b + 15) = h (b + 15) := f1 _ (by omega) (by omega) (by omega)
    have e17 : h' (b + 17) = h (b + 17) := f1 _ (by omega) (by omega) (by omega)
    have e11 : h' (b + 11) = h (b + 11) := f1 _ (by omega) (by omega) (by omega)
    have e25 : h' (b + 21 + 4) = h (b + 25) := by rw [show b + 21 + 4 = b + 25 by omega]; exact f1 _ (by omega) (by omega) (by omega)
    have e27 : h' (b + 21 + 6) = h (b + 27) := by rw [show b + 21 + 6 = b + 27 by omega]; exact f1 _ (by omega) (by omega) (by omega)
    have eb : h' b = h b := f1 _ (by omega) (by omega) (by omega)
    have e61 : g' 261 = g 261 := f2 _ (by omega) (by omega)
    have k12 : g' 249 12 = g 249 12 := f3 _ (by omega)
    have k16 : g' 249 16 = g 249 16 := f3 _ (by omega)
    have k154 : g' 249 (154 + i) = g 249 (154 + i) := f3 _ (by omega)
    have k84 : g' 249 (84 + i) = g 249 (84 + i) := f3 _ (by omega)
    have k114 : g' 249 (114 + i) = g 249 (114 + i) := f3 _ (by omega)
    rcases a1.2.2.2 with z | ⟨z1, z2, z3⟩
    · -- no work
      have bx : s_X4_setSpeeds_3 b i h' = h' := by
        unfold s_X4_setSpeeds_3
        rw [e15, a1.1, if_pos z]
      simp only [P_X4_setSpeeds_2, C_X4_setSpeeds_2, B_X4_setSpeeds_2, P_X12_minute_122, C_X12_minute_122, B_X12_minute_122, bx, k154, if_pos z, e15, a1.1, z, e7, k12, P_X12_at, fx_i]
      refine ⟨⟨fun _ => ⟨by omega, fun q => absurd trivial q, by omega⟩, by omega⟩, ⟨fun _ => ⟨by omega, by omega, fun q => absurd trivial q, by omega⟩, by omega⟩, by omega, by omega, by omega, f1, f2, f3, fun m h1 h2 => ?_, fun w h1 h2 => ?_⟩
      · have q := fm m h1 h2
        refine ⟨q.1, q.2.1, q.2.2.1, fun q1 q2 => q.2.2.2.1 ?_ q2, fun q1 => q.2.2.2.2 (by omega)⟩
        by_cases e : m = i
        · rw [e] at q2; omega
        · omega
      · have q := fw w h1 h2
        have q2 := hB w h1 h2
        refine ⟨q.1, q.2.1, q.2.2.1, q.2.2.2.1, q.2.2.2.2.1, fun q1 => q.2.2.2.2.2 (by omega)⟩
    · -- a work
      have hne : ¬ g 249 (154 + i) = -1 := by omega
      obtain ⟨w, hwv⟩ : ∃ w, w = g 249 (154 + i) := ⟨_, rfl⟩
      rw [← hwv] at z1 z2 z3 hne k154
      have hw15 : h (b + 15) i = w := by rw [a1.1, hwv]
      have w1 := fw w z1 z2
      have d1 := hD w z1 z2
      have k200 : g' 249 (200 + w) = g 249 (200 + w) := f3 _ (by omega)
      have k232 : g' 249 (232 + w) = g 249 (232 + w) := f3 _ (by omega)
      have hb1 := hB w z1 z2
      have hc0 : g' 259 w = 0 := w1.2.2.2.2.2 (by omega)
      -- the speed
      obtain ⟨sp, hsp⟩ : ∃ sp, sp = s_X12_minute_14 i g' := ⟨_, rfl⟩
      have hcl : fx_min (fx_min (h' b 8) (s_X4_setSpeeds_1 b i h')) (s_X10_mostSpeed_1 (b + 21) (h' (b + 15) i) h') = sp := by
        rw [hsp]
        unfold s_X12_minute_14 s_X12_minute_13 s_X4_setSpeeds_1 s_X10_mostSpeed_1 s_X12_less_1 fx_min
        rw [e15, hw15, k154, e25, e27, d1.1, d1.2.1, k200, k232, e17, e11, c1.1, c1.2.2.2, e61, k84, k114, eb, hs, k16]
        grind
      have hspr : 0 ≤ sp ∧ sp ≤ 3 ∧ (sp = 0 ↔ g 249 16 = 0) := by
        rw [hsp]
        unfold s_X12_minute_14 s_X12_minute_13 s_X12_less_1
        rw [k154, k200, k232, e61, k84, k114, k16]
        grind
      have hG : s_X12_minute_16 i g' = pm_upd (pm_upd g' 249 (164 + i) sp) 259 w (if g 249 16 = 0 then 2 else 0) := by
        unfold s_X12_minute_16 s_X12_minute_15
        rw [← hsp, up_pl _ (show (16 : Int) ≠ 164 + i by omega), k16, k154]
      have hX : s_X4_setSpeeds_2 b i h' = pm_upd h' (b + 16) i sp := by
        unfold s_X4_setSpeeds_2
        rw [hcl]
      have hX3 : s_X4_setSpeeds_3 b i h' = if sp = 0 then pm_upd (pm_upd (pm_upd (pm_upd h' (b + 16) i sp) (b + 16) i 0) (b + 34) w 2) (b + 35) w (-1) else pm_upd h' (b + 16) i sp := by
        unfold s_X4_setSpeeds_3
        rw [e15, hw15, if_neg hne, hX, up_eq]
        unfold H_X4_stop s_X4_stop_3 s_X4_stop_2 s_X4_stop_1
        rw [up_cell _ (show b + 15 ≠ b + 16 by omega), e15, hw15, if_neg hne]
      have hX15 : (pm_upd h' (b + 16) i sp) (b + 15) i = w := by rw [up_cell _ (by omega), e15, hw15]
      simp only [P_X4_setSpeeds_2, C_X4_setSpeeds_2, B_X4_setSpeeds_2, P_X12_minute_122, C_X12_minute_122, B_X12_minute_122, hX3, hG, hX, k154, hne, if_false, e15, hw15, e7, k12, k84, P_X12_at, P_X10_mostSpeed, P_X4_stop, up_eq, hX15, fx_i]
      refine ⟨⟨fun _ => ⟨by omega, fun _ => ⟨by omega, fun _ => ⟨by omega, fun _ => by omega⟩⟩, by omega⟩, by omega⟩, ⟨fun _ => ⟨by omega, by omega, fun _ => ⟨by omega, by omega, by omega, by omega, by omega, by omega, by omega, by omega, fun _ => by omega, by omega, by omega⟩, by omega⟩, by omega⟩, by omega, by omega, by omega, fun a b1 b2 b3 => ?_, fun a b1 b2 => ?_, fun k b1 => ?_, fun m h1 h2 => ?_, fun v h1 h2 => ?_⟩
      · split
        · rw [up_cell _ b3, up_cell _ b2, up_cell _ b1, up_cell _ b1]; exact f1 a b1 b2 b3
        · rw [up_cell _ b1]; exact f1 a b1 b2 b3
      · rw [up_cell _ b2, up_cell _ b1]; exact f2 a b1 b2
      · rw [up_cell _ (by omega), up_pl _ (by omega)]; exact f3 k b1
      · have q := fm m h1 h2
        have q3 := hA m h1 h2
        rw [up_cell _ (show (249 : Int) ≠ 259 by omega)]
        have e1 : (if sp = 0 then pm_upd (pm_upd (pm_upd (pm_upd h' (b + 16) i sp) (b + 16) i 0) (b + 34) w 2) (b + 35) w (-1) else pm_upd h' (b + 16) i sp) (b + 16) m = if m = i then sp else h' (b + 16) m := by
          split
          · rw [up_cell _ (show b + 16 ≠ b + 35 by omega), up_cell _ (show b + 16 ≠ b + 34 by omega), up_app, up_app]; grind
          · rw [up_app]; grind
        rw [e1, up_app]
        by_cases e : m = i
        · rw [e, if_pos rfl, if_pos ⟨rfl, rfl⟩, ← hwv, up_eq]
          refine ⟨rfl, hspr.1, hspr.2.1, fun _ _ => ?_, fun q4 => ?_⟩
          · by_cases s0 : g 249 16 = 0
            · rw [if_pos s0]; have := hspr.2.2.mpr s0; omega
            · rw [if_neg s0]; have : ¬ sp = 0 := fun q5 => s0 (hspr.2.2.mp q5); omega
          · omega
        · rw [if_neg e, if_neg (by omega)]
          refine ⟨q.1, q.2.1, q.2.2.1, fun q1 q2 => ?_, fun q1 => q.2.2.2.2 (by omega)⟩
          have hne2 : g 249 (154 + m) ≠ w := fun q5 => by
            rcases q3.2.2.2 with y | ⟨y1, y2, y3⟩
            · omega
            · rw [q5, z3] at y3; omega
          rw [up_pl _ hne2, up_cell _ (show (259 : Int) ≠ 249 by omega)]
          exact q.2.2.2.1 (by omega) q2
      · have q := fw v h1 h2
        have q3 := hB v h1 h2
        have e1 : (if sp = 0 then pm_upd (pm_upd (pm_upd (pm_upd h' (b + 16) i sp) (b + 16) i 0) (b + 34) w 2) (b + 35) w (-1) else pm_upd h' (b + 16) i sp) (b + 34) v = if sp = 0 ∧ v = w then 2 else h' (b + 34) v := by
          split
          · rw [up_cell _ (show b + 34 ≠ b + 35 by omega), up_app, up_cell _ (show b + 34 ≠ b + 16 by omega), up_cell _ (show b + 34 ≠ b + 16 by omega)]; grind
          · rw [up_cell _ (show b + 34 ≠ b + 16 by omega)]; grind
        have e2 : (if sp = 0 then pm_upd (pm_upd (pm_upd (pm_upd h' (b + 16) i sp) (b + 16) i 0) (b + 34) w 2) (b + 35) w (-1) else pm_upd h' (b + 16) i sp) (b + 35) v = if sp = 0 ∧ v = w then -1 else h' (b + 35) v := by
          split
          · rw [up_app, up_cell _ (show b + 35 ≠ b + 34 by omega), up_cell _ (show b + 35 ≠ b + 16 by omega), up_cell _ (show b + 35 ≠ b + 16 by omega)]; grind
          · rw [up_cell _ (show b + 35 ≠ b + 16 by omega)]; grind
        rw [e1, e2, up_app, up_cell _ (show (259 : Int) ≠ 249 by omega)]
        by_cases e : v = w
        · rw [e] at q ⊢
          have s1 := hspr.2.2
          have q1 : h' (b + 34) w = 0 := by rw [q.1, hc0]
          have q2 : h' (b + 35) w = g 249 (344 + w) := by rw [q.2.1, if_pos hc0]
          by_cases s0 : g 249 16 = 0
          · have s2 := s1.mpr s0
            simp only [s2, s0, and_self, if_true, q1, q2]
            refine ⟨trivial, by simp, by omega, by omega, by omega, by omega⟩
          · have s2 : ¬ sp = 0 := fun q5 => s0 (s1.mp q5)
            simp only [s2, s0, and_self, if_false, if_true, false_and, q1, q2]
            refine ⟨trivial, trivial, by omega, by omega, by omega, fun _ => trivial⟩
        · simp only [e, and_false, if_false]
          refine ⟨q.1, q.2.1, q.2.2.1, q.2.2.2.1, q.2.2.2.2.1, fun q1 => q.2.2.2.2.2 (by omega)⟩
  · rintro ⟨x, h'⟩ ⟨y, g'⟩ ⟨hx, hy, hi2, f1, f2, f3, -⟩
    simp only at hx hy f1 f3
    subst hx; subst hy
    have e7 : h' (b + 7) = h (b + 7) := f1 _ (by omega) (by omega) (by omega)
    have k12 : g' 249 12 = g 249 12 := f3 _ (by omega)
    simp only [P_X4_setSpeeds_2, C_X4_setSpeeds_2, B_X4_setSpeeds_2, P_X12_minute_122, C_X12_minute_122, B_X12_minute_122, e7, k12]
    omega
