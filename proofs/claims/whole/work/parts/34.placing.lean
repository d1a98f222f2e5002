/-! Placing, all works by the order. -/
/-- what holds behind placing -/
def zpl (b : Int) (h g h' g' : pH) (nm nw : Nat) : Prop :=
  (∀ a, a ≠ b + 15 → a ≠ b + 34 → a ≠ b + 35 → h' a = h a) ∧ (∀ a, a ≠ 249 → a ≠ 259 → a ≠ 263 → g' a = g a) ∧ (∀ k : Int, (k < 154 ∨ 164 ≤ k) → (k < 344 ∨ 360 ≤ k) → g' 249 k = g 249 k) ∧
  (∀ m : Int, 0 ≤ m → m < nm → h' (b + 15) m = g' 249 (154 + m) ∧ (g' 249 (154 + m) = -1 ∨ (0 ≤ g' 249 (154 + m) ∧ g' 249 (154 + m) < nw ∧ g' 249 (344 + g' 249 (154 + m)) = m))) ∧
  (∀ w : Int, 0 ≤ w → w < nw → h' (b + 35) w = g' 249 (344 + w) ∧ h' (b + 34) w = g' 259 w ∧ (g' 263 w = if zopen (g 249) w then 1 else 0) ∧ (g' 249 (344 + w) = -1 ∨ (0 ≤ g' 249 (344 + w) ∧ g' 249 (344 + w) < nm ∧ g' 249 (154 + g' 249 (344 + w)) = w)) ∧ (g' 259 w = if zopen (g 249) w ∧ g' 249 (344 + w) = -1 then 1 else 0) ∧ (¬ zopen (g 249) w → g' 249 (344 + w) = -1))
set_option maxHeartbeats 2000000 in
theorem placing_rel (b : Int) (h g : pH) (nm nw : Nat) (L : Int → Int) (hn : h (b + 7) 10 = nm) (gn : g 249 12 = nm) (h10 : nm ≤ 10) (hw : h (b + 21) 15 = nw) (gw : g 249 13 = nw) (h16 : nw ≤ 16)
    (hT : ∀ m : Int, 0 ≤ m → m < nm → h (b + 13) m = g 249 (134 + m) ∧ h (b + 14) m = g 249 (144 + m) ∧ h (b + 17) m = g 261 (g 249 (84 + m)) ∧ 0 ≤ g 249 (84 + m) ∧ g 249 (84 + m) < 12)
    (hC : ∀ m : Int, 0 ≤ m → m < nm → h (b + 15) m = -1 ∧ g 249 (154 + m) = -1)
    (hW : ∀ w : Int, 0 ≤ w → w < nw → h (b + 30) w = g 249 (280 + w) ∧ (h (b + 32) w = 1 ↔ zopen (g 249) w) ∧ h (b + 35) w = -1 ∧ h (b + 34) w = 0)
    (hL : ∀ k : Int, 0 ≤ k → k < nw → h (b + 36) k = L k ∧ g 258 k = L k ∧ 0 ≤ L k ∧ L k < nw) (hI : ∀ j k : Int, 0 ≤ j → j < nw → 0 ≤ k → k < nw → L j = L k → j = k) (hS : ∀ w : Int, 0 ≤ w → w < nw → ∃ k : Int, 0 ≤ k ∧ k < nw ∧ L k = w) :
    O_X4_placeWorks_8 b 0 h ∧ O_X12_minute_78 0 g ∧ zpl b h g (L_X4_placeWorks_8 b 0 h).2 (L_X12_minute_78 0 g).2 nm nw := by
  have key := fx_rel (σ := Int × pH) (c := (fun s => C_X4_placeWorks_8 b s.1 s.2)) (f := (fun s => B_X4_placeWorks_8 b s.1 s.2)) (P := (fun s => P_X4_placeWorks_8 b s.1 s.2)) (s0 := (0, h)) (τ := Int × pH) (d := (fun s => C_X12_minute_78 s.1 s.2)) (g := (fun s => B_X12_minute_78 s.1 s.2)) (P' := (fun s => P_X12_minute_78 s.1 s.2)) (t0 := (0, g)) nw (fun i s t => s.1 = i ∧ t.1 = i ∧ i ≤ nw ∧
    (∀ a, a ≠ b + 15 → a ≠ b + 34 → a ≠ b + 35 → s.2 a = h a) ∧ (∀ a, a ≠ 249 → a ≠ 259 → a ≠ 263 → t.2 a = g a) ∧ (∀ k : Int, (k < 154 ∨ 164 ≤ k) → (k < 344 ∨ 360 ≤ k) → t.2 249 k = g 249 k) ∧
    (∀ m : Int, 0 ≤ m → m < nm → s.2 (b + 15) m = t.2 249 (154 + m) ∧ (t.2 249 (154 + m) = -1 ∨ (0 ≤ t.2 249 (154 + m) ∧ t.2 249 (154 + m) < nw ∧ t.2 249 (344 + t.2 249 (154 + m)) = m ∧ ∃ j : Int, 0 ≤ j ∧ j < i ∧ L j = t.2 249 (154 + m)))) ∧
    (∀ j : Int, 0 ≤ j → j < i → s.2 (b + 35) (L j) = t.2 249 (344 + L j) ∧ s.2 (b + 34) (L j) = t.2 259 (L j) ∧ (t.2 263 (L j) = if zopen (g 249) (L j) then 1 else 0) ∧ (t.2 249 (344 + L j) = -1 ∨ (0 ≤ t.2 249 (344 + L j) ∧ t.2 249 (344 + L j) < nm ∧ t.2 249 (154 + t.2 249 (344 + L j)) = L j)) ∧ (t.2 259 (L j) = if zopen (g 249) (L j) ∧ t.2 249 (344 + L j) = -1 then 1 else 0) ∧ (¬ zopen (g 249) (L j) → t.2 249 (344 + L j) = -1)) ∧
    (∀ j : Int, i ≤ j → j < nw → s.2 (b + 35) (L j) = -1 ∧ s.2 (b + 34) (L j) = 0))
    ⟨rfl, rfl, by omega, fun _ _ _ _ => rfl, fun _ _ _ _ => rfl, fun _ _ _ => rfl, fun m h1 h2 => by simp only; grind, fun j h1 h2 => by omega, fun j h1 h2 => by simp only; grind⟩ ?_ ?_
  · obtain ⟨k1, k2, k3, k4, k5, k6, k7, k8, k9, k10, k11⟩ := key
    refine ⟨k1, k2, k6, k7, k8, fun m h1 h2 => ?_, fun w h1 h2 => ?_⟩
    · obtain ⟨q1, q2⟩ := k9 m h1 h2
      refine ⟨q1, ?_⟩
      rcases q2 with q2 | ⟨a1, a2, a3, -⟩
      · exact Or.inl q2
      · exact Or.inr ⟨a1, a2, a3⟩
    · obtain ⟨k, a1, a2, rfl⟩ := hS w h1 h2
      exact k10 k a1 a2
  · rintro i ⟨x, h'⟩ ⟨y, g'⟩ hi ⟨hx, hy, hi2, f1, f2, f3, fm, fw, fu⟩
    simp only at hx hy f1 f2 f3 fm fw fu
    subst hx; subst hy
    obtain ⟨l1, l2, l3, l4⟩ := hL i (by omega) (by omega)
    have hinj : ∀ j : Int, 0 ≤ j → j < nw → j ≠ i → L j ≠ L i := fun j a1 a2 a3 e => a3 (hI j i a1 a2 (by omega) (by omega) e)
    have u0 := fu i (by omega) (by omega)
    have e36 : h' (b + 36) i = L i := by rw [f1 _ (by omega) (by omega) (by omega)]; exact l1
    have e58 : g' 258 i = L i := by rw [f2 _ (by omega) (by omega) (by omega)]; exact l2
    have e21 : h' (b + 21) = h (b + 21) := f1 _ (by omega) (by omega) (by omega)
    have e7 : h' (b + 7) = h (b + 7) := f1 _ (by omega) (by omega) (by omega)
    have e32 : h' (b + 32) = h (b + 32) := f1 _ (by omega) (by omega) (by omega)
    have e30 : h' (b + 30) = h (b + 30) := f1 _ (by omega) (by omega) (by omega)
    have e13 : h' (b + 13) = h (b + 13) := f1 _ (by omega) (by omega) (by omega)
    have e14 : h' (b + 14) = h (b + 14) := f1 _ (by omega) (by omega) (by omega)
    have e17 : h' (b + 17) = h (b + 17) := f1 _ (by omega) (by omega) (by omega)
    have e61 : g' 261 = g 261 := f2 _ (by omega) (by omega) (by omega)
    have k13 : g' 249 13 = g 249 13 := f3 _ (by omega) (by omega)
    have k12 : g' 249 12 = g 249 12 := f3 _ (by omega) (by omega)
    obtain ⟨w1, w2, w3, w4⟩ := hW (L i) l3 l4
    have hzo : zopen (g' 249) (L i) ↔ zopen (g 249) (L i) := by
      unfold zopen
      rw [f3 (328 + L i) (by omega) (by omega), f3 (200 + L i) (by omega) (by omega), f3 (248 + L i) (by omega) (by omega), f3 15 (by omega) (by omega), f3 (264 + L i) (by omega) (by omega)]
    have hop := (isOpen_M (L i) g' l3 (by omega)).1
    have h8 : s_X12_minute_8 i g' = pm_upd g' 263 (L i) (if zopen (g 249) (L i) then 1 else 0) := by
      unfold s_X12_minute_8
      rw [e58]
      congr 1
      by_cases c : zopen (g 249) (L i)
      · rw [if_pos c]; exact if_pos (hzo.mpr c)
      · rw [if_neg c]; exact if_neg (fun q => c (hzo.mp q))
    have h9 : s_X12_minute_9 i g' = pm_upd (pm_upd (pm_upd g' 263 (L i) (if zopen (g 249) (L i) then 1 else 0)) 259 (L i) 0) 249 (344 + L i) (-1) := by
      unfold s_X12_minute_9
      rw [h8, e58]
    have h93 : s_X12_minute_9 i g' 263 (L i) = (if zopen (g 249) (L i) then 1 else 0) := by
      rw [h9]; simp only [up_app]; grind
    by_cases c : zopen (g 249) (L i)
    · -- open: placed
      have pr := place_rel b (L i) h' (s_X12_minute_9 i g') nm (by rw [e7]; exact hn) (by rw [h9]; simp only [up_app]; grind) h10 ⟨l3, by omega⟩ (fun m a1 a2 => by
          have t1 := hT m a1 a2
          have t2 := fm m a1 a2
          have g1 : ∀ k : Int, k ≠ 344 + L i → s_X12_minute_9 i g' 249 k = g' 249 k := fun k hk => by rw [h9]; simp only [up_app]; grind
          have g2 : s_X12_minute_9 i g' 261 = g' 261 := by rw [h9, up_cell _ (by omega), up_cell _ (by omega), up_cell _ (by omega)]
          rw [g1 _ (by omega), g1 _ (by omega), g1 _ (by omega), g1 _ (by omega), g2, e13, e14, e17, e61, f3 (134 + m) (by omega) (by omega), f3 (144 + m) (by omega) (by omega), f3 (84 + m) (by omega) (by omega)]
          exact ⟨t2.1, t1⟩) (by rw [e30, w1, h9]; simp only [up_app]; rw [if_neg (by omega), if_neg (by omega), if_neg (by omega)]; exact (f3 (280 + L i) (by omega) (by omega)).symm)
      obtain ⟨p1, p2, p3, p4⟩ := pr
      have hH : H_X4_placeWork b (L i) h' = if (L_X12_place_4 (L i) (s_X12_minute_9 i g') (-1) 0).1 = -1 then pm_upd h' (b + 34) (L i) 1 else pm_upd (pm_upd h' (b + 35) (L i) (L_X12_place_4 (L i) (s_X12_minute_9 i g') (-1) 0).1) (b + 15) (L_X12_place_4 (L i) (s_X12_minute_9 i g') (-1) 0).1 (L i) := by
        show s_X4_placeWork_5 b (L i) h' = _
        unfold s_X4_placeWork_5 s_X4_placeWork_4
        rw [p3]
      have hG : H_X12_place (L i) (s_X12_minute_9 i g') = if (L_X12_place_4 (L i) (s_X12_minute_9 i g') (-1) 0).1 = -1 then pm_upd (pm_upd (s_X12_minute_9 i g') 249 (344 + L i) (L_X12_place_4 (L i) (s_X12_minute_9 i g') (-1) 0).1) 259 (L i) 1 else pm_upd (pm_upd (s_X12_minute_9 i g') 249 (344 + L i) (L_X12_place_4 (L i) (s_X12_minute_9 i g') (-1) 0).1) 249 (154 + (L_X12_place_4 (L i) (s_X12_minute_9 i g') (-1) 0).1) (L i) := rfl
      have hm4 : ∀ k : Int, k ≠ 344 + L i → s_X12_minute_9 i g' 249 k = g' 249 k := fun k hk => by rw [h9]; simp only [up_app]; grind
      generalize (L_X12_place_4 (L i) (s_X12_minute_9 i g') (-1) 0).1 = m at *
      have bx : s_X4_placeWorks_1 b i h' = H_X4_placeWork b (L i) h' := by
        unfold s_X4_placeWorks_1
        rw [e36, e32, if_pos (w2.mpr c)]
      have by_ : s_X12_minute_10 i g' = H_X12_place (L i) (s_X12_minute_9 i g') := by
        unfold s_X12_minute_10
        rw [e58, h93, if_pos c, if_neg (by omega)]
      refine ⟨⟨?_, ?_⟩, ⟨?_, ?_⟩, ?_⟩
      · simp only [P_X4_placeWorks_8, C_X4_placeWorks_8, B_X4_placeWorks_8, e36, fx_i]
        exact fun _ => ⟨by omega, by omega, fun _ => p1, by omega⟩
      · simp only [P_X4_placeWorks_8, C_X4_placeWorks_8, B_X4_placeWorks_8, e21]; omega
      · simp only [P_X12_minute_78, C_X12_minute_78, B_X12_minute_78, e58, fx_i]
        exact fun _ => ⟨by omega, hop, by omega, by omega, by omega, fun _ => p2, by omega⟩
      · simp only [P_X12_minute_78, C_X12_minute_78, B_X12_minute_78, k13]; omega
      · simp only [P_X4_placeWorks_8, C_X4_placeWorks_8, B_X4_placeWorks_8, P_X12_minute_78, C_X12_minute_78, B_X12_minute_78, bx, by_, hH, hG]
        rw [if_pos c] at h9
        rcases p4 with p4 | ⟨p4, p5, p6⟩
        · subst p4
          simp only [if_true]
          refine ⟨by omega, by omega, by omega, fun a a1 a2 a3 => ?_, fun a a1 a2 a3 => ?_, fun k a1 a2 => ?_, fun q a1 a2 => ?_, fun j a1 a2 => ?_, fun j a1 a2 => ?_⟩
          · rw [up_cell _ a2]; exact f1 a a1 a2 a3
          · rw [up_cell _ a2, up_cell _ a1, h9, up_cell _ a1, up_cell _ a2, up_cell _ a3]; exact f2 a a1 a2 a3
          · rw [up_cell _ (by omega), up_pl _ (by omega), hm4 k (by omega)]; exact f3 k a1 a2
          · have fq := fm q a1 a2
            rw [up_cell _ (by omega), up_cell _ (by omega), up_pl _ (by omega), hm4 _ (by omega)]
            refine ⟨fq.1, ?_⟩
            rcases fq.2 with z | ⟨z1, z2, z3, j, z4, z5, z6⟩
            · exact Or.inl z
            · have := hinj j z4 (by omega) (by omega)
              right
              rw [up_pl _ (by omega), hm4 _ (by omega)]
              exact ⟨z1, z2, z3, j, z4, by omega, z6⟩
          · rw [up_cell _ (show b + 35 ≠ b + 34 by omega), up_cell _ (show (249 : Int) ≠ 259 by omega), up_cell _ (show (263 : Int) ≠ 259 by omega), up_cell _ (show (263 : Int) ≠ 249 by omega)]
            by_cases e : j = i
            · rw [e, up_eq, up_eq, up_eq, h93, u0.1]
              simp [c]
            · have ne := hinj j a1 (by omega) e
              have hLj := (hL j a1 (by omega)).2.2
              have fj := fw j a1 (by omega)
              rw [up_pl _ ne, up_pl _ ne, up_pl _ (by omega), hm4 _ (by omega)]
              have z1 : s_X12_minute_9 i g' 259 (L j) = g' 259 (L j) := by rw [h9]; simp only [up_app]; grind
              have z2 : s_X12_minute_9 i g' 263 (L j) = g' 263 (L j) := by rw [h9]; simp only [up_app]; grind
              rw [up_cell _ (show (259 : Int) ≠ 249 by omega), z1, z2]
              refine ⟨fj.1, fj.2.1, fj.2.2.1, ?_, fj.2.2.2.2⟩
              rcases fj.2.2.2.1 with z | ⟨z3, z4, z5⟩
              · exact Or.inl z
              · right
                rw [up_pl _ (by omega), hm4 _ (by omega)]
                exact ⟨z3, z4, z5⟩
          · have ne := hinj j (by omega) a2 (by omega)
            have fj := fu j (by omega) a2
            rw [up_cell _ (show b + 35 ≠ b + 34 by omega), up_pl _ ne]
            exact fj
        · have hm1 : ¬ m = -1 := by omega
          simp only [if_neg hm1]
          refine ⟨by omega, by omega, by omega, fun a a1 a2 a3 => ?_, fun a a1 a2 a3 => ?_, fun k a1 a2 => ?_, fun q a1 a2 => ?_, fun j a1 a2 => ?_, fun j a1 a2 => ?_⟩
          · rw [up_cell _ a1, up_cell _ a3]; exact f1 a a1 a2 a3
          · rw [up_cell _ a1, up_cell _ a1, h9, up_cell _ a1, up_cell _ a2, up_cell _ a3]; exact f2 a a1 a2 a3
          · rw [up_pl _ (by omega), up_pl _ (by omega), hm4 k (by omega)]; exact f3 k a1 a2
          · have fq := fm q a1 a2
            by_cases e : q = m
            · rw [e, up_eq, up_eq]
              refine ⟨rfl, Or.inr ⟨l3, l4, ?_, i, by omega, by omega, rfl⟩⟩
              rw [up_pl _ (by omega), up_eq]
            · rw [up_pl _ e, up_cell _ (by omega), up_pl _ (by omega), up_pl _ (by omega), hm4 _ (by omega)]
              refine ⟨fq.1, ?_⟩
              rcases fq.2 with z | ⟨z1, z2, z3, j, z4, z5, z6⟩
              · exact Or.inl z
              · have := hinj j z4 (by omega) (by omega)
                right
                rw [up_pl _ (by omega), up_pl _ (by omega), hm4 _ (by omega)]
                exact ⟨z1, z2, z3, j, z4, by omega, z6⟩
          · rw [up_cell _ (show b + 35 ≠ b + 15 by omega), up_cell _ (show b + 34 ≠ b + 15 by omega), up_cell _ (show b + 34 ≠ b + 35 by omega), up_cell _ (show (263 : Int) ≠ 249 by omega), up_cell _ (show (263 : Int) ≠ 249 by omega), up_cell _ (show (259 : Int) ≠ 249 by omega), up_cell _ (show (259 : Int) ≠ 249 by omega)]
            by_cases e : j = i
            · have z1 : s_X12_minute_9 i g' 259 (L i) = 0 := by rw [h9]; simp only [up_app]; grind
              rw [e, up_eq, h93, u0.2, z1, up_pl _ (show 344 + L i ≠ 154 + m by omega), up_eq, up_eq]
              simp [c, hm1]
              exact ⟨p4, p5⟩
            · have ne := hinj j a1 (by omega) e
              have hLj := (hL j a1 (by omega)).2.2
              have fj := fw j a1 (by omega)
              have z1 : s_X12_minute_9 i g' 259 (L j) = g' 259 (L j) := by rw [h9]; simp only [up_app]; grind
              have z2 : s_X12_minute_9 i g' 263 (L j) = g' 263 (L j) := by rw [h9]; simp only [up_app]; grind
              rw [up_pl _ ne, up_pl _ (show 344 + L j ≠ 154 + m by omega), up_pl _ (by omega), hm4 _ (by omega), z1, z2]
              refine ⟨fj.1, fj.2.1, fj.2.2.1, ?_, fj.2.2.2.2⟩
              rcases fj.2.2.2.1 with z | ⟨z3, z4, z5⟩
              · exact Or.inl z
              · right
                refine ⟨z3, z4, ?_⟩
                have hz : g' 249 (344 + L j) ≠ m := fun q => by
                  rw [q] at z5
                  rw [hm4 _ (by omega)] at p6
                  have := (hL j a1 (by omega)).2.2
                  omega
                rw [up_pl _ (by omega), up_pl _ (by omega), hm4 _ (by omega)]
                exact z5
          · have ne := hinj j (by omega) a2 (by omega)
            have fj := fu j (by omega) a2
            rw [up_cell _ (show b + 35 ≠ b + 15 by omega), up_pl _ ne, up_cell _ (show b + 34 ≠ b + 15 by omega), up_cell _ (show b + 34 ≠ b + 35 by omega)]
            exact fj
    · -- not open
      have bx : s_X4_placeWorks_1 b i h' = h' := by
        unfold s_X4_placeWorks_1
        rw [e36, e32, if_neg (fun q => c (w2.mp q))]
      have by_ : s_X12_minute_10 i g' = s_X12_minute_9 i g' := by
        unfold s_X12_minute_10
        rw [e58, h93, if_neg c, if_pos rfl]
      rw [if_neg c] at h9 h93
      refine ⟨⟨?_, ?_⟩, ⟨?_, ?_⟩, ?_⟩
      · simp only [P_X4_placeWorks_8, C_X4_placeWorks_8, B_X4_placeWorks_8, e36, e32, fx_i]
        exact fun _ => ⟨by omega, by omega, fun q => absurd (w2.mp q) c, by omega⟩
      · simp only [P_X4_placeWorks_8, C_X4_placeWorks_8, B_X4_placeWorks_8, e21]; omega
      · simp only [P_X12_minute_78, C_X12_minute_78, B_X12_minute_78, e58, fx_i]
        exact fun _ => ⟨by omega, hop, by omega, by omega, by omega, fun q => absurd h93 q, by omega⟩
      · simp only [P_X12_minute_78, C_X12_minute_78, B_X12_minute_78, k13]; omega
      · simp only [P_X4_placeWorks_8, C_X4_placeWorks_8, B_X4_placeWorks_8, P_X12_minute_78, C_X12_minute_78, B_X12_minute_78, bx, by_, h9]
        refine ⟨by omega, by omega, by omega, f1, fun a a1 a2 a3 => ?_, fun k a1 a2 => ?_, fun q a1 a2 => ?_, fun j a1 a2 => ?_, fun j a1 a2 => fu j (by omega) a2⟩
        · rw [up_cell _ a1, up_cell _ a2, up_cell _ a3]; exact f2 a a1 a2 a3
        · rw [up_pl _ (by omega), up_cell _ (by omega), up_cell _ (by omega)]; exact f3 k a1 a2
        · have fq := fm q a1 a2
          rw [up_pl _ (by omega), up_cell _ (by omega), up_cell _ (by omega)]
          refine ⟨fq.1, ?_⟩
          rcases fq.2 with z | ⟨z1, z2, z3, j, z4, z5, z6⟩
          · exact Or.inl z
          · have := hinj j z4 (by omega) (by omega)
            right
            rw [up_pl _ (by omega), up_cell _ (by omega), up_cell _ (by omega)]
            exact ⟨z1, z2, z3, j, z4, by omega, z6⟩
        · rw [up_cell _ (show (263 : Int) ≠ 249 by omega), up_cell _ (show (263 : Int) ≠ 259 by omega), up_cell _ (show (259 : Int) ≠ 249 by omega)]
          by_cases e : j = i
          · rw [e, up_eq, up_eq, up_eq, u0.1, u0.2]
            simp [c]
          · have ne := hinj j a1 (by omega) e
            have hLj := (hL j a1 (by omega)).2.2
            have fj := fw j a1 (by omega)
            rw [up_pl _ ne, up_pl _ ne, up_pl _ (by omega), up_cell _ (by omega), up_cell _ (by omega), up_cell _ (show (259 : Int) ≠ 263 by omega)]
            refine ⟨fj.1, fj.2.1, fj.2.2.1, ?_, fj.2.2.2.2⟩
            rcases fj.2.2.2.1 with z | ⟨z3, z4, z5⟩
            · exact Or.inl z
            · right
              refine ⟨z3, z4, ?_⟩
              rw [up_pl _ (by omega), up_cell _ (by omega), up_cell _ (by omega)]
              exact z5
  · rintro ⟨x, h'⟩ ⟨y, g'⟩ ⟨hx, hy, hi2, f1, f2, f3, -⟩
    simp only at hx hy f1 f3
    subst hx; subst hy
    have e21 : h' (b + 21) = h (b + 21) := f1 _ (by omega) (by omega) (by omega)
    have k13 : g' 249 13 = g 249 13 := f3 _ (by omega) (by omega)
    simp only [P_X4_placeWorks_8, C_X4_placeWorks_8, B_X4_placeWorks_8, P_X12_minute_78, C_X12_minute_78, B_X12_minute_78, e21, k13]
    omega
