/-! Trips: a feed's machines from the greatest down. -/
theorem zs_upd {f g : Int → Int} {j : Int} : ∀ {n : Nat}, 0 ≤ j → j < n → (∀ i : Int, 0 ≤ i → i < n → i ≠ j → g i = f i) → zs g n = zs f n - f j + g j
  | 0, h1, h2, _ => by omega
  | n + 1, h1, h2, h => by
    unfold zs
    by_cases e : j = n
    · have := zs_congr (f := g) (g := f) (n := n) (fun i a1 a2 => h i a1 (by omega) (by omega))
      rw [this, e]
      omega
    · have := zs_upd (f := f) (g := g) (n := n) h1 (by omega) (fun i a1 a2 a3 => h i a1 (by omega) a3)
      rw [this, h n (by omega) (by omega) (by omega)]
      omega
theorem zs_zero {f : Int → Int} : ∀ {n : Nat}, (∀ i : Int, 0 ≤ i → i < n → f i = 0) → zs f n = 0
  | 0, _ => rfl
  | n + 1, h => by
    unfold zs
    rw [zs_zero (n := n) (fun i a1 a2 => h i a1 (by omega)), h n (by omega) (by omega)]
    rfl
theorem prod_bd {r d : Int} (h1 : 0 ≤ r) (h2 : r ≤ 3) (h3 : 0 ≤ d) (h4 : d ≤ 500) : 0 ≤ r * d ∧ r * d ≤ 1500 ∧ (r = 0 → r * d = 0) := by
  rcases (show r = 0 ∨ r = 1 ∨ r = 2 ∨ r = 3 by omega) with rfl | rfl | rfl | rfl <;> omega
/-- the greatest number of those with p, or -1 -/
noncomputable def zlast (p : Int → Prop) : Nat → Int
  | 0 => -1
  | n + 1 => @ite _ (p n) (Classical.propDecidable _) n (zlast p n)
theorem zlast_t {p : Int → Prop} {n : Nat} (h : p n) : zlast p (n + 1) = n := by unfold zlast; exact if_pos h
theorem zlast_f {p : Int → Prop} {n : Nat} (h : ¬ p n) : zlast p (n + 1) = zlast p n := by rw [zlast]; exact if_neg h
theorem zlast_is {p : Int → Prop} {x : Int} : ∀ {n : Nat}, 0 ≤ x → x < n → p x → (∀ k : Int, x < k → k < n → ¬ p k) → zlast p n = x
  | 0, h1, h2, _, _ => by omega
  | n + 1, h1, h2, h3, h4 => by
    by_cases e : x = n
    · subst e; exact zlast_t h3
    · rw [zlast_f (h4 n (by omega) (by omega))]
      exact zlast_is h1 (by omega) h3 (fun k a1 a2 => h4 k a1 (by omega))
/-- stopping a machine that runs -/
theorem stop_rel (b m v : Int) (h g : pH) (nm nw : Nat) (h10 : nm ≤ 10) (h16 : nw ≤ 16) (hz : zrun b h g nm nw) (hm : 0 ≤ m ∧ m < nm) (hr : 0 < g 249 (164 + m)) (hv : 1 ≤ v ∧ v ≤ 4) :
    P_X4_stop b m v h ∧ P_X12_still m v g ∧ (∀ a, a ≠ b + 16 → a ≠ b + 34 → a ≠ b + 35 → H_X4_stop b m v h a = h a) ∧ (∀ a, a ≠ 249 → a ≠ 259 → H_X12_still m v g a = g a) ∧ (∀ k : Int, k ≠ 164 + m → H_X12_still m v g 249 k = g 249 k) ∧ H_X12_still m v g 249 (164 + m) = 0 ∧
    zrun b (H_X4_stop b m v h) (H_X12_still m v g) nm nw := by
  obtain ⟨z1, z2⟩ := hz
  have q := z1 m hm.1 hm.2
  obtain ⟨w, hw⟩ : ∃ w, w = g 249 (154 + m) := ⟨_, rfl⟩
  have q2 : 0 ≤ w ∧ w < nw ∧ g 249 (344 + w) = m ∧ (0 < g 249 (164 + m) ↔ g 259 w = 0) := by
    rw [hw]; rcases q.2.2.2.2 with ⟨_, y⟩ | y
    · omega
    · exact y
  have hX15 : h (b + 15) m = w := by rw [q.1, hw]
  have hX : H_X4_stop b m v h = pm_upd (pm_upd (pm_upd h (b + 16) m 0) (b + 34) w v) (b + 35) w (-1) := by
    unfold H_X4_stop s_X4_stop_3 s_X4_stop_2 s_X4_stop_1
    rw [hX15, if_neg (by omega)]
  have hG : H_X12_still m v g = pm_upd (pm_upd g 249 (164 + m) 0) 259 w v := by
    unfold H_X12_still s_X12_still_1
    rw [up_pl _ (show 154 + m ≠ 164 + m by omega), ← hw]
  have g1 : ∀ k : Int, k ≠ 164 + m → H_X12_still m v g 249 k = g 249 k := fun k a1 => by rw [hG, up_cell _ (by omega), up_pl _ a1]
  have g2 : H_X12_still m v g 249 (164 + m) = 0 := by rw [hG, up_cell _ (by omega), up_eq]
  refine ⟨?_, ?_, fun a a1 a2 a3 => ?_, fun a a1 a2 => ?_, g1, g2, fun k a1 a2 => ?_, fun u a1 a2 => ?_⟩
  · unfold P_X4_stop
    rw [hX15]
    omega
  · unfold P_X12_still P_X12_at fx_i
    rw [up_pl _ (show 154 + m ≠ 164 + m by omega), ← hw]
    omega
  · rw [hX, up_cell _ a3, up_cell _ a2, up_cell _ a1]
  · rw [hG, up_cell _ a2, up_cell _ a1]
  · have y := z1 k a1 a2
    rw [g1 (154 + k) (by omega)]
    have e15 : H_X4_stop b m v h (b + 15) k = h (b + 15) k := by rw [hX, up_cell _ (by omega), up_cell _ (by omega), up_cell _ (by omega)]
    have e16 : H_X4_stop b m v h (b + 16) k = if k = m then 0 else h (b + 16) k := by rw [hX, up_cell _ (by omega), up_cell _ (by omega), up_app]; grind
    rw [e15, e16]
    by_cases e : k = m
    · rw [e] at y ⊢
      rw [g2, ← hw, g1 (344 + w) (by omega), if_pos rfl]
      rw [← hw] at y
      have e59 : H_X12_still m v g 259 w = v := by rw [hG, up_eq]
      rw [e59]
      exact ⟨y.1, rfl, by omega, by omega, Or.inr ⟨q2.1, q2.2.1, q2.2.2.1, by omega⟩⟩
    · rw [if_neg e, g1 (164 + k) (by omega)]
      refine ⟨y.1, y.2.1, y.2.2.1, y.2.2.2.1, ?_⟩
      rcases y.2.2.2.2 with y2 | ⟨y2, y3, y4, y5⟩
      · exact Or.inl y2
      · have ne : g 249 (154 + k) ≠ w := fun q5 => by rw [q5, q2.2.2.1] at y4; omega
        have e59 : H_X12_still m v g 259 (g 249 (154 + k)) = g 259 (g 249 (154 + k)) := by rw [hG, up_pl _ ne, up_cell _ (by omega)]
        rw [g1 (344 + g 249 (154 + k)) (by omega), e59]
        exact Or.inr ⟨y2, y3, y4, y5⟩
  · have y := z2 u a1 a2
    rw [g1 (344 + u) (by omega)]
    have e63 : H_X12_still m v g 263 = g 263 := by rw [hG, up_cell _ (by omega), up_cell _ (by omega)]
    have e34 : H_X4_stop b m v h (b + 34) u = if u = w then v else h (b + 34) u := by rw [hX, up_cell _ (by omega), up_app, up_cell _ (show b + 34 ≠ b + 16 by omega)]; grind
    have e35 : H_X4_stop b m v h (b + 35) u = if u = w then -1 else h (b + 35) u := by rw [hX, up_app, up_cell _ (show b + 35 ≠ b + 34 by omega), up_cell _ (show b + 35 ≠ b + 16 by omega)]; grind
    have e59 : H_X12_still m v g 259 u = if u = w then v else g 259 u := by rw [hG, up_app, up_cell _ (show (259 : Int) ≠ 249 by omega)]; grind
    rw [e63, e34, e35, e59]
    have a3 : g 249 (344 + u) = -1 ∨ (0 ≤ g 249 (344 + u) ∧ g 249 (344 + u) < nm ∧ H_X12_still m v g 249 (154 + g 249 (344 + u)) = u) := by
      rcases y.2.2.2.2.1 with y2 | ⟨y2, y3, y4⟩
      · exact Or.inl y2
      · rw [g1 (154 + g 249 (344 + u)) (by omega)]; exact Or.inr ⟨y2, y3, y4⟩
    by_cases e : u = w
    · rw [e] at a3 ⊢ y
      simp only [if_true]
      rw [if_neg (by omega)]
      exact ⟨by simp, by simp, by omega, by omega, a3, by omega, y.2.2.2.2.2.2⟩
    · simp only [e, if_false]
      exact ⟨y.1, y.2.1, y.2.2.1, y.2.2.2.1, a3, y.2.2.2.2.2.1, y.2.2.2.2.2.2⟩
/-- what a feed's machines draw -/
def zfd (z : Int → Int) (f : Int) (m : Int) : Int := if z (124 + m) = f then z (164 + m) * z (104 + m) else 0
theorem drawn_X (b f : Int) (h g : pH) (nm : Nat) (hn : h (b + 7) 10 = nm) (h10 : nm ≤ 10) (hr : ∀ m : Int, 0 ≤ m → m < nm → h (b + 16) m = g 249 (164 + m) ∧ 0 ≤ g 249 (164 + m) ∧ g 249 (164 + m) ≤ 3 ∧ h (b + 10) m = g 249 (104 + m) ∧ 0 ≤ g 249 (104 + m) ∧ g 249 (104 + m) ≤ 500 ∧ h (b + 12) m = g 249 (124 + m)) :
    P_X6_drawnFrom (b + 7) f h ∧ F_X6_drawnFrom (b + 7) f h = zs (zfd (g 249) f) nm := by
  have key := fx_rule (σ := Int × Int) (c := (fun s => C_X6_drawnFrom_4 (b + 7) f h s.1 s.2)) (f := (fun s => B_X6_drawnFrom_4 (b + 7) f h s.1 s.2)) (P := (fun s => P_X6_drawnFrom_4 (b + 7) f h s.1 s.2)) (s0 := (0, 0)) nm (fun i s => s = (zs (zfd (g 249) f) i, (i : Int)) ∧ i ≤ nm) ⟨rfl, by omega⟩ ?_ ?_
  · exact ⟨key.1, congrArg Prod.fst key.2.1⟩
  · rintro i s hi ⟨rfl, hi2⟩
    have hb := zs_bd (f := zfd (g 249) f) (n := i) (lo := 0) (hi := 1500) (fun c h1 h2 => by
      have q := hr c h1 (by omega)
      have := prod_bd q.2.1 q.2.2.1 q.2.2.2.2.1 q.2.2.2.2.2.1
      unfold zfd; split <;> omega)
    have q := hr i (by omega) (by omega)
    have pb := prod_bd q.2.1 q.2.2.1 q.2.2.2.2.1 q.2.2.2.2.2.1
    have e1 : h (b + 7 + 5) = h (b + 12) := by rw [show b + 7 + 5 = b + 12 by omega]
    have e2 : h (b + 7 + 9) = h (b + 16) := by rw [show b + 7 + 9 = b + 16 by omega]
    have e3 : h (b + 7 + 3) = h (b + 10) := by rw [show b + 7 + 3 = b + 10 by omega]
    simp only [P_X6_drawnFrom_4, C_X6_drawnFrom_4, B_X6_drawnFrom_4, s_X6_drawnFrom_1, P_X6_drawOf, e1, e2, e3, q.1, q.2.2.2.1, q.2.2.2.2.2.2, fx_i, zs, zfd]
    generalize g 249 (164 + i) * g 249 (104 + i) = p at *
    clear hr
    grind
  · rintro s ⟨rfl, hi2⟩
    simp only [P_X6_drawnFrom_4, C_X6_drawnFrom_4, B_X6_drawnFrom_4]
    grind
theorem trip10_M (f : Int) (g : pH) (nm : Nat) (gn : g 249 12 = nm) (h10 : nm ≤ 10) (hr : ∀ m : Int, 0 ≤ m → m < nm → 0 ≤ g 249 (164 + m) ∧ g 249 (164 + m) ≤ 3 ∧ 0 ≤ g 249 (104 + m) ∧ g 249 (104 + m) ≤ 500) :
    O_X12_trip_10 f g 0 (-1) 0 ∧ s_X12_trip_3 f g = zs (zfd (g 249) f) nm ∧ s_X12_trip_4 f g = zlast (fun m => 0 < zfd (g 249) f m) nm := by
  have key := fx_rule (σ := Int × Int × Int) (c := (fun s => C_X12_trip_10 f g s.1 s.2.1 s.2.2)) (f := (fun s => B_X12_trip_10 f g s.1 s.2.1 s.2.2)) (P := (fun s => P_X12_trip_10 f g s.1 s.2.1 s.2.2)) (s0 := (0, (-1), 0)) nm (fun i s => s = (zs (zfd (g 249) f) i, zlast (fun m => 0 < zfd (g 249) f m) i, (i : Int)) ∧ i ≤ nm) ⟨rfl, by omega⟩ ?_ ?_
  · exact ⟨key.1, congrArg Prod.fst key.2.1, congrArg (fun s => s.2.1) key.2.1⟩
  · rintro i s hi ⟨rfl, hi2⟩
    have hb := zs_bd (f := zfd (g 249) f) (n := i) (lo := 0) (hi := 1500) (fun c h1 h2 => by
      have q := hr c h1 (by omega)
      have := prod_bd q.1 q.2.1 q.2.2.1 q.2.2.2
      unfold zfd; split <;> omega)
    have q := hr i (by omega) (by omega)
    have pb := prod_bd q.1 q.2.1 q.2.2.1 q.2.2.2
    have hl : zlast (fun m => 0 < zfd (g 249) f m) (i + 1) = if 0 < zfd (g 249) f i then (i : Int) else zlast (fun m => 0 < zfd (g 249) f m) i := by
      split
      · next c => exact zlast_t c
      · next c => exact zlast_f c
    simp only [P_X12_trip_10, C_X12_trip_10, B_X12_trip_10, s_X12_trip_1, s_X12_trip_2, P_X12_drawn, fx_i, fx_l, zs, hl]
    have hz : zfd (g 249) f i = if g 249 (124 + i) = f then g 249 (164 + i) * g 249 (104 + i) else 0 := rfl
    rw [hz]
    generalize g 249 (164 + i) * g 249 (104 + i) = p at *
    clear hr hl hz
    generalize zlast (fun m => 0 < zfd (g 249) f m) i = zl
    generalize zs (zfd (g 249) f) i = zz at *
    by_cases c1 : g 249 (124 + i) = f
    · by_cases c2 : 0 < p
      · simp only [c1, c2, and_self, if_true]
        refine ⟨fun _ => ⟨by omega, by omega, fun _ => by omega, fun _ => by omega, by omega, by omega⟩, by omega, rfl, by omega⟩
      · have c3 : p = 0 := by omega
        subst c3
        simp only [c1, Int.lt_irrefl, and_false, if_true, if_false]
        refine ⟨fun _ => ⟨by omega, by omega, fun _ => by omega, fun q => q.elim, by omega, by omega⟩, by omega, rfl, by omega⟩
    · simp only [c1, false_and, if_false, Int.lt_irrefl]
      refine ⟨fun _ => ⟨by omega, by omega, fun q => q.elim, fun q => q.elim, by omega, by omega⟩, by omega, rfl, by omega⟩
  · rintro s ⟨rfl, hi2⟩
    simp only [P_X12_trip_10, C_X12_trip_10, B_X12_trip_10]
    grind
