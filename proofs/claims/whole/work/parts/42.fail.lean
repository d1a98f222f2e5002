/-! Failing: lots, what is told of them. -/
def zrunF (b : Int) (h g : pH) (nm nw : Nat) : Prop :=
  (∀ m : Int, 0 ≤ m → m < nm → h (b + 15) m = g 249 (154 + m) ∧ h (b + 16) m = g 249 (164 + m) ∧ 0 ≤ g 249 (164 + m) ∧ g 249 (164 + m) ≤ 3 ∧ ((g 249 (154 + m) = -1 ∧ g 249 (164 + m) = 0) ∨ (0 ≤ g 249 (154 + m) ∧ g 249 (154 + m) < nw ∧ g 249 (344 + g 249 (154 + m)) = m ∧ (0 < g 249 (164 + m) ↔ (g 259 (g 249 (154 + m)) = 0 ∨ g 259 (g 249 (154 + m)) = 5))))) ∧
  (∀ w : Int, 0 ≤ w → w < nw → h (b + 34) w = g 259 w ∧ (h (b + 35) w = if g 259 w = 0 ∨ g 259 w = 5 then g 249 (344 + w) else -1) ∧ 0 ≤ g 259 w ∧ g 259 w ≤ 5 ∧ (g 249 (344 + w) = -1 ∨ (0 ≤ g 249 (344 + w) ∧ g 249 (344 + w) < nm ∧ g 249 (154 + g 249 (344 + w)) = w)) ∧ (g 249 (344 + w) = -1 → g 259 w = if g 263 w = 0 then 0 else 1) ∧ (g 263 w = 0 → g 249 (344 + w) = -1))
theorem zrunF_of {b : Int} {h g : pH} {nm nw : Nat} (hz : zrun b h g nm nw) : zrunF b h g nm nw := by
  obtain ⟨z1, z2⟩ := hz
  refine ⟨fun m a1 a2 => ?_, fun w a1 a2 => ?_⟩
  · have q := z1 m a1 a2
    refine ⟨q.1, q.2.1, q.2.2.1, q.2.2.2.1, ?_⟩
    rcases q.2.2.2.2 with y | ⟨y1, y2, y3, y4⟩
    · exact Or.inl y
    · have := (z2 _ y1 y2).2.2.2.1
      exact Or.inr ⟨y1, y2, y3, by omega⟩
  · have q := z2 w a1 a2
    refine ⟨q.1, ?_, q.2.2.1, by omega, q.2.2.2.2⟩
    rw [q.2.1]
    by_cases c : g 259 w = 0
    · rw [if_pos c, if_pos (Or.inl c)]
    · rw [if_neg c, if_neg (by omega)]
/-- the lots: what is told, by the row -/
def zlots (b : Int) (h : pH) (z : Int → Int) : Prop :=
  h (b + 42) 0 = z 9 ∧ h (b + 42) 1 = z 10 ∧ h (b + 42) 2 = z 11 ∧ h (b + 42) 3 = z 19 ∧
  ∀ k : Int, 0 ≤ k → k < 10 → h (b + 43) k = zs (fun i => if z (500 + i) = k ∧ z (560 + i) = 1 then 1 else 0) (z 19).toNat ∧ h (b + 44) k = zs (fun i => if z (500 + i) = k ∧ ¬ z (560 + i) = 1 then 1 else 0) (z 19).toNat
def ylots (z : Int → Int) : Prop := 0 ≤ z 9 ∧ z 9 ≤ 100 ∧ 0 ≤ z 10 ∧ z 10 ≤ 100 ∧ fx_i (z 11) ∧ 0 ≤ z 19 ∧ z 19 ≤ 60 ∧ ∀ i : Int, 0 ≤ i → i < z 19 → 0 ≤ z (500 + i) ∧ z (500 + i) ≤ 9 ∧ 0 ≤ z (560 + i) ∧ z (560 + i) ≤ 1
theorem pm_w_i (x : Int) : fx_i (pm_w x) := by
  unfold pm_w fx_i; rw [Int.bmod_def]; split <;> omega
theorem hund_bd {x : Int} (h1 : -150022500 ≤ x) (h2 : x ≤ 100000000) : -1500225 ≤ Int.tdiv x 100 ∧ Int.tdiv x 100 ≤ 1000000 := by
  rcases Int.le_total 0 x with q | q
  · rw [Int.tdiv_eq_ediv_of_nonneg q]; omega
  · have e := Int.tdiv_eq_ediv_of_nonneg (b := 100) (show 0 ≤ -x by omega)
    rw [Int.neg_tdiv] at e
    omega
theorem mul_b {b u : Int} (h1 : 0 ≤ b) (h2 : b ≤ 100) (h3 : -1500225 ≤ u) (h4 : u ≤ 1000000) : -150022500 ≤ b * u ∧ b * u ≤ 100000000 := by
  rcases Int.le_total 0 u with q | q
  · have p1 := Int.mul_nonneg h1 q
    have p2 := Int.mul_le_mul_of_nonneg_right h2 q
    omega
  · have p1 := Int.mul_nonneg h1 (show 0 ≤ -u by omega)
    have p2 := Int.mul_le_mul_of_nonneg_right h2 (show 0 ≤ -u by omega)
    rw [Int.mul_neg] at p1 p2
    omega
set_option maxHeartbeats 2000000 in
theorem fail_rel (b : Int) (h g : pH) (nm nw : Nat) (hn : h (b + 7) 10 = nm) (gn : g 249 12 = nm) (h10 : nm ≤ 10) (h16 : nw ≤ 16) (hz : zrunF b h g nm nw)
    (hm : ∀ m : Int, 0 ≤ m → m < nm → h (b + 8) m = g 249 (84 + m) ∧ 0 ≤ g 249 (84 + m) ∧ g 249 (84 + m) < 12 ∧ h (b + 14) m = g 249 (144 + m) ∧ 0 ≤ g 249 (144 + m) ∧ g 249 (144 + m) ≤ 1)
    (hc : ∀ c : Int, 0 ≤ c → c < 12 → h (b + 2) c = g 249 (20 + c) ∧ -150022500 ≤ g 249 (20 + c) ∧ g 249 (20 + c) ≤ 100000000)
    (hl : zlots b h (g 249)) (hy : ylots (g 249)) :
    P_X4_failMachines b h ∧ P_X12_fail g ∧ (∀ a, a ≠ b + 14 → a ≠ b + 34 → a ≠ b + 42 → a ≠ b + 43 → a ≠ b + 44 → H_X4_failMachines b h a = h a) ∧ (∀ a, a ≠ 249 → a ≠ 259 → H_X12_fail g a = g a) ∧ (∀ k : Int, k ≠ 11 → k ≠ 19 → (k < 144 ∨ 154 ≤ k) → (k < 500 ∨ 620 ≤ k) → H_X12_fail g 249 k = g 249 k) ∧
    zrunF b (H_X4_failMachines b h) (H_X12_fail g) nm nw ∧ (∀ m : Int, 0 ≤ m → m < nm → H_X4_failMachines b h (b + 14) m = H_X12_fail g 249 (144 + m) ∧ 0 ≤ H_X12_fail g 249 (144 + m) ∧ H_X12_fail g 249 (144 + m) ≤ 1) ∧ zlots b (H_X4_failMachines b h) (H_X12_fail g 249) ∧ ylots (H_X12_fail g 249) := by
  have key := fx_rel (σ := Int × pH) (c := (fun s => C_X4_failMachines_2 b s.1 s.2)) (f := (fun s => B_X4_failMachines_2 b s.1 s.2)) (P := (fun s => P_X4_failMachines_2 b s.1 s.2)) (s0 := (0, h)) (τ := Int × pH) (d := (fun s => C_X12_fail_2 s.1 s.2)) (g := (fun s => B_X12_fail_2 s.1 s.2)) (P' := (fun s => P_X12_fail_2 s.1 s.2)) (t0 := (0, g)) nm (fun i s t => s.1 = i ∧ t.1 = i ∧ i ≤ nm ∧
    (∀ a, a ≠ b + 14 → a ≠ b + 34 → a ≠ b + 42 → a ≠ b + 43 → a ≠ b + 44 → s.2 a = h a) ∧ (∀ a, a ≠ 249 → a ≠ 259 → t.2 a = g a) ∧ (∀ k : Int, k ≠ 11 → k ≠ 19 → (k < 144 ∨ 154 ≤ k) → (k < 500 ∨ 620 ≤ k) → t.2 249 k = g 249 k) ∧
    zrunF b s.2 t.2 nm nw ∧ (∀ m : Int, 0 ≤ m → m < nm → s.2 (b + 14) m = t.2 249 (144 + m) ∧ 0 ≤ t.2 249 (144 + m) ∧ t.2 249 (144 + m) ≤ 1) ∧ zlots b s.2 (t.2 249) ∧ ylots (t.2 249))
    ⟨rfl, rfl, by omega, fun _ _ _ _ _ _ => rfl, fun _ _ _ => rfl, fun _ _ _ _ _ => rfl, hz, fun m a1 a2 => (hm m a1 a2).2.2.2, hl, hy⟩ ?_ ?_
  · obtain ⟨k1, k2, k3, k4, k5, k6⟩ := key
    exact ⟨k1, k2, k6⟩
  · rintro i ⟨x, h'⟩ ⟨y, g'⟩ hi ⟨hx, hy', hi2, f1, f2, f3, zr, fm, zl, yl⟩
    simp only at hx hy' f1 f2 f3 zr fm zl yl
    subst hx; subst hy'
    have q := zr.1 i (by omega) (by omega)
    have qm := hm i (by omega) (by omega)
    obtain ⟨c, hcc⟩ : ∃ c, c = g 249 (84 + i) := ⟨_, rfl⟩
    rw [← hcc] at qm
    have qc := hc c qm.2.1 qm.2.2.1
    have e8 : h' (b + 8) i = c := by rw [f1 _ (by omega) (by omega) (by omega) (by omega) (by omega)]; exact qm.1
    have e2 : h' (b + 2) c = g 249 (20 + c) := by rw [f1 _ (by omega) (by omega) (by omega) (by omega) (by omega)]; exact qc.1
    have e10 : h' (b + 7) 10 = nm := by rw [f1 _ (by omega) (by omega) (by omega) (by omega) (by omega)]; exact hn
    have k12 : g' 249 12 = nm := by rw [f3 _ (by omega) (by omega) (by omega) (by omega)]; exact gn
    have k84 : g' 249 (84 + i) = c := by rw [f3 _ (by omega) (by omega) (by omega) (by omega), hcc]
    have k20 : g' 249 (20 + c) = g 249 (20 + c) := f3 _ (by omega) (by omega) (by omega) (by omega)
    by_cases hr : g' 249 (164 + i) ≤ 0
    · -- it doesn't run
      have bx : s_X4_failMachines_3 b i h' = h' := by
        unfold s_X4_failMachines_3
        rw [q.2.1]
        by_cases c1 : h' (b + 15) i = -1
        · rw [if_pos c1]
        · rw [if_neg c1, if_pos hr]
      have by_ : s_X12_fail_9 i g' = g' := by unfold s_X12_fail_9; rw [if_pos hr]
      simp only [P_X4_failMachines_2, C_X4_failMachines_2, B_X4_failMachines_2, P_X12_fail_2, C_X12_fail_2, B_X12_fail_2, bx, by_, q.2.1, e10, k12, fx_i]
      exact ⟨⟨fun _ => ⟨by omega, fun _ q2 => absurd q2 (by omega), by omega⟩, by omega⟩, ⟨fun _ => ⟨by omega, by omega, fun q2 => absurd q2 (by omega), by omega⟩, by omega⟩, by omega, by omega, by omega, f1, f2, f3, zr, fm, zl, yl⟩
    · -- it runs
      obtain ⟨w, hw⟩ : ∃ w, w = g' 249 (154 + i) := ⟨_, rfl⟩
      have q2 : 0 ≤ w ∧ w < nw ∧ g' 249 (344 + w) = i ∧ (g' 259 w = 0 ∨ g' 259 w = 5) := by
        rcases q.2.2.2.2 with z | ⟨z1, z2, z3, z4⟩
        · omega
        · rw [hw]; exact ⟨z1, z2, z3, z4.mp (by omega)⟩
      have e15 : h' (b + 15) i = w := by rw [q.1, hw]
      obtain ⟨l0, l1, l2, l3, lk⟩ := zl
      obtain ⟨y0, y0', y1, y1', y2, y3, y3', yk⟩ := yl
      -- the lot and what is told
      obtain ⟨U, hU⟩ : ∃ U, U = Int.tdiv (g 249 (20 + c)) 100 := ⟨_, rfl⟩
      have Ub := hund_bd qc.2.1 qc.2.2
      rw [← hU] at Ub
      have Bb := mul_b y1 y1' Ub.1 Ub.2
      obtain ⟨N, hN⟩ : ∃ N, N = pm_w ((pm_w (g' 249 11 * 1103515245)) + 12345) := ⟨_, rfl⟩
      obtain ⟨fl, hfl⟩ : ∃ fl : Prop, fl = (Int.tmod (pm_ushr N 16) 1000 < g' 249 9 + g' 249 10 * U) := ⟨_, rfl⟩
      obtain ⟨V, hV⟩ : ∃ V, V = fx_max 0 (fx_min U 9) := ⟨_, rfl⟩
      have m1 := fx_min_le U 9
      have m2 := fx_max_le 0 (fx_min U 9)
      have Vb : 0 ≤ V ∧ V ≤ 9 := by rw [hV]; omega
      -- class
      have x1 : s_X5_draw_1 (b + 42) h' = pm_upd h' (b + 42) 2 N := by unfold s_X5_draw_1; rw [l2, hN]
      have x1c : ∀ a, a ≠ b + 42 → s_X5_draw_1 (b + 42) h' a = h' a := fun a ha => by rw [x1, up_cell _ ha]
      have x12 : s_X5_draw_1 (b + 42) h' (b + 42) 2 = N := by rw [x1, up_eq]
      have x1k : ∀ k, k ≠ 2 → s_X5_draw_1 (b + 42) h' (b + 42) k = h' (b + 42) k := fun k hk => by rw [x1, up_pl _ hk]
      have xc : (Int.tmod (pm_ushr (s_X5_draw_1 (b + 42) h' (b + 42) 2) 16) 1000 < s_X5_draw_1 (b + 42) h' (b + 42) 0 + s_X5_draw_1 (b + 42) h' (b + 42) 1 * Int.tdiv (g 249 (20 + c)) 100) = fl := by
        rw [x12, x1k 0 (by omega), x1k 1 (by omega), l0, l1, ← hU, hfl]
      -- model
      have g1 : s_X12_fail_1 g' = pm_upd g' 249 11 N := by unfold s_X12_fail_1; rw [hN]
      have g1k : ∀ k, k ≠ 11 → s_X12_fail_1 g' 249 k = g' 249 k := fun k hk => by rw [g1, up_pl _ hk]
      have g1d : s_X12_fail_1 g' 249 (20 + s_X12_fail_1 g' 249 (84 + i)) = g 249 (20 + c) := by rw [g1k (84 + i) (by omega), k84, g1k _ (by omega), k20]
      have gc : (Int.tmod (pm_ushr (pm_w ((pm_w (g' 249 11 * 1103515245)) + 12345)) 16) 1000 < s_X12_fail_1 g' 249 9 + s_X12_fail_1 g' 249 10 * Int.tdiv (s_X12_fail_1 g' 249 (20 + s_X12_fail_1 g' 249 (84 + i))) 100) = fl := by
        rw [← hN, g1k 9 (by omega), g1k 10 (by omega), g1d, ← hU, hfl]
      have g2 : s_X12_fail_2 i g' = V := by
        unfold s_X12_fail_2
        rw [g1d, ← hU, less_min, hV]
        split <;> omega
      have g19 : s_X12_fail_1 g' 249 19 = g' 249 19 := g1k 19 (by omega)
      by_cases hfull : g' 249 19 < 60
      · -- it is told
        obtain ⟨n, hnn⟩ : ∃ n : Nat, g' 249 19 = n := ⟨(g' 249 19).toNat, by omega⟩
        rw [hnn] at lk
        rw [Int.toNat_natCast] at lk
        by_cases hF : fl
        · -- it fails
          have xcF := fun {α : Type} (p r : α) => (if_pos (c := Int.tmod (pm_ushr (s_X5_draw_1 (b + 42) h' (b + 42) 2) 16) 1000 < s_X5_draw_1 (b + 42) h' (b + 42) 0 + s_X5_draw_1 (b + 42) h' (b + 42) 1 * Int.tdiv (g 249 (20 + c)) 100) (by rw [xc]; exact hF) : ite _ p r = p)
          have gcF := fun {α : Type} (p r : α) => (if_pos (c := Int.tmod (pm_ushr (pm_w ((pm_w (g' 249 11 * 1103515245)) + 12345)) 16) 1000 < s_X12_fail_1 g' 249 9 + s_X12_fail_1 g' 249 10 * Int.tdiv (s_X12_fail_1 g' 249 (20 + s_X12_fail_1 g' 249 (84 + i))) 100) (by rw [gc]; exact hF) : ite _ p r = p)
          have xF : F_X5_draw (b + 42) (g 249 (20 + c)) h' = 1 := by unfold F_X5_draw; exact xcF 1 0
          have x2 : s_X5_draw_2 (b + 42) (g 249 (20 + c)) h' = pm_upd (s_X5_draw_1 (b + 42) h') (b + 43) V (h' (b + 43) V + 1) := by
            unfold s_X5_draw_2
            rw [xcF, ← hU, ← hV, show b + 42 + 1 = b + 43 by omega, x1c (b + 43) (by omega)]
          have xH : H_X5_draw (b + 42) (g 249 (20 + c)) h' = pm_upd (pm_upd (pm_upd h' (b + 42) 2 N) (b + 43) V (h' (b + 43) V + 1)) (b + 42) 3 (g' 249 19 + 1) := by
            show s_X5_draw_4 _ _ _ = _
            unfold s_X5_draw_4 s_X5_draw_3
            rw [x1k 3 (by omega), l3, if_neg (by omega), x2, up_cell _ (show b + 42 ≠ b + 43 by omega), x1k 3 (by omega), l3, x1]
          have bx : s_X4_failMachines_3 b i h' = pm_upd (pm_upd (pm_upd (pm_upd (pm_upd h' (b + 42) 2 N) (b + 43) V (h' (b + 43) V + 1)) (b + 42) 3 (g' 249 19 + 1)) (b + 14) i 1) (b + 34) w 5 := by
            unfold s_X4_failMachines_3 s_X4_failMachines_2 s_X4_failMachines_1
            rw [e15, if_neg (by omega), q.2.1, if_neg hr, e8, e2, xF, if_neg (by omega), xH]
          have g4 : s_X12_fail_4 i g' = 1 := by unfold s_X12_fail_4; exact gcF 1 0
          have g3 : s_X12_fail_3 i g' = pm_upd (pm_upd g' 249 11 N) 249 (500 + n) V := by unfold s_X12_fail_3; rw [g2, g19, hnn, g1]
          have g319 : s_X12_fail_3 i g' 249 19 = n := by rw [g3, up_pl _ (by omega), up_pl _ (by omega), hnn]
          have g5 : s_X12_fail_5 i g' = pm_upd (pm_upd (pm_upd g' 249 11 N) 249 (500 + n) V) 249 (560 + n) 1 := by unfold s_X12_fail_5; rw [g4, g319, g3]
          have g519 : s_X12_fail_5 i g' 249 19 = n := by rw [g5, up_pl _ (by omega), up_pl _ (by omega), up_pl _ (by omega), hnn]
          have g7 : s_X12_fail_7 i g' = pm_upd (pm_upd (pm_upd (pm_upd g' 249 11 N) 249 (500 + n) V) 249 (560 + n) 1) 249 19 (n + 1) := by
            unfold s_X12_fail_7 s_X12_fail_6
            rw [g19, if_neg (by omega), g519, g5]
          have g7k : ∀ k : Int, k ≠ 11 → k ≠ 19 → (k < 500 ∨ 620 ≤ k) → s_X12_fail_7 i g' 249 k = g' 249 k := fun k a1 a2 a3 => by rw [g7, up_pl _ a2, up_pl _ (by omega), up_pl _ (by omega), up_pl _ a1]
          have by_ : s_X12_fail_9 i g' = pm_upd (pm_upd (s_X12_fail_7 i g') 249 (144 + i) 1) 259 w 5 := by
            unfold s_X12_fail_9 s_X12_fail_8
            rw [if_neg hr, gcF, up_pl _ (show 154 + (i : Int) ≠ 144 + i by omega), g7k _ (by omega) (by omega) (by omega), ← hw]
          sorry
        · sorry
      · sorry
  · rintro ⟨x, h'⟩ ⟨y, g'⟩ ⟨hx, hy', hi2, f1, f2, f3, -⟩
    simp only at hx hy' f1 f3
    subst hx; subst hy'
    have e10 : h' (b + 7) 10 = nm := by rw [f1 _ (by omega) (by omega) (by omega) (by omega) (by omega)]; exact hn
    have k12 : g' 249 12 = nm := by rw [f3 _ (by omega) (by omega) (by omega) (by omega)]; exact gn
    simp only [P_X4_failMachines_2, C_X4_failMachines_2, B_X4_failMachines_2, P_X12_fail_2, C_X12_fail_2, B_X12_fail_2, e10, k12]
    omega
