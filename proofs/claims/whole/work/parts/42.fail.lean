/-! Failing: lots, what is told of them. -/
def zrunF (b : Int) (h g : pH) (nm nw : Nat) : Prop :=
  (∀ m : Int, 0 ≤ m → m < nm → h (b + 15) m = g 249 (154 + m) ∧ h (b + 16) m = g 249 (164 + m) ∧ 0 ≤ g 249 (164 + m) ∧ g 249 (164 + m) ≤ 3 ∧ ((g 249 (154 + m) = -1 ∧ g 249 (164 + m) = 0) ∨ (0 ≤ g 249 (154 + m) ∧ g 249 (154 + m) < nw ∧ g 249 (344 + g 249 (154 + m)) = m ∧ (0 < g 249 (164 + m) ↔ (g 259 (g 249 (154 + m)) = 0 ∨ g 259 (g 249 (154 + m)) = 5))))) ∧
  (∀ w : Int, 0 ≤ w → w < nw → h (b + 34) w = g 259 w ∧ (h (b + 35) w = if g 259 w = 0 ∨ g 259 w = 5 then g 249 (344 + w) else -1) ∧ 0 ≤ g 259 w ∧ g 259 w ≤ 5 ∧ (g 249 (344 + w) = -1 ∨ (0 ≤ g 249 (344 + w) ∧ g 249 (344 + w) < nm ∧ g 249 (154 + g 249 (344 + w)) = w)) ∧ (g 249 (344 + w) = -1 → g 259 w = if g 263 w = 0 then 0 else 1) ∧ (g 263 w = 0 → g 249 (344 + w) = -1))
theorem zrunF_of {b : Int} {h g : pH} {nm nw : Nat} (hz : zrun b h g nm nw) : zrunF b h g nm nw := by
  obtain ⟨z1, z2⟩ := hz
  refine ⟨fun m a1 a2 => ?_, fun w a1 a2 => ?_⟩
  · have q := z1 m a1 a2
    refine ⟨q.1, q.2.1, q.2.2.1, q.2.2.2.1, ?_⟩
    rcases q.2.2.2.2 with y | ⟨y1, y2, y3, y4⟩
    · exact Or.inl y
    · have := (z2 _ y1 y2).2.2.2.1
      exact Or.inr ⟨y1, y2, y3, by omega⟩
  · have q := z2 w a1 a2
    refine ⟨q.1, ?_, q.2.2.1, by omega, q.2.2.2.2⟩
    rw [q.2.1]
    by_cases c : g 259 w = 0
    · rw [if_pos c, if_pos (Or.inl c)]
    · rw [if_neg c, if_neg (by omega)]
/-- the lots: what is told, by the row -/
def zlots (b : Int) (h : pH) (z : Int → Int) : Prop :=
  h (b + 42) 0 = z 9 ∧ h (b + 42) 1 = z 10 ∧ h (b + 42) 2 = z 11 ∧ h (b + 42) 3 = z 19 ∧
  ∀ k : Int, 0 ≤ k → k < 10 → h (b + 43) k = zs (fun i => if z (500 + i) = k ∧ z (560 + i) = 1 then 1 else 0) (z 19).toNat ∧ h (b + 44) k = zs (fun i => if z (500 + i) = k ∧ ¬ z (560 + i) = 1 then 1 else 0) (z 19).toNat
def ylots (z : Int → Int) : Prop := 0 ≤ z 9 ∧ z 9 ≤ 100 ∧ 0 ≤ z 10 ∧ z 10 ≤ 100 ∧ fx_i (z 11) ∧ 0 ≤ z 19 ∧ z 19 ≤ 60 ∧ ∀ i : Int, 0 ≤ i → i < z 19 → 0 ≤ z (500 + i) ∧ z (500 + i) ≤ 9 ∧ 0 ≤ z (560 + i) ∧ z (560 + i) ≤ 1
theorem pm_w_i (x : Int) : fx_i (pm_w x) := by
  unfold pm_w fx_i; rw [Int.bmod_def]; split <;> omega
theorem hund_bd {x : Int} (h1 : -150022500 ≤ x) (h2 : x ≤ 100000000) : -1500225 ≤ Int.tdiv x 100 ∧ Int.tdiv x 100 ≤ 1000000 := by
  rcases Int.le_total 0 x with q | q
  · rw [Int.tdiv_eq_ediv_of_nonneg q]; omega
  · have e := Int.tdiv_eq_ediv_of_nonneg (b := 100) (show 0 ≤ -x by omega)
    rw [Int.neg_tdiv] at e
    omega
theorem mul_b {b u : Int} (h1 : 0 ≤ b) (h2 : b ≤ 100) (h3 : -1500225 ≤ u) (h4 : u ≤ 1000000) : -150022500 ≤ b * u ∧ b * u ≤ 100000000 := by
  rcases Int.le_total 0 u with q | q
  · have p1 := Int.mul_nonneg h1 q
    have p2 := Int.mul_le_mul_of_nonneg_right h2 q
    omega
  · have p1 := Int.mul_nonneg h1 (show 0 ≤ -u by omega)
    have p2 := Int.mul_le_mul_of_nonneg_right h2 (show 0 ≤ -u by omega)
    rw [Int.mul_neg] at p1 p2
    omega
/-- the model's condition that machine i fails -/
def zfails (i : Int) (g : pH) : Prop := Int.tmod (pm_ushr (pm_w ((pm_w ((g 249 11) * 1103515245)) + 12345)) 16) 1000 < ((s_X12_fail_1 g) 249 9) + (((s_X12_fail_1 g) 249 10) * (Int.tdiv ((s_X12_fail_1 g) 249 (20 + ((s_X12_fail_1 g) 249 (84 + i)))) 100))
theorem zs_ext {f g : Int → Int} {n : Nat} (h : ∀ i : Int, 0 ≤ i → i < n → g i = f i) : zs g (n + 1) = zs f n + g n := by
  show zs g n + g n = _
  rw [zs_congr (f := g) (g := f) (n := n) h]
set_option maxHeartbeats 2000000 in
theorem draw_rel (b i : Int) (h g : pH) (hi : 0 ≤ i ∧ i < 10) (hc : 0 ≤ g 249 (84 + i) ∧ g 249 (84 + i) < 12) (hx : -150022500 ≤ g 249 (20 + g 249 (84 + i)) ∧ g 249 (20 + g 249 (84 + i)) ≤ 100000000) (hl : zlots b h (g 249)) (hy : ylots (g 249)) :
    P_X5_draw (b + 42) (g 249 (20 + g 249 (84 + i))) h ∧ (F_X5_draw (b + 42) (g 249 (20 + g 249 (84 + i))) h = 0 ↔ ¬ zfails i g) ∧
    (∀ a, a ≠ b + 42 → a ≠ b + 43 → a ≠ b + 44 → H_X5_draw (b + 42) (g 249 (20 + g 249 (84 + i))) h a = h a) ∧ (∀ a, a ≠ 249 → s_X12_fail_7 i g a = g a) ∧ (∀ k : Int, k ≠ 11 → k ≠ 19 → (k < 500 ∨ 620 ≤ k) → s_X12_fail_7 i g 249 k = g 249 k) ∧
    zlots b (H_X5_draw (b + 42) (g 249 (20 + g 249 (84 + i))) h) (s_X12_fail_7 i g 249) ∧ ylots (s_X12_fail_7 i g 249) ∧
    ((fx_i (g 249 11)) ∧ (P_X12_at (84 + i) (s_X12_fail_1 g)) ∧ (fx_i (20 + ((s_X12_fail_1 g) 249 (84 + i)))) ∧ (0 ≤ 20 + ((s_X12_fail_1 g) 249 (84 + i)) ∧ 20 + ((s_X12_fail_1 g) 249 (84 + i)) < 620) ∧ (fx_l (Int.tdiv ((s_X12_fail_1 g) 249 (20 + ((s_X12_fail_1 g) 249 (84 + i)))) 100)) ∧ (fx_l (((s_X12_fail_1 g) 249 10) * (Int.tdiv ((s_X12_fail_1 g) 249 (20 + ((s_X12_fail_1 g) 249 (84 + i)))) 100))) ∧ (fx_l (((s_X12_fail_1 g) 249 9) + (((s_X12_fail_1 g) 249 10) * (Int.tdiv ((s_X12_fail_1 g) 249 (20 + ((s_X12_fail_1 g) 249 (84 + i)))) 100)))) ∧ ((((s_X12_fail_1 g) 249 19 < 60) → ((P_X12_at 19 (s_X12_fail_1 g)) ∧ (fx_i (500 + ((s_X12_fail_1 g) 249 19))) ∧ (0 ≤ 500 + ((s_X12_fail_1 g) 249 19) ∧ 500 + ((s_X12_fail_1 g) 249 19) < 620) ∧ (P_X12_at 19 (s_X12_fail_3 i g)) ∧ (fx_i (560 + ((s_X12_fail_3 i g) 249 19))) ∧ (0 ≤ 560 + ((s_X12_fail_3 i g) 249 19) ∧ 560 + ((s_X12_fail_3 i g) 249 19) < 620) ∧ (fx_l (((s_X12_fail_5 i g) 249 19) + 1)))))) := by
  obtain ⟨l0, l1, l2, l3, lk⟩ := hl
  obtain ⟨y0, y0', y1, y1', y2, y3, y3', yk⟩ := hy
  obtain ⟨c, hcc⟩ : ∃ c, c = g 249 (84 + i) := ⟨_, rfl⟩
  rw [← hcc] at hc hx ⊢
  obtain ⟨U, hU⟩ : ∃ U, U = Int.tdiv (g 249 (20 + c)) 100 := ⟨_, rfl⟩
  have Ub := hund_bd hx.1 hx.2
  rw [← hU] at Ub
  have Bb := mul_b y1 y1' Ub.1 Ub.2
  obtain ⟨N, hN⟩ : ∃ N, N = pm_w ((pm_w (g 249 11 * 1103515245)) + 12345) := ⟨_, rfl⟩
  have Nb : fx_i N := by rw [hN]; exact pm_w_i _
  obtain ⟨V, hV⟩ : ∃ V, V = fx_max 0 (fx_min U 9) := ⟨_, rfl⟩
  have m1 := fx_min_le U 9
  have m2 := fx_max_le 0 (fx_min U 9)
  have Vb : 0 ≤ V ∧ V ≤ 9 := by rw [hV]; omega
  have x1 : s_X5_draw_1 (b + 42) h = pm_upd h (b + 42) 2 N := by unfold s_X5_draw_1; rw [l2, hN]
  have x1c : ∀ a, a ≠ b + 42 → s_X5_draw_1 (b + 42) h a = h a := fun a ha => by rw [x1, up_cell _ ha]
  have x12 : s_X5_draw_1 (b + 42) h (b + 42) 2 = N := by rw [x1, up_eq]
  have x1k : ∀ k, k ≠ 2 → s_X5_draw_1 (b + 42) h (b + 42) k = h (b + 42) k := fun k hk => by rw [x1, up_pl _ hk]
  have g1 : s_X12_fail_1 g = pm_upd g 249 11 N := by unfold s_X12_fail_1; rw [hN]
  have g1k : ∀ k, k ≠ 11 → s_X12_fail_1 g 249 k = g 249 k := fun k hk => by rw [g1, up_pl _ hk]
  have g1c : ∀ a, a ≠ 249 → s_X12_fail_1 g a = g a := fun a ha => by rw [g1, up_cell _ ha]
  have g1d : s_X12_fail_1 g 249 (20 + s_X12_fail_1 g 249 (84 + i)) = g 249 (20 + c) := by rw [g1k (84 + i) (by omega), ← hcc, g1k _ (by omega)]
  have gz : zfails i g = (Int.tmod (pm_ushr N 16) 1000 < g 249 9 + g 249 10 * U) := by
    unfold zfails
    rw [← hN, g1k 9 (by omega), g1k 10 (by omega), g1d, ← hU]
  have g2 : s_X12_fail_2 i g = V := by
    unfold s_X12_fail_2
    rw [g1d, ← hU, less_min, hV]
    split <;> omega
  have g19 : s_X12_fail_1 g 249 19 = g 249 19 := g1k 19 (by omega)
  obtain ⟨n, hnn⟩ : ∃ n : Nat, g 249 19 = n := ⟨(g 249 19).toNat, by omega⟩
  rw [hnn, Int.toNat_natCast] at lk
  obtain ⟨fv, hfv⟩ : ∃ fv : Int, fv = if Int.tmod (pm_ushr N 16) 1000 < g 249 9 + g 249 10 * U then 1 else 0 := ⟨_, rfl⟩
  have g4 : s_X12_fail_4 i g = fv := by
    unfold s_X12_fail_4
    rw [← hN, g1k 9 (by omega), g1k 10 (by omega), g1d, ← hU, hfv]
  have g3 : s_X12_fail_3 i g = pm_upd (pm_upd g 249 11 N) 249 (500 + n) V := by unfold s_X12_fail_3; rw [g2, g19, hnn, g1]
  have fvb : fv = 0 ∨ fv = 1 := by rw [hfv]; split <;> omega
  obtain ⟨tg, htg⟩ : ∃ tg : Int, tg = if Int.tmod (pm_ushr N 16) 1000 < g 249 9 + g 249 10 * U then b + 43 else b + 44 := ⟨_, rfl⟩
  have tgb : (fv = 1 ∧ tg = b + 43) ∨ (fv = 0 ∧ tg = b + 44) := by rw [hfv, htg]; split <;> simp
  have xF : F_X5_draw (b + 42) (g 249 (20 + c)) h = fv := by
    unfold F_X5_draw
    rw [x12, x1k 0 (by omega), x1k 1 (by omega), l0, l1, ← hU, hfv]
  have ztg : 0 ≤ h tg V ∧ h tg V ≤ 60 := by
    have z1 := zs_bd (f := fun i => if g 249 (500 + i) = V ∧ g 249 (560 + i) = 1 then 1 else 0) (n := n) (lo := 0) (hi := 1) (fun i _ _ => by grind)
    have z2 := zs_bd (f := fun i => if g 249 (500 + i) = V ∧ ¬ g 249 (560 + i) = 1 then 1 else 0) (n := n) (lo := 0) (hi := 1) (fun i _ _ => by grind)
    have z3 := lk V Vb.1 (by omega)
    rcases tgb with ⟨_, e⟩ | ⟨_, e⟩ <;> rw [e]
    · rw [z3.1]; omega
    · rw [z3.2]; omega
  have x2 : s_X5_draw_2 (b + 42) (g 249 (20 + c)) h = pm_upd (pm_upd h (b + 42) 2 N) tg V (h tg V + 1) := by
    unfold s_X5_draw_2
    rw [x12, x1k 0 (by omega), x1k 1 (by omega), l0, l1, ← hU, ← hV, show b + 42 + 1 = b + 43 by omega, show b + 42 + 2 = b + 44 by omega, ← htg, x1c tg (by omega), x1]
  have x23 : s_X5_draw_2 (b + 42) (g 249 (20 + c)) h (b + 42) 3 = n := by rw [x2, up_cell _ (by omega), up_pl _ (by omega), l3, hnn]
  refine ⟨?_, ?_, ?_⟩
  · unfold P_X5_draw
    rw [← hU, ← hV, x1k 1 (by omega), x1k 0 (by omega), x1k 3 (by omega), l0, l1, l3, x12, x23, show b + 42 + 1 = b + 43 by omega, show b + 42 + 2 = b + 44 by omega, ← htg, x1c tg (by omega)]
    unfold fx_i
    exact ⟨by omega, by omega, by omega, fun _ => ⟨by omega, by omega, by omega⟩⟩
  · rw [xF, gz, hfv]
    by_cases c1 : Int.tmod (pm_ushr N 16) 1000 < g 249 9 + g 249 10 * U
    · rw [if_pos c1]; simp [c1]
    · rw [if_neg c1]; simp [c1]
  · have last : ((fx_i (g 249 11)) ∧ (P_X12_at (84 + i) (s_X12_fail_1 g)) ∧ (fx_i (20 + ((s_X12_fail_1 g) 249 (84 + i)))) ∧ (0 ≤ 20 + ((s_X12_fail_1 g) 249 (84 + i)) ∧ 20 + ((s_X12_fail_1 g) 249 (84 + i)) < 620) ∧ (fx_l (Int.tdiv ((s_X12_fail_1 g) 249 (20 + ((s_X12_fail_1 g) 249 (84 + i)))) 100)) ∧ (fx_l (((s_X12_fail_1 g) 249 10) * (Int.tdiv ((s_X12_fail_1 g) 249 (20 + ((s_X12_fail_1 g) 249 (84 + i)))) 100))) ∧ (fx_l (((s_X12_fail_1 g) 249 9) + (((s_X12_fail_1 g) 249 10) * (Int.tdiv ((s_X12_fail_1 g) 249 (20 + ((s_X12_fail_1 g) 249 (84 + i)))) 100)))) ∧ ((((s_X12_fail_1 g) 249 19 < 60) → ((P_X12_at 19 (s_X12_fail_1 g)) ∧ (fx_i (500 + ((s_X12_fail_1 g) 249 19))) ∧ (0 ≤ 500 + ((s_X12_fail_1 g) 249 19) ∧ 500 + ((s_X12_fail_1 g) 249 19) < 620) ∧ (P_X12_at 19 (s_X12_fail_3 i g)) ∧ (fx_i (560 + ((s_X12_fail_3 i g) 249 19))) ∧ (0 ≤ 560 + ((s_X12_fail_3 i g) 249 19) ∧ 560 + ((s_X12_fail_3 i g) 249 19) < 620) ∧ (fx_l (((s_X12_fail_5 i g) 249 19) + 1)))))) := by
      have e319 : s_X12_fail_3 i g 249 19 = n := by rw [g3, up_pl _ (by omega), up_pl _ (by omega), hnn]
      have e519 : s_X12_fail_5 i g 249 19 = n := by unfold s_X12_fail_5; rw [e319, up_pl _ (by omega), e319]
      unfold P_X12_at
      rw [g1d, ← hU, g1k (84 + i) (by omega), ← hcc, g1k 10 (by omega), g1k 9 (by omega), g19, hnn, e319, e519]
      unfold fx_i fx_l
      unfold fx_i at y2
      exact ⟨y2, by omega, by omega, by omega, by omega, by omega, by omega, fun _ => ⟨by omega, by omega, by omega, by omega, by omega, by omega, by omega⟩⟩
    by_cases hfull : (60 : Int) ≤ n
    · -- told enough
      have xH : H_X5_draw (b + 42) (g 249 (20 + c)) h = pm_upd h (b + 42) 2 N := by
        show s_X5_draw_4 _ _ _ = _
        unfold s_X5_draw_4
        rw [x1k 3 (by omega), l3, hnn, if_pos hfull, x1]
      have g7 : s_X12_fail_7 i g = pm_upd g 249 11 N := by
        unfold s_X12_fail_7
        rw [g19, hnn, if_pos hfull, g1]
      have gk : ∀ k : Int, k ≠ 11 → s_X12_fail_7 i g 249 k = g 249 k := fun k hk => by rw [g7, up_pl _ hk]
      refine ⟨fun a a1 a2 a3 => by rw [xH, up_cell _ a1], fun a a1 => by rw [g7, up_cell _ a1], fun k a1 a2 a3 => gk k a1, ?_, ?_, last⟩
      · refine ⟨?_, ?_, ?_, ?_, fun k a1 a2 => ?_⟩
        · rw [xH, up_pl _ (by omega), gk _ (by omega)]; exact l0
        · rw [xH, up_pl _ (by omega), gk _ (by omega)]; exact l1
        · rw [xH, up_eq, g7, up_eq]
        · rw [xH, up_pl _ (by omega), gk _ (by omega)]; exact l3
        · rw [xH, up_cell _ (by omega), up_cell _ (by omega), gk 19 (by omega), hnn, Int.toNat_natCast]
          have q := lk k a1 a2
          rw [q.1, q.2]
          exact ⟨zs_congr (fun j b1 b2 => by simp only [gk (500 + j) (by omega), gk (560 + j) (by omega)]), zs_congr (fun j b1 b2 => by simp only [gk (500 + j) (by omega), gk (560 + j) (by omega)])⟩
      · unfold ylots
        rw [gk 9 (by omega), gk 10 (by omega), gk 19 (by omega)]
        refine ⟨y0, y0', y1, y1', by rw [g7, up_eq]; exact Nb, y3, y3', fun j a1 a2 => ?_⟩
        rw [gk (500 + j) (by omega), gk (560 + j) (by omega)]
        exact yk j a1 a2
    · -- it is told
      have xH : H_X5_draw (b + 42) (g 249 (20 + c)) h = pm_upd (pm_upd (pm_upd h (b + 42) 2 N) tg V (h tg V + 1)) (b + 42) 3 (n + 1) := by
        show s_X5_draw_4 _ _ _ = _
        unfold s_X5_draw_4 s_X5_draw_3
        rw [x1k 3 (by omega), l3, hnn, if_neg hfull, x23, x2]
      have g319 : s_X12_fail_3 i g 249 19 = n := by rw [g3, up_pl _ (by omega), up_pl _ (by omega), hnn]
      have g5 : s_X12_fail_5 i g = pm_upd (pm_upd (pm_upd g 249 11 N) 249 (500 + n) V) 249 (560 + n) fv := by unfold s_X12_fail_5; rw [g4, g319, g3]
      have g519 : s_X12_fail_5 i g 249 19 = n := by rw [g5, up_pl _ (by omega), up_pl _ (by omega), up_pl _ (by omega), hnn]
      have g7 : s_X12_fail_7 i g = pm_upd (pm_upd (pm_upd (pm_upd g 249 11 N) 249 (500 + n) V) 249 (560 + n) fv) 249 19 (n + 1) := by
        unfold s_X12_fail_7 s_X12_fail_6
        rw [g19, hnn, if_neg hfull, g519, g5]
      have gk : ∀ k : Int, k ≠ 11 → k ≠ 19 → k ≠ 500 + n → k ≠ 560 + n → s_X12_fail_7 i g 249 k = g 249 k := fun k a1 a2 a3 a4 => by rw [g7, up_pl _ a2, up_pl _ a4, up_pl _ a3, up_pl _ a1]
      have g719 : s_X12_fail_7 i g 249 19 = (n + 1 : Nat) := by rw [g7, up_eq]; omega
      have g75 : s_X12_fail_7 i g 249 (500 + n) = V := by rw [g7, up_pl _ (by omega), up_pl _ (by omega), up_eq]
      have g76 : s_X12_fail_7 i g 249 (560 + n) = fv := by rw [g7, up_pl _ (by omega), up_eq]
      refine ⟨fun a a1 a2 a3 => by rw [xH, up_cell _ a1, up_cell _ (by omega), up_cell _ a1], fun a a1 => by rw [g7, up_cell _ a1, up_cell _ a1, up_cell _ a1, up_cell _ a1], fun k a1 a2 a3 => gk k a1 a2 (by omega) (by omega), ?_, ?_, last⟩
      · refine ⟨?_, ?_, ?_, ?_, fun k a1 a2 => ?_⟩
        · rw [xH, up_pl _ (by omega), up_cell _ (by omega), up_pl _ (by omega), gk _ (by omega) (by omega) (by omega) (by omega)]; exact l0
        · rw [xH, up_pl _ (by omega), up_cell _ (by omega), up_pl _ (by omega), gk _ (by omega) (by omega) (by omega) (by omega)]; exact l1
        · rw [xH, up_pl _ (by omega), up_cell _ (by omega), up_eq, g7, up_pl _ (by omega), up_pl _ (by omega), up_pl _ (by omega), up_eq]
        · rw [xH, up_eq, g719]; omega
        · rw [xH, up_cell _ (show b + 43 ≠ b + 42 by omega), up_cell _ (show b + 44 ≠ b + 42 by omega), g719, Int.toNat_natCast]
          have q := lk k a1 a2
          have e1 := zs_ext (f := fun i => if g 249 (500 + i) = k ∧ g 249 (560 + i) = 1 then (1 : Int) else 0) (g := fun j => if s_X12_fail_7 i g 249 (500 + j) = k ∧ s_X12_fail_7 i g 249 (560 + j) = 1 then (1 : Int) else 0) (n := n) (fun j b1 b2 => by simp only [gk (500 + j) (by omega) (by omega) (by omega) (by omega), gk (560 + j) (by omega) (by omega) (by omega) (by omega)])
          have e2 := zs_ext (f := fun i => if g 249 (500 + i) = k ∧ ¬ g 249 (560 + i) = 1 then (1 : Int) else 0) (g := fun j => if s_X12_fail_7 i g 249 (500 + j) = k ∧ ¬ s_X12_fail_7 i g 249 (560 + j) = 1 then (1 : Int) else 0) (n := n) (fun j b1 b2 => by simp only [gk (500 + j) (by omega) (by omega) (by omega) (by omega), gk (560 + j) (by omega) (by omega) (by omega) (by omega)])
          rw [e1, e2, ← q.1, ← q.2, g75, g76]
          rw [up_app _ tg V _ (b + 43) k, up_app _ tg V _ (b + 44) k, up_cell _ (show b + 43 ≠ b + 42 by omega), up_cell _ (show b + 44 ≠ b + 42 by omega)]
          rcases tgb with ⟨e3, e4⟩ | ⟨e3, e4⟩
          · rw [e3, e4]
            by_cases e5 : k = V
            · rw [e5]; simp
            · have e6 : ¬ V = k := fun q => e5 q.symm
              simp [e5, e6]
          · rw [e3, e4]
            by_cases e5 : k = V
            · rw [e5]; simp
            · have e6 : ¬ V = k := fun q => e5 q.symm
              simp [e5, e6]
      · unfold ylots
        rw [gk 9 (by omega) (by omega) (by omega) (by omega), gk 10 (by omega) (by omega) (by omega) (by omega), g719]
        refine ⟨y0, y0', y1, y1', ?_, by omega, by omega, fun j a1 a2 => ?_⟩
        · rw [g7, up_pl _ (by omega), up_pl _ (by omega), up_pl _ (by omega), up_eq]; exact Nb
        · by_cases e : j = n
          · rw [e, g75, g76]; omega
          · rw [gk (500 + j) (by omega) (by omega) (by omega) (by omega), gk (560 + j) (by omega) (by omega) (by omega) (by omega)]
            exact yk j a1 (by omega)
set_option maxHeartbeats 2000000 in
theorem fail_rel (b : Int) (h g : pH) (nm nw : Nat) (hn : h (b + 7) 10 = nm) (gn : g 249 12 = nm) (h10 : nm ≤ 10) (h16 : nw ≤ 16) (hz : zrunF b h g nm nw)
    (hm : ∀ m : Int, 0 ≤ m → m < nm → h (b + 8) m = g 249 (84 + m) ∧ 0 ≤ g 249 (84 + m) ∧ g 249 (84 + m) < 12 ∧ h (b + 14) m = g 249 (144 + m) ∧ 0 ≤ g 249 (144 + m) ∧ g 249 (144 + m) ≤ 1)
    (hc : ∀ c : Int, 0 ≤ c → c < 12 → h (b + 2) c = g 249 (20 + c) ∧ -150022500 ≤ g 249 (20 + c) ∧ g 249 (20 + c) ≤ 100000000)
    (hl : zlots b h (g 249)) (hy : ylots (g 249)) :
    P_X4_failMachines b h ∧ P_X12_fail g ∧ (∀ a, a ≠ b + 14 → a ≠ b + 34 → a ≠ b + 42 → a ≠ b + 43 → a ≠ b + 44 → H_X4_failMachines b h a = h a) ∧ (∀ a, a ≠ 249 → a ≠ 259 → H_X12_fail g a = g a) ∧ (∀ k : Int, k ≠ 11 → k ≠ 19 → (k < 144 ∨ 154 ≤ k) → (k < 500 ∨ 620 ≤ k) → H_X12_fail g 249 k = g 249 k) ∧
    zrunF b (H_X4_failMachines b h) (H_X12_fail g) nm nw ∧ (∀ m : Int, 0 ≤ m → m < nm → H_X4_failMachines b h (b + 14) m = H_X12_fail g 249 (144 + m) ∧ 0 ≤ H_X12_fail g 249 (144 + m) ∧ H_X12_fail g 249 (144 + m) ≤ 1) ∧ zlots b (H_X4_failMachines b h) (H_X12_fail g 249) ∧ ylots (H_X12_fail g 249) := by
  have key := fx_rel (σ := Int × pH) (c := (fun s => C_X4_failMachines_2 b s.1 s.2)) (f := (fun s => B_X4_failMachines_2 b s.1 s.2)) (P := (fun s => P_X4_failMachines_2 b s.1 s.2)) (s0 := (0, h)) (τ := Int × pH) (d := (fun s => C_X12_fail_2 s.1 s.2)) (g := (fun s => B_X12_fail_2 s.1 s.2)) (P' := (fun s => P_X12_fail_2 s.1 s.2)) (t0 := (0, g)) nm (fun i s t => s.1 = i ∧ t.1 = i ∧ i ≤ nm ∧
    (∀ a, a ≠ b + 14 → a ≠ b + 34 → a ≠ b + 42 → a ≠ b + 43 → a ≠ b + 44 → s.2 a = h a) ∧ (∀ a, a ≠ 249 → a ≠ 259 → t.2 a = g a) ∧ (∀ k : Int, k ≠ 11 → k ≠ 19 → (k < 144 ∨ 154 ≤ k) → (k < 500 ∨ 620 ≤ k) → t.2 249 k = g 249 k) ∧
    zrunF b s.2 t.2 nm nw ∧ (∀ m : Int, 0 ≤ m → m < nm → s.2 (b + 14) m = t.2 249 (144 + m) ∧ 0 ≤ t.2 249 (144 + m) ∧ t.2 249 (144 + m) ≤ 1) ∧ zlots b s.2 (t.2 249) ∧ ylots (t.2 249))
    ⟨rfl, rfl, by omega, fun _ _ _ _ _ _ => rfl, fun _ _ _ => rfl, fun _ _ _ _ _ => rfl, hz, fun m a1 a2 => (hm m a1 a2).2.2.2, hl, hy⟩ ?_ ?_
  · obtain ⟨k1, k2, k3, k4, k5, k6⟩ := key
    exact ⟨k1, k2, k6⟩
  · rintro i ⟨x, h'⟩ ⟨y, g'⟩ hi ⟨hx, hy', hi2, f1, f2, f3, zr, fm, zl, yl⟩
    simp only at hx hy' f1 f2 f3 zr fm zl yl
    subst hx; subst hy'
    have q := zr.1 i (by omega) (by omega)
    have qm := hm i (by omega) (by omega)
    obtain ⟨c, hcc⟩ : ∃ c, c = g 249 (84 + i) := ⟨_, rfl⟩
    rw [← hcc] at qm
    have qc := hc c qm.2.1 qm.2.2.1
    have e8 : h' (b + 8) i = c := by rw [f1 _ (by omega) (by omega) (by omega) (by omega) (by omega)]; exact qm.1
    have e2 : h' (b + 2) c = g 249 (20 + c) := by rw [f1 _ (by omega) (by omega) (by omega) (by omega) (by omega)]; exact qc.1
    have e10 : h' (b + 7) 10 = nm := by rw [f1 _ (by omega) (by omega) (by omega) (by omega) (by omega)]; exact hn
    have k12 : g' 249 12 = nm := by rw [f3 _ (by omega) (by omega) (by omega) (by omega)]; exact gn
    have k84 : g' 249 (84 + i) = c := by rw [f3 _ (by omega) (by omega) (by omega) (by omega), hcc]
    have k20 : g' 249 (20 + c) = g 249 (20 + c) := f3 _ (by omega) (by omega) (by omega) (by omega)
    by_cases hr : g' 249 (164 + i) ≤ 0
    · -- it doesn't run
      have bx : s_X4_failMachines_3 b i h' = h' := by
        unfold s_X4_failMachines_3
        rw [q.2.1]
        by_cases c1 : h' (b + 15) i = -1
        · rw [if_pos c1]
        · rw [if_neg c1, if_pos hr]
      have by_ : s_X12_fail_9 i g' = g' := by unfold s_X12_fail_9; rw [if_pos hr]
      simp only [P_X4_failMachines_2, C_X4_failMachines_2, B_X4_failMachines_2, P_X12_fail_2, C_X12_fail_2, B_X12_fail_2, bx, by_, q.2.1, e10, k12, fx_i]
      exact ⟨⟨fun _ => ⟨by omega, fun _ q2 => absurd q2 (by omega), by omega⟩, by omega⟩, ⟨fun _ => ⟨by omega, by omega, fun q2 => absurd q2 (by omega), by omega⟩, by omega⟩, by omega, by omega, by omega, f1, f2, f3, zr, fm, zl, yl⟩
    · -- it runs
      obtain ⟨w, hw⟩ : ∃ w, w = g' 249 (154 + i) := ⟨_, rfl⟩
      have q2 : 0 ≤ w ∧ w < nw ∧ g' 249 (344 + w) = i ∧ (g' 259 w = 0 ∨ g' 259 w = 5) := by
        rcases q.2.2.2.2 with z | ⟨z1, z2, z3, z4⟩
        · omega
        · rw [hw]; exact ⟨z1, z2, z3, z4.mp (by omega)⟩
      have e15 : h' (b + 15) i = w := by rw [q.1, hw]
      have dr := draw_rel b i h' g' (by omega) (by rw [k84]; exact ⟨qm.2.1, qm.2.2.1⟩) (by rw [k84, k20]; exact qc.2) zl yl
      rw [k84, k20] at dr
      obtain ⟨d1, d2, d3, d4, d5, d6, d7, d8⟩ := dr
      obtain ⟨hD, hhD⟩ : ∃ q, q = H_X5_draw (b + 42) (g 249 (20 + c)) h' := ⟨_, rfl⟩
      obtain ⟨gD, hgD⟩ : ∃ q, q = s_X12_fail_7 i g' := ⟨_, rfl⟩
      rw [← hhD] at d3 d6
      rw [← hgD] at d4 d5 d6 d7
      have k154 : gD 249 (154 + i) = w := by rw [d5 _ (by omega) (by omega) (by omega), hw]
      by_cases hF : zfails i g'
      · -- it fails
        have xF : ¬ F_X5_draw (b + 42) (g 249 (20 + c)) h' = 0 := fun z => (d2.mp z) hF
        have bx : s_X4_failMachines_3 b i h' = pm_upd (pm_upd hD (b + 14) i 1) (b + 34) w 5 := by
          unfold s_X4_failMachines_3 s_X4_failMachines_2 s_X4_failMachines_1
          rw [e15, if_neg (by omega), q.2.1, if_neg hr, e8, e2, if_neg xF, hhD]
        have by_ : s_X12_fail_9 i g' = pm_upd (pm_upd gD 249 (144 + i) 1) 259 w 5 := by
          unfold s_X12_fail_9 s_X12_fail_8
          have hF' := hF
          unfold zfails at hF'
          rw [if_neg hr, if_pos hF', ← hgD, up_pl _ (show 154 + (i : Int) ≠ 144 + i by omega), k154]
        refine ⟨⟨?_, ?_⟩, ⟨?_, ?_⟩, ?_⟩
        · simp only [P_X4_failMachines_2, C_X4_failMachines_2, B_X4_failMachines_2, e15, e8, e2, fx_i]
          exact fun _ => ⟨by omega, fun _ _ => ⟨by omega, d1, fun _ => by omega⟩, by omega⟩
        · simp only [P_X4_failMachines_2, C_X4_failMachines_2, B_X4_failMachines_2, e10]; omega
        · simp only [P_X12_fail_2, C_X12_fail_2, B_X12_fail_2]
          intro _
          refine ⟨fx_ii (by omega) (by omega), by omega, fun _ => ⟨d8.1, fx_ii (by omega) (by omega), d8.2.1, d8.2.2.1, d8.2.2.2.1, d8.2.2.2.2.1, d8.2.2.2.2.2.1, d8.2.2.2.2.2.2.1, d8.2.2.2.2.2.2.2, fun _ => ?_⟩, fx_ii (by omega) (by omega)⟩
          rw [← hgD]
          unfold P_X12_at fx_i
          rw [up_pl _ (show 154 + (i : Int) ≠ 144 + i by omega), k154]
          omega
        · simp only [P_X12_fail_2, C_X12_fail_2, B_X12_fail_2, k12]; omega
        · simp only [P_X4_failMachines_2, C_X4_failMachines_2, B_X4_failMachines_2, P_X12_fail_2, C_X12_fail_2, B_X12_fail_2, bx, by_]
          have gk : ∀ k : Int, k ≠ 144 + i → pm_upd (pm_upd gD 249 (144 + i) 1) 259 w 5 249 k = gD 249 k := fun k hk => by rw [up_cell _ (by omega), up_pl _ hk]
          have hk : ∀ a, a ≠ b + 14 → a ≠ b + 34 → pm_upd (pm_upd hD (b + 14) i 1) (b + 34) w 5 a = hD a := fun a a1 a2 => by rw [up_cell _ a2, up_cell _ a1]
          refine ⟨by omega, by omega, by omega, fun a a1 a2 a3 a4 a5 => ?_, fun a a1 a2 => ?_, fun k a1 a2 a3 a4 => ?_, ⟨fun m a1 a2 => ?_, fun v a1 a2 => ?_⟩, fun m a1 a2 => ?_, ?_, ?_⟩
          · rw [up_cell _ a2, up_cell _ a1, d3 a a3 a4 a5]; exact f1 a a1 a2 a3 a4 a5
          · rw [up_cell _ a2, up_cell _ a1, d4 a a1]; exact f2 a a1 a2
          · rw [gk k (by omega), d5 k a1 a2 a4]; exact f3 k a1 a2 a3 a4
          · have z := zr.1 m a1 a2
            rw [hk (b + 15) (by omega) (by omega), hk (b + 16) (by omega) (by omega), d3 (b + 15) (by omega) (by omega) (by omega), d3 (b + 16) (by omega) (by omega) (by omega), gk (154 + m) (by omega), gk (164 + m) (by omega), d5 (154 + m) (by omega) (by omega) (by omega), d5 (164 + m) (by omega) (by omega) (by omega)]
            refine ⟨z.1, z.2.1, z.2.2.1, z.2.2.2.1, ?_⟩
            rcases z.2.2.2.2 with y | ⟨y1, y2, y3, y4⟩
            · exact Or.inl y
            · rw [gk _ (by omega), d5 _ (by omega) (by omega) (by omega), up_app, up_cell _ (show (259 : Int) ≠ 249 by omega), d4 259 (by omega)]
              refine Or.inr ⟨y1, y2, y3, ?_⟩
              by_cases e : g' 249 (154 + m) = w
              · rw [e] at y3 y4 ⊢
                rw [if_pos ⟨rfl, rfl⟩]
                have := y4.mpr q2.2.2.2
                omega
              · rw [if_neg (fun q => e q.2)]; exact y4
          · have z := zr.2 v a1 a2
            rw [up_app, up_cell _ (show b + 35 ≠ b + 34 by omega), up_cell _ (show b + 35 ≠ b + 14 by omega), up_cell _ (show b + 34 ≠ b + 14 by omega), d3 (b + 34) (by omega) (by omega) (by omega), d3 (b + 35) (by omega) (by omega) (by omega), gk (344 + v) (by omega), d5 (344 + v) (by omega) (by omega) (by omega), up_app, up_cell _ (show (259 : Int) ≠ 249 by omega), d4 259 (by omega), up_cell _ (show (263 : Int) ≠ 259 by omega), up_cell _ (show (263 : Int) ≠ 249 by omega), d4 263 (by omega)]
            have z5 : g' 249 (344 + v) = -1 ∨ 0 ≤ g' 249 (344 + v) ∧ g' 249 (344 + v) < nm ∧ pm_upd (pm_upd gD 249 (144 + i) 1) 259 w 5 249 (154 + g' 249 (344 + v)) = v := by
              rcases z.2.2.2.2.1 with y | ⟨y1, y2, y3⟩
              · exact Or.inl y
              · rw [gk _ (by omega), d5 _ (by omega) (by omega) (by omega)]; exact Or.inr ⟨y1, y2, y3⟩
            by_cases e : v = w
            · rw [e] at z z5 ⊢
              rw [if_pos ⟨rfl, rfl⟩, if_pos ⟨rfl, rfl⟩]
              rw [if_pos q2.2.2.2] at z
              rw [if_pos (Or.inr rfl)]
              exact ⟨rfl, z.2.1, by omega, by omega, z5, by omega, z.2.2.2.2.2.2⟩
            · rw [if_neg (fun q => e q.2), if_neg (fun q => e q.2)]
              exact ⟨z.1, z.2.1, z.2.2.1, z.2.2.2.1, z5, z.2.2.2.2.2.1, z.2.2.2.2.2.2⟩
          · have z := fm m a1 a2
            rw [up_cell _ (show b + 14 ≠ b + 34 by omega)]
            by_cases e : m = i
            · rw [e, up_eq, up_cell _ (by omega), up_eq]; omega
            · rw [up_pl _ e, gk _ (by omega), d3 (b + 14) (by omega) (by omega) (by omega), d5 (144 + m) (by omega) (by omega) (by omega)]; exact z
          · obtain ⟨l0, l1, l2, l3, lk⟩ := d6
            refine ⟨?_, ?_, ?_, ?_, fun k a1 a2 => ?_⟩
            · rw [up_cell _ (by omega), up_cell _ (by omega), gk _ (by omega)]; exact l0
            · rw [up_cell _ (by omega), up_cell _ (by omega), gk _ (by omega)]; exact l1
            · rw [up_cell _ (by omega), up_cell _ (by omega), gk _ (by omega)]; exact l2
            · rw [up_cell _ (by omega), up_cell _ (by omega), gk _ (by omega)]; exact l3
            · have z := lk k a1 a2
              have d7' := d7
              unfold ylots at d7'
              rw [hk (b + 43) (by omega) (by omega), hk (b + 44) (by omega) (by omega), gk 19 (by omega), z.1, z.2]
              exact ⟨zs_congr (fun j b1 b2 => by simp only [gk (500 + j) (by omega), gk (560 + j) (by omega)]), zs_congr (fun j b1 b2 => by simp only [gk (500 + j) (by omega), gk (560 + j) (by omega)])⟩
          · unfold ylots at d7 ⊢
            rw [gk 9 (by omega), gk 10 (by omega), gk 11 (by omega), gk 19 (by omega)]
            obtain ⟨y0, y0', y1, y1', y2, y3, y3', yk⟩ := d7
            exact ⟨y0, y0', y1, y1', y2, y3, y3', fun j a1 a2 => by rw [gk _ (by omega), gk _ (by omega)]; exact yk j a1 a2⟩
      · -- it goes on
        have xF : F_X5_draw (b + 42) (g 249 (20 + c)) h' = 0 := d2.mpr hF
        have bx : s_X4_failMachines_3 b i h' = hD := by
          unfold s_X4_failMachines_3
          rw [e15, if_neg (by omega), q.2.1, if_neg hr, e8, e2, if_pos xF, hhD]
        have by_ : s_X12_fail_9 i g' = gD := by
          unfold s_X12_fail_9
          have hF' := hF
          unfold zfails at hF'
          rw [if_neg hr, if_neg hF', ← hgD]
        refine ⟨⟨?_, ?_⟩, ⟨?_, ?_⟩, ?_⟩
        · simp only [P_X4_failMachines_2, C_X4_failMachines_2, B_X4_failMachines_2, e15, e8, e2, fx_i]
          exact fun _ => ⟨by omega, fun _ _ => ⟨by omega, d1, fun _ => by omega⟩, by omega⟩
        · simp only [P_X4_failMachines_2, C_X4_failMachines_2, B_X4_failMachines_2, e10]; omega
        · simp only [P_X12_fail_2, C_X12_fail_2, B_X12_fail_2]
          intro _
          exact ⟨fx_ii (by omega) (by omega), by omega, fun _ => ⟨d8.1, fx_ii (by omega) (by omega), d8.2.1, d8.2.2.1, d8.2.2.2.1, d8.2.2.2.2.1, d8.2.2.2.2.2.1, d8.2.2.2.2.2.2.1, d8.2.2.2.2.2.2.2, fun z => absurd z hF⟩, fx_ii (by omega) (by omega)⟩
        · simp only [P_X12_fail_2, C_X12_fail_2, B_X12_fail_2, k12]; omega
        · simp only [P_X4_failMachines_2, C_X4_failMachines_2, B_X4_failMachines_2, P_X12_fail_2, C_X12_fail_2, B_X12_fail_2, bx, by_]
          refine ⟨by omega, by omega, by omega, fun a a1 a2 a3 a4 a5 => ?_, fun a a1 a2 => ?_, fun k a1 a2 a3 a4 => ?_, ⟨fun m a1 a2 => ?_, fun v a1 a2 => ?_⟩, fun m a1 a2 => ?_, d6, d7⟩
          · rw [d3 a a3 a4 a5]; exact f1 a a1 a2 a3 a4 a5
          · rw [d4 a a1]; exact f2 a a1 a2
          · rw [d5 k a1 a2 a4]; exact f3 k a1 a2 a3 a4
          · have z := zr.1 m a1 a2
            rw [d3 (b + 15) (by omega) (by omega) (by omega), d3 (b + 16) (by omega) (by omega) (by omega), d5 (154 + m) (by omega) (by omega) (by omega), d5 (164 + m) (by omega) (by omega) (by omega), d4 259 (by omega)]
            refine ⟨z.1, z.2.1, z.2.2.1, z.2.2.2.1, ?_⟩
            rcases z.2.2.2.2 with y | ⟨y1, y2, y3, y4⟩
            · exact Or.inl y
            · rw [d5 _ (by omega) (by omega) (by omega)]; exact Or.inr ⟨y1, y2, y3, y4⟩
          · have z := zr.2 v a1 a2
            rw [d3 (b + 34) (by omega) (by omega) (by omega), d3 (b + 35) (by omega) (by omega) (by omega), d5 (344 + v) (by omega) (by omega) (by omega), d4 259 (by omega), d4 263 (by omega)]
            refine ⟨z.1, z.2.1, z.2.2.1, z.2.2.2.1, ?_, z.2.2.2.2.2⟩
            rcases z.2.2.2.2.1 with y | ⟨y1, y2, y3⟩
            · exact Or.inl y
            · rw [d5 _ (by omega) (by omega) (by omega)]; exact Or.inr ⟨y1, y2, y3⟩
          · rw [d3 (b + 14) (by omega) (by omega) (by omega), d5 (144 + m) (by omega) (by omega) (by omega)]; exact fm m a1 a2
  · rintro ⟨x, h'⟩ ⟨y, g'⟩ ⟨hx, hy', hi2, f1, f2, f3, -⟩
    simp only at hx hy' f1 f3
    subst hx; subst hy'
    have e10 : h' (b + 7) 10 = nm := by rw [f1 _ (by omega) (by omega) (by omega) (by omega) (by omega)]; exact hn
    have k12 : g' 249 12 = nm := by rw [f3 _ (by omega) (by omega) (by omega) (by omega)]; exact gn
    simp only [P_X4_failMachines_2, C_X4_failMachines_2, B_X4_failMachines_2, P_X12_fail_2, C_X12_fail_2, B_X12_fail_2, e10, k12]
    omega
