/-! Heat: machines warm, cells exchange, coolers take. -/
theorem prod_bd2 {r d : Int} (h1 : 0 ≤ r) (h2 : r ≤ 3) (h3 : 0 ≤ d) (h4 : d ≤ 500) : 0 ≤ r * d ∧ r * d ≤ 1500 := by
  have := prod_bd h1 h2 h3 h4; omega
theorem part_bd {x a : Int} (h1 : 0 ≤ a) (h2 : a ≤ 200) (hx : -1000000000 ≤ x ∧ x ≤ 1000000000) : (0 ≤ x → 0 ≤ Int.tdiv (x * a) 1000 ∧ 5 * Int.tdiv (x * a) 1000 ≤ x) ∧ (x ≤ 0 → Int.tdiv (x * a) 1000 ≤ 0 ∧ x ≤ 5 * Int.tdiv (x * a) 1000) ∧ -200000000000 ≤ x * a ∧ x * a ≤ 200000000000 := by
  rcases Int.le_total 0 x with q | q
  · have p1 := Int.mul_nonneg q h1
    have p2 := Int.mul_le_mul_of_nonneg_left h2 q
    have e := Int.tdiv_eq_ediv_of_nonneg (b := 1000) p1
    rw [e]
    omega
  · have q' : 0 ≤ -x := by omega
    have p1 := Int.mul_nonneg q' h1
    have p2 := Int.mul_le_mul_of_nonneg_left h2 q'
    have e := Int.tdiv_eq_ediv_of_nonneg (b := 1000) p1
    rw [Int.neg_mul] at p1 p2 e
    rw [Int.neg_tdiv] at e
    rw [show x * a = -(-(x * a)) by omega, Int.neg_tdiv, Int.neg_tdiv, e]
    omega
theorem part_bd5 {x a : Int} (h1 : 0 ≤ a) (h2 : a ≤ 500) (hx : -1000000000 ≤ x ∧ x ≤ 1000000000) : (0 ≤ x → 0 ≤ Int.tdiv (x * a) 1000 ∧ 2 * Int.tdiv (x * a) 1000 ≤ x) ∧ (x ≤ 0 → Int.tdiv (x * a) 1000 ≤ 0 ∧ x ≤ 2 * Int.tdiv (x * a) 1000) ∧ -500000000000 ≤ x * a ∧ x * a ≤ 500000000000 := by
  rcases Int.le_total 0 x with q | q
  · have p1 := Int.mul_nonneg q h1
    have p2 := Int.mul_le_mul_of_nonneg_left h2 q
    have e := Int.tdiv_eq_ediv_of_nonneg (b := 1000) p1
    rw [e]
    omega
  · have q' : 0 ≤ -x := by omega
    have p1 := Int.mul_nonneg q' h1
    have p2 := Int.mul_le_mul_of_nonneg_left h2 q'
    have e := Int.tdiv_eq_ediv_of_nonneg (b := 1000) p1
    rw [Int.neg_mul] at p1 p2 e
    rw [Int.neg_tdiv] at e
    rw [show x * a = -(-(x * a)) by omega, Int.neg_tdiv, Int.neg_tdiv, e]
    omega
theorem warm1 (b : Int) (h g : pH) (nm : Nat) (hn : h (b + 7) 10 = nm) (gn : g 249 12 = nm) (h10 : nm ≤ 10)
    (hm : ∀ m : Int, 0 ≤ m → m < nm → h (b + 8) m = g 249 (84 + m) ∧ 0 ≤ g 249 (84 + m) ∧ g 249 (84 + m) < 12 ∧ h (b + 16) m = g 249 (164 + m) ∧ 0 ≤ g 249 (164 + m) ∧ g 249 (164 + m) ≤ 3 ∧ h (b + 9) m = g 249 (94 + m) ∧ 0 ≤ g 249 (94 + m) ∧ g 249 (94 + m) ≤ 500)
    (hc : ∀ c : Int, 0 ≤ c → c < 12 → h (b + 2) c = g 249 (20 + c) ∧ -150022500 ≤ g 249 (20 + c) ∧ g 249 (20 + c) ≤ 100000000) :
    P_X6_warm (b + 7) (b + 1) h ∧ O_X12_warm_2 0 g ∧ (∀ a, a ≠ b + 2 → H_X6_warm (b + 7) (b + 1) h a = h a) ∧ (∀ a, a ≠ 249 → (L_X12_warm_2 0 g).2 a = g a) ∧ (∀ k : Int, k < 20 ∨ 32 ≤ k → (L_X12_warm_2 0 g).2 249 k = g 249 k) ∧
    ∀ c : Int, 0 ≤ c → c < 12 → H_X6_warm (b + 7) (b + 1) h (b + 2) c = (L_X12_warm_2 0 g).2 249 (20 + c) ∧ -150022500 ≤ (L_X12_warm_2 0 g).2 249 (20 + c) ∧ (L_X12_warm_2 0 g).2 249 (20 + c) ≤ 100015000 := by
  have key := fx_rel (σ := Int × pH) (c := (fun s => C_X6_warm_2 (b + 7) (b + 1) s.1 s.2)) (f := (fun s => B_X6_warm_2 (b + 7) (b + 1) s.1 s.2)) (P := (fun s => P_X6_warm_2 (b + 7) (b + 1) s.1 s.2)) (s0 := (0, h)) (τ := Int × pH) (d := (fun s => C_X12_warm_2 s.1 s.2)) (g := (fun s => B_X12_warm_2 s.1 s.2)) (P' := (fun s => P_X12_warm_2 s.1 s.2)) (t0 := (0, g)) nm (fun i s t => s.1 = i ∧ t.1 = i ∧ i ≤ nm ∧ (∀ a, a ≠ b + 2 → s.2 a = h a) ∧ (∀ a, a ≠ 249 → t.2 a = g a) ∧ (∀ k : Int, k < 20 ∨ 32 ≤ k → t.2 249 k = g 249 k) ∧
    ∀ c : Int, 0 ≤ c → c < 12 → s.2 (b + 2) c = t.2 249 (20 + c) ∧ -150022500 ≤ t.2 249 (20 + c) ∧ t.2 249 (20 + c) ≤ 100000000 + 1500 * i)
    ⟨rfl, rfl, by omega, fun _ _ => rfl, fun _ _ => rfl, fun _ _ => rfl, fun c a1 a2 => by have := hc c a1 a2; simp only; omega⟩ ?_ ?_
  · obtain ⟨k1, k2, k3, k4, k5, k6, k7, k8, k9⟩ := key
    exact ⟨k1, k2, k6, k7, k8, fun c a1 a2 => by have q := k9 c a1 a2; exact ⟨q.1, q.2.1, Int.le_trans q.2.2 (by omega)⟩⟩
  · rintro i ⟨x, h'⟩ ⟨y, g'⟩ hi ⟨hx, hy, hi2, f1, f2, f3, fc⟩
    simp only at hx hy f1 f2 f3 fc
    subst hx; subst hy
    have q := hm i (by omega) (by omega)
    obtain ⟨c, hcc⟩ : ∃ c, c = g 249 (84 + i) := ⟨_, rfl⟩
    rw [← hcc] at q
    have qc := fc c q.2.1 q.2.2.1
    have pb := prod_bd2 q.2.2.2.2.1 q.2.2.2.2.2.1 q.2.2.2.2.2.2.2.1 q.2.2.2.2.2.2.2.2
    have e1 : h' (b + 7 + 1) i = c := by rw [show b + 7 + 1 = b + 8 by omega, f1 _ (by omega)]; exact q.1
    have e9 : h' (b + 7 + 9) i = g 249 (164 + i) := by rw [show b + 7 + 9 = b + 16 by omega, f1 _ (by omega)]; exact q.2.2.2.1
    have e2 : h' (b + 7 + 2) i = g 249 (94 + i) := by rw [show b + 7 + 2 = b + 9 by omega, f1 _ (by omega)]; exact q.2.2.2.2.2.2.1
    have e10 : h' (b + 7) 10 = nm := by rw [f1 _ (by omega)]; exact hn
    have k12 : g' 249 12 = nm := by rw [f3 _ (by omega)]; exact gn
    have k84 : g' 249 (84 + i) = c := by rw [f3 _ (by omega), hcc]
    have k164 : g' 249 (164 + i) = g 249 (164 + i) := f3 _ (by omega)
    have k94 : g' 249 (94 + i) = g 249 (94 + i) := f3 _ (by omega)
    simp only [P_X6_warm_2, C_X6_warm_2, B_X6_warm_2, P_X12_warm_2, C_X12_warm_2, B_X12_warm_2, s_X6_warm_1, s_X12_warm_1, P_X12_at, e1, e9, e2, e10, k12, k84, k164, k94, fx_i, fx_l, show b + 1 + 1 = b + 2 by omega]
    generalize g 249 (164 + i) * g 249 (94 + i) = p at *
    refine ⟨⟨fun _ => ⟨by omega, by omega, by omega, by omega, by omega⟩, by omega⟩, ⟨fun _ => ⟨by omega, by omega, by omega, by omega, by omega, by omega, by omega, by omega, by omega, by omega, by omega⟩, by omega⟩, by omega, by omega, by omega, fun a a1 => ?_, fun a a1 => ?_, fun k a1 => ?_, fun v a1 a2 => ?_⟩
    · rw [up_cell _ a1]; exact f1 a a1
    · rw [up_cell _ a1]; exact f2 a a1
    · rw [up_pl _ (by omega)]; exact f3 k a1
    · have qv := fc v a1 a2
      by_cases e : v = c
      · rw [e, up_eq, up_eq]; omega
      · rw [up_pl _ e, up_pl _ (by omega)]; omega
  · rintro ⟨x, h'⟩ ⟨y, g'⟩ ⟨hx, hy, hi2, f1, f2, f3, -⟩
    simp only at hx hy f1 f3
    subst hx; subst hy
    have e10 : h' (b + 7) 10 = nm := by rw [f1 _ (by omega)]; exact hn
    have k12 : g' 249 12 = nm := by rw [f3 _ (by omega)]; exact gn
    simp only [P_X6_warm_2, C_X6_warm_2, B_X6_warm_2, P_X12_warm_2, C_X12_warm_2, B_X12_warm_2, e10, k12]
    omega
/-- while cells exchange: a is the air's base; n tells how often a cell has exchanged -/
def zexch (a : Int) (h0 g0 h g : pH) (n : Int → Int) : Prop :=
  (∀ q, q ≠ a + 5 → h q = h0 q) ∧ (∀ q, q ≠ 262 → g q = g0 q) ∧ ∀ c : Int, 0 ≤ c → c < 12 → h (a + 5) c = g0 249 (20 + c) + g 262 c ∧
    (-5 * (g 262 c + Int.tdiv ((g0 249 (20 + c) - g0 249 0) * g0 249 1) 1000) ≤ n c * (g0 249 (20 + c) + 150022500)) ∧ (5 * (g 262 c + Int.tdiv ((g0 249 (20 + c) - g0 249 0) * g0 249 1) 1000) ≤ n c * (100015000 - g0 249 (20 + c)))
/-- heat, walls, air: of both sides -/
def zheat (a : Int) (h g : pH) : Prop := h a 5 = g 249 0 ∧ h a 6 = g 249 1 ∧ h a 7 = g 249 2 ∧ 0 ≤ g 249 0 ∧ g 249 0 ≤ 500 ∧ 0 ≤ g 249 1 ∧ g 249 1 ≤ 500 ∧ 0 ≤ g 249 2 ∧ g 249 2 ≤ 200 ∧
  ∀ c : Int, 0 ≤ c → c < 12 → h (a + 1) c = g 249 (20 + c) ∧ -150022500 ≤ g 249 (20 + c) ∧ g 249 (20 + c) ≤ 100015000
theorem mul_four {n d : Int} (h1 : 0 ≤ n) (h2 : n ≤ 4) (h3 : 0 ≤ d) : 0 ≤ n * d ∧ n * d ≤ 4 * d := ⟨Int.mul_nonneg h1 h3, Int.mul_le_mul_of_nonneg_right h2 h3⟩
theorem exch_rel (a i j : Int) (h0 g0 h g : pH) (n : Int → Int) (hq : zheat a h0 g0) (hz : zexch a h0 g0 h g n) (hi : 0 ≤ i ∧ i < 12) (hj : 0 ≤ j ∧ j < 12) (ne : i ≠ j) (hn : ∀ c : Int, 0 ≤ c → c < 12 → 0 ≤ n c ∧ n c ≤ 4) :
    P_X0_exchange a i j h ∧ P_X12_exchange i j g ∧ zexch a h0 g0 (H_X0_exchange a i j h) (H_X12_exchange i j g) (fun c => if c = i ∨ c = j then n c + 1 else n c) := by
  obtain ⟨q5, q6, q7, o1, o2, w1, w2, v1, v2, qc⟩ := hq
  obtain ⟨z1, z2, zc⟩ := hz
  have ci := qc i hi.1 hi.2
  have cj := qc j hj.1 hj.2
  obtain ⟨hi_, hhi⟩ : ∃ q, q = g0 249 (20 + i) := ⟨_, rfl⟩
  obtain ⟨hj_, hhj⟩ : ∃ q, q = g0 249 (20 + j) := ⟨_, rfl⟩
  rw [← hhi] at ci
  rw [← hhj] at cj
  have e1 : h (a + 1) = h0 (a + 1) := z1 _ (by omega)
  have ea : h a = h0 a := z1 _ (by omega)
  have e9 : g 249 = g0 249 := z2 _ (by omega)
  have pb := part_bd (x := hi_ - hj_) v1 v2 (by omega)
  obtain ⟨E, hE⟩ : ∃ q, q = Int.tdiv ((hi_ - hj_) * g0 249 2) 1000 := ⟨_, rfl⟩
  rw [← hE] at pb
  have bE : -50007500 ≤ E ∧ E ≤ 50007500 ∧ 5 * E ≤ hi_ + 150022500 ∧ -5 * E ≤ hj_ + 150022500 ∧ -5 * E ≤ 100015000 - hi_ ∧ 5 * E ≤ 100015000 - hj_ := by omega
  -- bounds of what stands there
  have bd : ∀ c : Int, 0 ≤ c → c < 12 → -400000000 ≤ g 262 c ∧ g 262 c ≤ 400000000 ∧ h (a + 5) c = g0 249 (20 + c) + g 262 c := by
    intro c a1 a2
    have y := zc c a1 a2
    have t := qc c a1 a2
    have nb := hn c a1 a2
    have m1 := mul_four nb.1 nb.2 (show 0 ≤ g0 249 (20 + c) + 150022500 by omega)
    have m2 := mul_four nb.1 nb.2 (show 0 ≤ 100015000 - g0 249 (20 + c) by omega)
    have p5 := part_bd5 (x := g0 249 (20 + c) - g0 249 0) w1 w2 (by omega)
    generalize Int.tdiv ((g0 249 (20 + c) - g0 249 0) * g0 249 1) 1000 = P at *
    omega
  have bi := bd i hi.1 hi.2
  have bj := bd j hj.1 hj.2
  rw [← hhi] at bi
  rw [← hhj] at bj
  have x1 : s_X0_exchange_1 a i j h = pm_upd h (a + 5) i (h (a + 5) i - E) := by
    unfold s_X0_exchange_1
    rw [e1, ea, ci.1, cj.1, q7, hE]
  have x2 : H_X0_exchange a i j h = pm_upd (pm_upd h (a + 5) i (h (a + 5) i - E)) (a + 5) j (h (a + 5) j + E) := by
    show s_X0_exchange_2 a i j h = _
    unfold s_X0_exchange_2
    rw [x1, e1, ea, ci.1, cj.1, q7, ← hE, up_pl _ (fun q => ne q.symm)]
  have y1 : s_X12_exchange_1 i j g = pm_upd g 262 i (g 262 i - E) := by
    unfold s_X12_exchange_1
    rw [e9, ← hhi, ← hhj, ← hE]
  have y2 : H_X12_exchange i j g = pm_upd (pm_upd g 262 i (g 262 i - E)) 262 j (g 262 j + E) := by
    unfold H_X12_exchange s_X12_exchange_2
    rw [if_neg (by omega), y1, e9, ← hhi, ← hhj, ← hE, up_pl _ (fun q => ne q.symm)]
  refine ⟨?_, ?_, fun q a1 => ?_, fun q a1 => ?_, fun c a1 a2 => ?_⟩
  · unfold P_X0_exchange P_X0_part fx_i fx_l
    rw [x1, e1, ea, ci.1, cj.1, q7, ← hE, up_pl _ (fun q => ne q.symm)]
    refine ⟨hi, hj, by omega, ⟨by omega, by omega, by omega⟩, by omega, by omega⟩
  · unfold P_X12_exchange fx_i fx_l
    rw [y1, e9, ← hhi, ← hhj, ← hE, up_pl _ (fun q => ne q.symm)]
    intro _
    exact ⟨by omega, by omega, by omega, by omega, by omega, by omega, by omega, by omega, by omega, by omega, by omega⟩
  · rw [x2, up_cell _ a1, up_cell _ a1]; exact z1 q a1
  · rw [y2, up_cell _ a1, up_cell _ a1]; exact z2 q a1
  · have y := zc c a1 a2
    have t := qc c a1 a2
    rw [x2, y2]
    simp only
    by_cases c1 : c = j
    · rw [c1, up_eq, up_eq, if_pos (Or.inr rfl), ← hhj, Int.add_mul, Int.add_mul]
      rw [c1, ← hhj] at y
      omega
    · rw [up_pl _ c1, up_pl _ c1]
      by_cases c2 : c = i
      · rw [c2, up_eq, up_eq, if_pos (Or.inl rfl), ← hhi, Int.add_mul, Int.add_mul]
        rw [c2, ← hhi] at y
        omega
      · rw [up_pl _ c2, up_pl _ c2, if_neg (by omega)]
        exact y
