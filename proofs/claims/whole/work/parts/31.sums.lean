/-! Sums, counts, greatest: what the loops that only read answer. -/
def zs (f : Int → Int) : Nat → Int
  | 0 => 0
  | n + 1 => zs f n + f n
theorem zs_congr {f g : Int → Int} : ∀ {n : Nat}, (∀ i : Int, 0 ≤ i → i < n → f i = g i) → zs f n = zs g n
  | 0, _ => rfl
  | n + 1, h => by
    unfold zs
    rw [zs_congr (n := n) (fun i h1 h2 => h i h1 (by omega)), h n (by omega) (by omega)]
theorem zs_bd {f : Int → Int} {lo hi : Int} : ∀ {n : Nat}, (∀ i : Int, 0 ≤ i → i < n → lo ≤ f i ∧ f i ≤ hi) → (n : Int) * lo ≤ zs f n ∧ zs f n ≤ (n : Int) * hi
  | 0, _ => by simp [zs]
  | n + 1, h => by
    have h1 := zs_bd (n := n) (fun i h1 h2 => h i h1 (by omega))
    have h2 := h n (by omega) (by omega)
    unfold zs
    have e1 : ((n + 1 : Nat) : Int) * lo = n * lo + lo := by rw [Int.natCast_add, Int.add_mul]; simp
    have e2 : ((n + 1 : Nat) : Int) * hi = n * hi + hi := by rw [Int.natCast_add, Int.add_mul]; simp
    rw [e1, e2]
    omega
def zmax (f : Int → Int) : Nat → Int
  | 0 => f 0
  | n + 1 => fx_max (zmax f n) (f (n + 1))
theorem zmax_congr {f g : Int → Int} : ∀ {n : Nat}, (∀ i : Int, 0 ≤ i → i ≤ n → f i = g i) → zmax f n = zmax g n
  | 0, h => h 0 (by omega) (by omega)
  | n + 1, h => by
    unfold zmax
    rw [zmax_congr (n := n) (fun i h1 h2 => h i h1 (by omega)), h (n + 1) (by omega) (by omega)]
theorem zmax_bd {f : Int → Int} {lo hi : Int} : ∀ {n : Nat}, (∀ i : Int, 0 ≤ i → i ≤ n → lo ≤ f i ∧ f i ≤ hi) → lo ≤ zmax f n ∧ zmax f n ≤ hi
  | 0, h => h 0 (by omega) (by omega)
  | n + 1, h => by
    have h1 := zmax_bd (n := n) (fun i h1 h2 => h i h1 (by omega))
    have h2 := h (n + 1) (by omega) (by omega)
    unfold zmax fx_max
    split <;> omega
/-- the sum of heat -/
theorem sum_X (a : Int) (h : pH) (hr : ∀ c : Int, 0 ≤ c → c < 12 → -2147483648 ≤ h (a + 1) c ∧ h (a + 1) c ≤ 2147483647) : P_X0_sum a h ∧ F_X0_sum a h = zs (h (a + 1)) 12 := by
  have key := fx_rule (σ := Int × Int) (c := (fun s => C_X0_sum_4 a h s.1 s.2)) (f := (fun s => B_X0_sum_4 a h s.1 s.2)) (P := (fun s => P_X0_sum_4 a h s.1 s.2)) (s0 := (0, 0)) 12 (fun i s => s = (zs (h (a + 1)) i, (i : Int)) ∧ i ≤ 12) ⟨rfl, by omega⟩ ?_ ?_
  · exact ⟨key.1, congrArg Prod.fst key.2.1⟩
  · rintro i s hi ⟨rfl, hi2⟩
    have hb := zs_bd (f := h (a + 1)) (n := i) (lo := -2147483648) (hi := 2147483647) (fun c h1 h2 => hr c h1 (by omega))
    have := hr i (by omega) (by omega)
    simp only [P_X0_sum_4, C_X0_sum_4, B_X0_sum_4, fx_i, fx_l, zs]
    grind
  · rintro s ⟨rfl, hi2⟩
    simp only [P_X0_sum_4, C_X0_sum_4, B_X0_sum_4]
    grind
theorem sum_M (g : pH) (hr : ∀ c : Int, 0 ≤ c → c < 12 → -2147483648 ≤ g 249 (20 + c) ∧ g 249 (20 + c) ≤ 2147483647) : P_X12_allHeat g ∧ F_X12_allHeat g = zs (fun c => g 249 (20 + c)) 12 := by
  have key := fx_rule (σ := Int × Int) (c := (fun s => C_X12_allHeat_4 g s.1 s.2)) (f := (fun s => B_X12_allHeat_4 g s.1 s.2)) (P := (fun s => P_X12_allHeat_4 g s.1 s.2)) (s0 := (0, 0)) 12 (fun i s => s = (zs (fun c => g 249 (20 + c)) i, (i : Int)) ∧ i ≤ 12) ⟨rfl, by omega⟩ ?_ ?_
  · exact ⟨key.1, congrArg Prod.fst key.2.1⟩
  · rintro i s hi ⟨rfl, hi2⟩
    have hb := zs_bd (f := fun c => g 249 (20 + c)) (n := i) (lo := -2147483648) (hi := 2147483647) (fun c h1 h2 => hr c h1 (by omega))
    have := hr i (by omega) (by omega)
    simp only [P_X12_allHeat_4, C_X12_allHeat_4, B_X12_allHeat_4, fx_i, fx_l, zs]
    grind
  · rintro s ⟨rfl, hi2⟩
    simp only [P_X12_allHeat_4, C_X12_allHeat_4, B_X12_allHeat_4]
    grind
/-- how many works are in a state -/
theorem cnt_X (a v : Int) (h : pH) (n : Nat) (hn : h a 15 = n) (h16 : n ≤ 16) : P_X10_countIn a v h ∧ F_X10_countIn a v h = zs (fun w => if h (a + 11) w = v then 1 else 0) n := by
  have key := fx_rule (σ := Int × Int) (c := (fun s => C_X10_countIn_4 a v h s.1 s.2)) (f := (fun s => B_X10_countIn_4 a v h s.1 s.2)) (P := (fun s => P_X10_countIn_4 a v h s.1 s.2)) (s0 := (0, 0)) n (fun i s => s = (zs (fun w => if h (a + 11) w = v then 1 else 0) i, (i : Int)) ∧ i ≤ n) ⟨rfl, by omega⟩ ?_ ?_
  · exact ⟨key.1, congrArg Prod.fst key.2.1⟩
  · rintro i s hi ⟨rfl, hi2⟩
    have hb := zs_bd (f := fun w => if h (a + 11) w = v then 1 else 0) (n := i) (lo := 0) (hi := 1) (fun c h1 h2 => by grind)
    simp only [P_X10_countIn_4, C_X10_countIn_4, B_X10_countIn_4, s_X10_countIn_1, fx_i, zs]
    grind
  · rintro s ⟨rfl, hi2⟩
    simp only [P_X10_countIn_4, C_X10_countIn_4, B_X10_countIn_4]
    grind
theorem broken_M (g : pH) (n : Nat) (hn : g 249 13 = n) (h16 : n ≤ 16) : P_X12_broken g ∧ F_X12_broken g = zs (fun w => if g 249 (328 + w) = 3 then 1 else 0) n := by
  have key := fx_rule (σ := Int × Int) (c := (fun s => C_X12_broken_4 g s.1 s.2)) (f := (fun s => B_X12_broken_4 g s.1 s.2)) (P := (fun s => P_X12_broken_4 g s.1 s.2)) (s0 := (0, 0)) n (fun i s => s = (zs (fun w => if g 249 (328 + w) = 3 then 1 else 0) i, (i : Int)) ∧ i ≤ n) ⟨rfl, by omega⟩ ?_ ?_
  · exact ⟨key.1, congrArg Prod.fst key.2.1⟩
  · rintro i s hi ⟨rfl, hi2⟩
    have hb := zs_bd (f := fun w => if g 249 (328 + w) = 3 then 1 else 0) (n := i) (lo := 0) (hi := 1) (fun c h1 h2 => by grind)
    simp only [P_X12_broken_4, C_X12_broken_4, B_X12_broken_4, s_X12_broken_1, fx_i, zs]
    grind
  · rintro s ⟨rfl, hi2⟩
    simp only [P_X12_broken_4, C_X12_broken_4, B_X12_broken_4]
    grind
theorem overs_M (v : Int) (g : pH) (n : Nat) (hn : g 249 13 = n) (h16 : n ≤ 16) : P_X12_overs v g ∧ F_X12_overs v g = zs (fun w => if g 249 (328 + w) = v then 1 else 0) n := by
  have key := fx_rule (σ := Int × Int) (c := (fun s => C_X12_overs_4 v g s.1 s.2)) (f := (fun s => B_X12_overs_4 v g s.1 s.2)) (P := (fun s => P_X12_overs_4 v g s.1 s.2)) (s0 := (0, 0)) n (fun i s => s = (zs (fun w => if g 249 (328 + w) = v then 1 else 0) i, (i : Int)) ∧ i ≤ n) ⟨rfl, by omega⟩ ?_ ?_
  · exact ⟨key.1, congrArg Prod.fst key.2.1⟩
  · rintro i s hi ⟨rfl, hi2⟩
    have hb := zs_bd (f := fun w => if g 249 (328 + w) = v then 1 else 0) (n := i) (lo := 0) (hi := 1) (fun c h1 h2 => by grind)
    simp only [P_X12_overs_4, C_X12_overs_4, B_X12_overs_4, s_X12_overs_1, fx_i, zs]
    grind
  · rintro s ⟨rfl, hi2⟩
    simp only [P_X12_overs_4, C_X12_overs_4, B_X12_overs_4]
    grind
/-- whether a work is open, by the model's row -/
abbrev zopen (z : Int → Int) (w : Int) : Prop := z (328 + w) = 0 ∧ (z (200 + w) = 0 ∨ (z (248 + w) ≤ z 15 ∧ z 15 ≤ z (264 + w)))
theorem isOpen_M (w : Int) (g : pH) (h0 : 0 ≤ w) (h1 : w < 16) : P_X12_isOpen w g ∧ (F_X12_isOpen w g = if zopen (g 249) w then 1 else 0) := by
  unfold P_X12_isOpen F_X12_isOpen zopen fx_i
  exact ⟨by grind, rfl⟩
theorem openWorks_M (g : pH) (n : Nat) (hn : g 249 13 = n) (h16 : n ≤ 16) : P_X12_openWorks g ∧ F_X12_openWorks g = zs (fun w => if zopen (g 249) w then 1 else 0) n := by
  have key := fx_rule (σ := Int × Int) (c := (fun s => C_X12_openWorks_4 g s.1 s.2)) (f := (fun s => B_X12_openWorks_4 g s.1 s.2)) (P := (fun s => P_X12_openWorks_4 g s.1 s.2)) (s0 := (0, 0)) n (fun i s => s = (zs (fun w => if zopen (g 249) w then 1 else 0) i, (i : Int)) ∧ i ≤ n) ⟨rfl, by omega⟩ ?_ ?_
  · exact ⟨key.1, congrArg Prod.fst key.2.1⟩
  · rintro i s hi ⟨rfl, hi2⟩
    have hb := zs_bd (f := fun w => if zopen (g 249) w then 1 else 0) (n := i) (lo := 0) (hi := 1) (fun c h1 h2 => by grind)
    have hp := (isOpen_M i g (by omega) (by omega)).1
    simp only [P_X12_openWorks_4, C_X12_openWorks_4, B_X12_openWorks_4, s_X12_openWorks_1, fx_i, zs]
    simp only [zopen] at *
    grind
  · rintro s ⟨rfl, hi2⟩
    simp only [P_X12_openWorks_4, C_X12_openWorks_4, B_X12_openWorks_4]
    grind
/-- how many machines failed -/
theorem failed_X (a : Int) (h : pH) (n : Nat) (hn : h a 10 = n) (h10 : n ≤ 10) (hf : ∀ m : Int, 0 ≤ m → m < n → 0 ≤ h (a + 7) m ∧ h (a + 7) m ≤ 1) : P_X6_countFailed a h ∧ F_X6_countFailed a h = zs (h (a + 7)) n := by
  have key := fx_rule (σ := Int × Int) (c := (fun s => C_X6_countFailed_4 a h s.1 s.2)) (f := (fun s => B_X6_countFailed_4 a h s.1 s.2)) (P := (fun s => P_X6_countFailed_4 a h s.1 s.2)) (s0 := (0, 0)) n (fun i s => s = (zs (h (a + 7)) i, (i : Int)) ∧ i ≤ n) ⟨rfl, by omega⟩ ?_ ?_
  · exact ⟨key.1, congrArg Prod.fst key.2.1⟩
  · rintro i s hi ⟨rfl, hi2⟩
    have hb := zs_bd (f := h (a + 7)) (n := i) (lo := 0) (hi := 1) (fun c h1 h2 => hf c h1 (by omega))
    have := hf i (by omega) (by omega)
    simp only [P_X6_countFailed_4, C_X6_countFailed_4, B_X6_countFailed_4, fx_i, zs]
    grind
  · rintro s ⟨rfl, hi2⟩
    simp only [P_X6_countFailed_4, C_X6_countFailed_4, B_X6_countFailed_4]
    grind
theorem failed_M (g : pH) (n : Nat) (hn : g 249 12 = n) (h10 : n ≤ 10) (hf : ∀ m : Int, 0 ≤ m → m < n → 0 ≤ g 249 (144 + m) ∧ g 249 (144 + m) ≤ 1) : P_X12_failedOnes g ∧ F_X12_failedOnes g = zs (fun m => g 249 (144 + m)) n := by
  have key := fx_rule (σ := Int × Int) (c := (fun s => C_X12_failedOnes_4 g s.1 s.2)) (f := (fun s => B_X12_failedOnes_4 g s.1 s.2)) (P := (fun s => P_X12_failedOnes_4 g s.1 s.2)) (s0 := (0, 0)) n (fun i s => s = (zs (fun m => g 249 (144 + m)) i, (i : Int)) ∧ i ≤ n) ⟨rfl, by omega⟩ ?_ ?_
  · exact ⟨key.1, congrArg Prod.fst key.2.1⟩
  · rintro i s hi ⟨rfl, hi2⟩
    have hb := zs_bd (f := fun m => g 249 (144 + m)) (n := i) (lo := 0) (hi := 1) (fun c h1 h2 => hf c h1 (by omega))
    have := hf i (by omega) (by omega)
    simp only [P_X12_failedOnes_4, C_X12_failedOnes_4, B_X12_failedOnes_4, P_X12_at, fx_i, zs]
    grind
  · rintro s ⟨rfl, hi2⟩
    simp only [P_X12_failedOnes_4, C_X12_failedOnes_4, B_X12_failedOnes_4]
    grind
/-- what a gauge shows, by the model's row -/
def zgauge (z : Int → Int) (c : Int) : Int := if z 8 = 0 then z (20 + c) else z (440 + 12 * (z 8 - 1) + c)
theorem gauge_X (a c : Int) (h : pH) (h8 : 0 ≤ h a 8 ∧ h a 8 ≤ 5) (hc : 0 ≤ c ∧ c < 12) : P_X0_gauge a c h ∧ F_X0_gauge a c h = (if h a 8 = 0 then h (a + 1) c else h (a + 4) (((h a 8 - 1) * 12) + c)) := by
  unfold P_X0_gauge F_X0_gauge s_X0_gauge_1 fx_i
  exact ⟨by grind, rfl⟩
theorem gauge_M (c : Int) (g : pH) (h8 : 0 ≤ g 249 8 ∧ g 249 8 ≤ 5) (hc : 0 ≤ c ∧ c < 12) : P_X12_gauge c g ∧ F_X12_gauge c g = zgauge (g 249) c := by
  unfold P_X12_gauge F_X12_gauge s_X12_gauge_1 zgauge P_X12_at fx_i
  exact ⟨by grind, rfl⟩
theorem great_X (a : Int) (h : pH) (h8 : 0 ≤ h a 8 ∧ h a 8 ≤ 5) : P_X0_greatestGauge a h ∧ F_X0_greatestGauge a h = zmax (fun c => s_X0_gauge_1 a c h) 11 := by
  have key := fx_rule (σ := Int × Int) (c := (fun s => C_X0_greatestGauge_6 a h s.1 s.2)) (f := (fun s => B_X0_greatestGauge_6 a h s.1 s.2)) (P := (fun s => P_X0_greatestGauge_6 a h s.1 s.2)) (s0 := ((s_X0_gauge_1 a 0 h), 1)) 11 (fun i s => s = (zmax (fun c => s_X0_gauge_1 a c h) i, (i : Int) + 1) ∧ i ≤ 11) ⟨rfl, by omega⟩ ?_ ?_
  · exact ⟨⟨(gauge_X a 0 h h8 (by omega)).1, key.1⟩, congrArg Prod.fst key.2.1⟩
  · rintro i s hi ⟨rfl, hi2⟩
    have := (gauge_X a (i + 1) h h8 (by omega)).1
    simp only [P_X0_greatestGauge_6, C_X0_greatestGauge_6, B_X0_greatestGauge_6, fx_i, zmax]
    grind
  · rintro s ⟨rfl, hi2⟩
    simp only [P_X0_greatestGauge_6, C_X0_greatestGauge_6, B_X0_greatestGauge_6]
    grind
theorem great_M (g : pH) (h8 : 0 ≤ g 249 8 ∧ g 249 8 ≤ 5) : P_X12_greatest g ∧ F_X12_greatest g = zmax (zgauge (g 249)) 11 := by
  have key := fx_rule (σ := Int × Int) (c := (fun s => C_X12_greatest_6 g s.1 s.2)) (f := (fun s => B_X12_greatest_6 g s.1 s.2)) (P := (fun s => P_X12_greatest_6 g s.1 s.2)) (s0 := ((s_X12_gauge_1 0 g), 1)) 11 (fun i s => s = (zmax (zgauge (g 249)) i, (i : Int) + 1) ∧ i ≤ 11) ⟨rfl, by omega⟩ ?_ ?_
  · exact ⟨⟨(gauge_M 0 g h8 (by omega)).1, key.1⟩, congrArg Prod.fst key.2.1⟩
  · rintro i s hi ⟨rfl, hi2⟩
    have h1 := (gauge_M (i + 1) g h8 (by omega)).1
    have h2 : s_X12_gauge_1 (i + 1) g = zgauge (g 249) (i + 1) := rfl
    simp only [P_X12_greatest_6, C_X12_greatest_6, B_X12_greatest_6, s_X12_greatest_1, fx_i, zmax, fx_max, h2]
    grind
  · rintro s ⟨rfl, hi2⟩
    simp only [P_X12_greatest_6, C_X12_greatest_6, B_X12_greatest_6]
    grind
/-- bills -/
theorem bill_X (a k : Int) (h : pH) (n : Nat) (hn : h a 15 = n) (h16 : n ≤ 16) (hk : 0 ≤ k ∧ k < 8) (hf : 0 ≤ h (a + 2) k ∧ h (a + 2) k ≤ 1000) (hc : 0 ≤ h (a + 3) k ∧ h (a + 3) k ≤ 1000) :
    P_X10_billOf a k h ∧ F_X10_billOf a k h = zs (fun w => if h (a + 5) w = k then (if h (a + 11) w = 2 then h (a + 2) k else if h (a + 11) w = 3 then -h (a + 3) k else 0) else 0) n := by
  have key := fx_rule (σ := Int × Int) (c := (fun s => C_X10_billOf_4 a k h s.1 s.2)) (f := (fun s => B_X10_billOf_4 a k h s.1 s.2)) (P := (fun s => P_X10_billOf_4 a k h s.1 s.2)) (s0 := (0, 0)) n (fun i s => s = (zs (fun w => if h (a + 5) w = k then (if h (a + 11) w = 2 then h (a + 2) k else if h (a + 11) w = 3 then -h (a + 3) k else 0) else 0) i, (i : Int)) ∧ i ≤ n) ⟨rfl, by omega⟩ ?_ ?_
  · exact ⟨key.1, congrArg Prod.fst key.2.1⟩
  · rintro i s hi ⟨rfl, hi2⟩
    have hb := zs_bd (f := fun w => if h (a + 5) w = k then (if h (a + 11) w = 2 then h (a + 2) k else if h (a + 11) w = 3 then -h (a + 3) k else 0) else 0) (n := i) (lo := -1000) (hi := 1000) (fun c h1 h2 => by grind)
    simp only [P_X10_billOf_4, C_X10_billOf_4, B_X10_billOf_4, s_X10_billOf_1, fx_i, zs]
    grind
  · rintro s ⟨rfl, hi2⟩
    simp only [P_X10_billOf_4, C_X10_billOf_4, B_X10_billOf_4]
    grind
theorem bill_M (k : Int) (g : pH) (n : Nat) (hn : g 249 13 = n) (h16 : n ≤ 16) (hk : 0 ≤ k ∧ k < 8) (hf : 0 ≤ g 249 (182 + k) ∧ g 249 (182 + k) ≤ 1000) (hc : 0 ≤ g 249 (190 + k) ∧ g 249 (190 + k) ≤ 1000) :
    P_X12_bill k g ∧ F_X12_bill k g = zs (fun w => if g 249 (216 + w) = k then (if g 249 (328 + w) = 2 then g 249 (182 + k) else if g 249 (328 + w) = 3 then -g 249 (190 + k) else 0) else 0) n := by
  have key := fx_rule (σ := Int × Int) (c := (fun s => C_X12_bill_9 k g s.1 s.2)) (f := (fun s => B_X12_bill_9 k g s.1 s.2)) (P := (fun s => P_X12_bill_9 k g s.1 s.2)) (s0 := (0, 0)) n (fun i s => s = (zs (fun w => if g 249 (216 + w) = k then (if g 249 (328 + w) = 2 then g 249 (182 + k) else if g 249 (328 + w) = 3 then -g 249 (190 + k) else 0) else 0) i, (i : Int)) ∧ i ≤ n) ⟨rfl, by omega⟩ ?_ ?_
  · refine ⟨fun _ => key.1, ?_⟩
    unfold F_X12_bill
    rw [if_pos (by omega)]
    exact congrArg Prod.fst key.2.1
  · rintro i s hi ⟨rfl, hi2⟩
    have hb := zs_bd (f := fun w => if g 249 (216 + w) = k then (if g 249 (328 + w) = 2 then g 249 (182 + k) else if g 249 (328 + w) = 3 then -g 249 (190 + k) else 0) else 0) (n := i) (lo := -1000) (hi := 1000) (fun c h1 h2 => by grind)
    simp only [P_X12_bill_9, C_X12_bill_9, B_X12_bill_9, s_X12_bill_2, s_X12_bill_1, P_X12_at, fx_i, zs]
    grind
  · rintro s ⟨rfl, hi2⟩
    simp only [P_X12_bill_9, C_X12_bill_9, B_X12_bill_9]
    grind
