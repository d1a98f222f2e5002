/-! Copies: a hall of the class, a row of the model. -/
theorem cp_eq0 (h : pH) {s d n k : Int} (h1 : 0 ≤ k) (h2 : k < n) : pm_cpy h s 0 d 0 n d k = h s k := by
  rw [cp_app, if_pos ⟨rfl, h1, by omega⟩, show (0 : Int) + (k - 0) = k by omega]
theorem copy0 (d s : Int) (h : pH) (hd : d + 6 ≤ s ∨ s + 6 ≤ d) : (∀ a, (a < d ∨ d + 5 ≤ a) → H_X0_copyFrom d s h a = h a) ∧
    (∀ i : Int, (i = 5 ∨ i = 6 ∨ i = 7 ∨ i = 8) → H_X0_copyFrom d s h d i = h s i) ∧ (∀ k : Int, 0 ≤ k → k < 12 → H_X0_copyFrom d s h (d + 1) k = h (s + 1) k ∧ H_X0_copyFrom d s h (d + 2) k = h (s + 2) k ∧ H_X0_copyFrom d s h (d + 3) k = h (s + 3) k) ∧ ∀ k : Int, 0 ≤ k → k < 60 → H_X0_copyFrom d s h (d + 4) k = h (s + 4) k := by
  unfold H_X0_copyFrom s_X0_copyFrom_6 s_X0_copyFrom_5 s_X0_copyFrom_4 s_X0_copyFrom_3 s_X0_copyFrom_2 s_X0_copyFrom_1
  refine ⟨fun a e => ?_, fun i e => ?_, fun k e1 e2 => ⟨?_, ?_, ?_⟩, fun k e1 e2 => ?_⟩
  · simp (disch := omega) only [up_cell, cp_cell]
  · rcases e with rfl | rfl | rfl | rfl <;> simp (disch := omega) only [up_eq, up_pl, up_cell, cp_cell]
  all_goals simp (disch := omega) only [up_cell, cp_cell, cp_eq0]
theorem copy6 (d s : Int) (h : pH) (hd : d + 11 ≤ s ∨ s + 11 ≤ d) : (∀ a, (a < d ∨ d + 10 ≤ a) → H_X6_copyFrom d s h a = h a) ∧ H_X6_copyFrom d s h d 10 = h s 10 ∧
    (∀ k : Int, 0 ≤ k → k < 10 → H_X6_copyFrom d s h (d + 1) k = h (s + 1) k ∧ H_X6_copyFrom d s h (d + 2) k = h (s + 2) k ∧ H_X6_copyFrom d s h (d + 3) k = h (s + 3) k ∧ H_X6_copyFrom d s h (d + 4) k = h (s + 4) k ∧ H_X6_copyFrom d s h (d + 5) k = h (s + 5) k ∧ H_X6_copyFrom d s h (d + 6) k = h (s + 6) k ∧ H_X6_copyFrom d s h (d + 7) k = h (s + 7) k ∧ H_X6_copyFrom d s h (d + 8) k = h (s + 8) k ∧ H_X6_copyFrom d s h (d + 9) k = h (s + 9) k) := by
  unfold H_X6_copyFrom s_X6_copyFrom_5 s_X6_copyFrom_4 s_X6_copyFrom_3 s_X6_copyFrom_2 s_X6_copyFrom_1
  refine ⟨fun a e => ?_, ?_, fun k e1 e2 => ⟨?_, ?_, ?_, ?_, ?_, ?_, ?_, ?_, ?_⟩⟩
  all_goals simp (disch := omega) only [up_eq, up_cell, cp_cell, cp_eq0]
theorem copy8 (d s : Int) (h : pH) (hd : d + 3 ≤ s ∨ s + 3 ≤ d) : (∀ a, (a < d ∨ d + 3 ≤ a) → H_X8_copyFrom d s h a = h a) ∧ (∀ i : Int, 2 ≤ i → i ≤ 8 → H_X8_copyFrom d s h d i = h s i) ∧
    (∀ k : Int, 0 ≤ k → k < 4 → H_X8_copyFrom d s h (d + 1) k = h (s + 1) k) ∧ ∀ k : Int, 0 ≤ k → k < 24 → H_X8_copyFrom d s h (d + 2) k = h (s + 2) k := by
  unfold H_X8_copyFrom s_X8_copyFrom_8 s_X8_copyFrom_7 s_X8_copyFrom_6 s_X8_copyFrom_5 s_X8_copyFrom_4 s_X8_copyFrom_3 s_X8_copyFrom_2 s_X8_copyFrom_1
  refine ⟨fun a e => ?_, fun i e1 e2 => ?_, fun k e1 e2 => ?_, fun k e1 e2 => ?_⟩
  · simp (disch := omega) only [up_cell, cp_cell]
  · rcases (show i = 2 ∨ i = 3 ∨ i = 4 ∨ i = 5 ∨ i = 6 ∨ i = 7 ∨ i = 8 by omega) with rfl | rfl | rfl | rfl | rfl | rfl | rfl <;> simp (disch := omega) only [up_eq, up_pl, up_cell, cp_cell]
  all_goals simp (disch := omega) only [up_cell, cp_cell, cp_eq0]
theorem copy10 (d s : Int) (h : pH) (hd : d + 16 ≤ s ∨ s + 16 ≤ d) : (∀ a, (a < d ∨ d + 16 ≤ a) → H_X10_copyFrom d s h a = h a) ∧ H_X10_copyFrom d s h d 15 = h s 15 ∧
    (∀ k : Int, 0 ≤ k → k < 8 → H_X10_copyFrom d s h (d + 1) k = h (s + 1) k ∧ H_X10_copyFrom d s h (d + 2) k = h (s + 2) k ∧ H_X10_copyFrom d s h (d + 3) k = h (s + 3) k) ∧
    (∀ k : Int, 0 ≤ k → k < 16 → H_X10_copyFrom d s h (d + 4) k = h (s + 4) k ∧ H_X10_copyFrom d s h (d + 5) k = h (s + 5) k ∧ H_X10_copyFrom d s h (d + 6) k = h (s + 6) k ∧ H_X10_copyFrom d s h (d + 7) k = h (s + 7) k ∧ H_X10_copyFrom d s h (d + 8) k = h (s + 8) k ∧ H_X10_copyFrom d s h (d + 9) k = h (s + 9) k ∧ H_X10_copyFrom d s h (d + 10) k = h (s + 10) k ∧ H_X10_copyFrom d s h (d + 11) k = h (s + 11) k ∧ H_X10_copyFrom d s h (d + 12) k = h (s + 12) k ∧ H_X10_copyFrom d s h (d + 14) k = h (s + 14) k ∧ H_X10_copyFrom d s h (d + 15) k = h (s + 15) k) := by
  unfold H_X10_copyFrom s_X10_copyFrom_8 s_X10_copyFrom_7 s_X10_copyFrom_6 s_X10_copyFrom_5 s_X10_copyFrom_4 s_X10_copyFrom_3 s_X10_copyFrom_2 s_X10_copyFrom_1
  refine ⟨fun a e => ?_, ?_, fun k e1 e2 => ⟨?_, ?_, ?_⟩, fun k e1 e2 => ⟨?_, ?_, ?_, ?_, ?_, ?_, ?_, ?_, ?_, ?_, ?_⟩⟩
  all_goals simp (disch := omega) only [up_eq, up_cell, cp_cell, cp_eq0]
theorem copy9 (d s : Int) (h : pH) (hd : d + 5 ≤ s ∨ s + 5 ≤ d) : (∀ a, (a < d ∨ d + 3 ≤ a) → H_X9_copyFrom d s h a = h a) ∧ (∀ i : Int, (i = 4 ∨ i = 5 ∨ i = 6) → H_X9_copyFrom d s h d i = h s i) ∧
    (∀ k : Int, 0 ≤ k → k < 60 → H_X9_copyFrom d s h (d + 1) k = h (s + 1) k ∧ H_X9_copyFrom d s h (d + 2) k = h (s + 2) k) := by
  unfold H_X9_copyFrom s_X9_copyFrom_4 s_X9_copyFrom_3 s_X9_copyFrom_2 s_X9_copyFrom_1
  refine ⟨fun a e => ?_, fun i e => ?_, fun k e1 e2 => ⟨?_, ?_⟩⟩
  · simp (disch := omega) only [up_cell, cp_cell]
  · rcases e with rfl | rfl | rfl <;> simp (disch := omega) only [up_eq, up_pl, up_cell, cp_cell]
  all_goals simp (disch := omega) only [up_cell, cp_cell, cp_eq0]
theorem copy5 (d s : Int) (h : pH) (hd : d + 3 ≤ s ∨ s + 3 ≤ d) : (∀ a, (a < d ∨ d + 3 ≤ a) → H_X5_copyFrom d s h a = h a) ∧ (∀ i : Int, 0 ≤ i → i ≤ 3 → H_X5_copyFrom d s h d i = h s i) ∧
    (∀ k : Int, 0 ≤ k → k < 10 → H_X5_copyFrom d s h (d + 1) k = h (s + 1) k ∧ H_X5_copyFrom d s h (d + 2) k = h (s + 2) k) := by
  unfold H_X5_copyFrom s_X5_copyFrom_5 s_X5_copyFrom_4 s_X5_copyFrom_3 s_X5_copyFrom_2 s_X5_copyFrom_1
  refine ⟨fun a e => ?_, fun i e1 e2 => ?_, fun k e1 e2 => ⟨?_, ?_⟩⟩
  · simp (disch := omega) only [up_cell, cp_cell]
  · rcases (show i = 0 ∨ i = 1 ∨ i = 2 ∨ i = 3 by omega) with rfl | rfl | rfl | rfl <;> simp (disch := omega) only [up_eq, up_pl, up_cell, cp_cell]
  all_goals simp (disch := omega) only [up_cell, cp_cell, cp_eq0]
/-- a row of the model -/
theorem copy_M (u d : Int) (g : pH) (hd : u ≠ d) : P_X12_copy u d g ∧ (∀ a, a ≠ d → H_X12_copy u d g a = g a) ∧ ∀ k : Int, 0 ≤ k → k < 620 → H_X12_copy u d g d k = g u k := by
  have key := fx_rule (σ := Int × pH) (c := (fun s => C_X12_copy_2 u d s.1 s.2)) (f := (fun s => B_X12_copy_2 u d s.1 s.2)) (P := (fun s => P_X12_copy_2 u d s.1 s.2)) (s0 := (0, g)) 620 (fun i t => t.1 = i ∧ i ≤ 620 ∧ (∀ a, a ≠ d → t.2 a = g a) ∧ ∀ k : Int, 0 ≤ k → k < i → t.2 d k = g u k)
    ⟨rfl, by omega, fun _ _ => rfl, fun k e1 e2 => by omega⟩ ?_ ?_
  · exact ⟨key.1, key.2.2.2.1, key.2.2.2.2⟩
  · rintro i ⟨x, g'⟩ hi ⟨hx, hi2, f1, fk⟩
    simp only at hx f1 fk
    subst hx
    simp only [P_X12_copy_2, C_X12_copy_2, B_X12_copy_2, f1 u hd, fx_i]
    refine ⟨fun _ => by omega, by omega, by omega, by omega, fun a a1 => ?_, fun k e1 e2 => ?_⟩
    · rw [up_cell _ a1]; exact f1 a a1
    · by_cases e : k = i
      · rw [e, up_eq]
      · rw [up_pl _ e]; exact fk k e1 (by omega)
  · rintro ⟨x, g'⟩ ⟨hx, hi2, -⟩
    simp only at hx
    subst hx
    simp only [P_X12_copy_2, C_X12_copy_2, B_X12_copy_2]
    omega
