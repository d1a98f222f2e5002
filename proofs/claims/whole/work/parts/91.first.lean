/-! The first heap, and what the constructors leave. -/
def j0h (r : Int) : Int → Int := if r = 1 then (fun k => if k = 5 then 100 else if k = 6 then 20 else if k = 7 then 100 else if k = 8 then 1 else 0) else if r = 4 then (fun _ => 200) else if r = 18 then (fun k => if k = 2 then 100000 else if k = 5 then 50 else 0) else if r = 19 then (fun _ => 10000) else if r = 20 then (fun _ => 10) else if r = 37 then (fun k => if k = 5 then 1 else 0) else fun _ => 0
def j0 : pH := fun a => if 1 ≤ a ∧ a < 47 then j0h (a - 1) else if 47 ≤ a ∧ a < 93 then j0h (a - 47) else if 100 ≤ a ∧ a < 146 then j0h (a - 100) else if 156 ≤ a ∧ a < 202 then j0h (a - 156) else if 202 ≤ a ∧ a < 248 then j0h (a - 202) else if a = 153 then (fun k => if k = 0 then 154 else if k = 1 then 155 else 0) else if a = 249 then zf else fun _ => 0
def cs_B (b : Nat) (G : pm_G) (a i : Nat) : va_E := pm_cell (fun j => a + (j - b)) G (b + i) (j0 ((b + i : Nat) : Int))
theorem cs_re {D : va_G} {a0 n i : Nat} {E : Nat → va_E} {e' : va_E} {H : Heap} (h : cs_P D a0 n E H) (hi : i < n) (he : va_at D vwCl (a0 + i, E i) H → va_at D vwCl (a0 + i, e') H) : cs_P D a0 n (cs_x E i e') H :=
  cs_set h (he (h.2 i hi)) rfl (fun _ _ => rfl)
theorem cs_f12 (ad : Nat → Nat) (G : pm_G) (f : Int → Int) : pm_cell ad G 248 f = .inr (12, [.ref (ad 249), .ref (ad 250), .ref (ad 251), .ref (ad 252), .ref (ad 253), .ref (ad 254), .ref (ad 255), .ref (ad 256), .int (Int32.ofInt (f 8)), .int (Int32.ofInt (f 9)), .ref (ad 257), .long (Int64.ofInt (f 11)), .int (Int32.ofInt (f 12)), .ref (ad 258), .ref (ad 259), .ref (ad 260), .ref (ad 261), .ref (ad 262), .ref (ad 263), .ref (ad 264), .int (Int32.ofInt (f 20)), .int (Int32.ofInt (f 21)), .ref (ad 265), .ref (ad 266), .ref (ad 267), .ref (ad 268), .ref (ad 269), .ref (ad 270), .ref (ad 271), .ref (ad 272), .ref (ad 273)]) := by
  rw [pm_cell_obj (ci := 12) (by decide) (by decide +kernel)]
  unfold pm_fields
  rw [show pm_fks.getD 12 [] = [(3, 1, 3481), (3, 2, 3481), (3, 3, 3481), (3, 4, 3481), (3, 5, 3481), (3, 6, 1010), (3, 7, 1521), (3, 8, 1520), (0, 0, 0), (0, 0, 0), (3, 9, 1050), (1, 0, 0), (0, 0, 0), (3, 10, 1064), (3, 11, 1064), (3, 12, 1049), (3, 13, 1049), (3, 14, 1049), (3, 15, 1066), (3, 16, 1161), (0, 0, 0), (2, 0, 0), (3, 17, 37864), (3, 18, 37865), (3, 19, 1064), (3, 20, 1097), (3, 21, 1097), (3, 22, 1018), (3, 23, 1016), (3, 24, 1016), (3, 25, 1016)] from rfl]
  simp only [List.mapIdx_cons, List.mapIdx_nil]
  rfl
theorem cs_B12 (G : pm_G) (a : Nat) : cs_B 248 G a 0 = .inr (12, [.ref (a + 1), .ref (a + 2), .ref (a + 3), .ref (a + 4), .ref (a + 5), .ref (a + 6), .ref (a + 7), .ref (a + 8), .int (Int32.ofInt 0), .int (Int32.ofInt 0), .ref (a + 9), .long (Int64.ofInt 0), .int (Int32.ofInt 0), .ref (a + 10), .ref (a + 11), .ref (a + 12), .ref (a + 13), .ref (a + 14), .ref (a + 15), .ref (a + 16), .int (Int32.ofInt 0), .int (Int32.ofInt 0), .ref (a + 17), .ref (a + 18), .ref (a + 19), .ref (a + 20), .ref (a + 21), .ref (a + 22), .ref (a + 23), .ref (a + 24), .ref (a + 25)]) := (cs_f12 (fun j => a + (j - 248)) G (j0 248)).trans rfl
theorem cs_img (G : pm_G) (a : Nat) : vp_cell G.2.2.2 (2, .inr (.inr (.inr (.inr (va_up (va_up (fun _ => none) (Int32.ofInt 0).toNatClampNeg (some (a + 156))) (Int32.ofInt 1).toNatClampNeg (some (a + 202))))))) = vp_cell G.2.2.2 (2, .inr (.inr (.inr (.inr (fun j => some (a + (156 + 46 * j))))))) := by
  rw [vp_cell_q, vp_cell_q]
  refine cs_arrV (fun j hj => ?_)
  match j, hj with
  | 0, _ => rfl
  | 1, _ => rfl
  | k + 2, h => exact absurd h (by omega)
theorem cs_xx (E : Nat → va_E) (i : Nat) (a b : va_E) (u : Nat) : cs_x (cs_x E i a) i b u = cs_x E i b u := by
  unfold cs_x
  split
  · rfl
  · rfl
/-- the model's row while it is filled -/
def zq (n1 n2 n3 k : Int) : Int := if k = 0 ∨ k = 2 then 100 else if k = 1 then 20 else if k = 3 then 100000 else if k = 6 then 50 else if k = 8 then 1 else if 44 ≤ k ∧ k < 44 + n1 then 200 else if 56 ≤ k ∧ k < 56 + n2 then 10000 else if 60 ≤ k ∧ k < 60 + n3 then 10 else 0
theorem zq_end : (fun j : Nat => Int64.ofInt (zq 12 4 ((24 : Nat) : Int) (j : Int))) = fun j : Nat => Int64.ofInt (zf (j : Int)) := by
  funext j
  refine congrArg Int64.ofInt ?_
  unfold zq zf
  repeat' split
  all_goals first | rfl | omega
theorem zq_put1 {i : Nat} (h : i < 12) : vp_updL (fun j : Nat => Int64.ofInt (zq (i : Int) 0 0 (j : Int))) (nI (44 + i)).toNatClampNeg (Int64.ofInt 200) = fun j : Nat => Int64.ofInt (zq ((i + 1 : Nat) : Int) 0 0 (j : Int)) := by
  rw [nI_clamp (by omega)]
  funext j
  unfold vp_updL
  by_cases hj : j = 44 + i
  · rw [if_pos hj]
    refine congrArg Int64.ofInt ?_
    unfold zq
    repeat' split
    all_goals first | rfl | omega
  · rw [if_neg hj]
    refine congrArg Int64.ofInt ?_
    unfold zq
    repeat' split
    all_goals first | rfl | omega
theorem zq_put2 {i : Nat} (h : i < 4) : vp_updL (fun j : Nat => Int64.ofInt (zq 12 (i : Int) 0 (j : Int))) (nI (56 + i)).toNatClampNeg (Int64.ofInt 10000) = fun j : Nat => Int64.ofInt (zq 12 ((i + 1 : Nat) : Int) 0 (j : Int)) := by
  rw [nI_clamp (by omega)]
  funext j
  unfold vp_updL
  by_cases hj : j = 56 + i
  · rw [if_pos hj]
    refine congrArg Int64.ofInt ?_
    unfold zq
    repeat' split
    all_goals first | rfl | omega
  · rw [if_neg hj]
    refine congrArg Int64.ofInt ?_
    unfold zq
    repeat' split
    all_goals first | rfl | omega
theorem zq_put3 {i : Nat} (h : i < 24) : vp_updL (fun j : Nat => Int64.ofInt (zq 12 4 (i : Int) (j : Int))) (nI (60 + i)).toNatClampNeg (Int64.ofInt 10) = fun j : Nat => Int64.ofInt (zq 12 4 ((i + 1 : Nat) : Int) (j : Int)) := by
  rw [nI_clamp (by omega)]
  funext j
  unfold vp_updL
  by_cases hj : j = 60 + i
  · rw [if_pos hj]
    refine congrArg Int64.ofInt ?_
    unfold zq
    repeat' split
    all_goals first | rfl | omega
  · rw [if_neg hj]
    refine congrArg Int64.ofInt ?_
    unfold zq
    repeat' split
    all_goals first | rfl | omega
def zq_s : Nat → Int64 := vp_updL (vp_updL (vp_updL (vp_updL (vp_updL (vp_updL (fun _ => Int64.ofInt 0) (Int32.ofInt 0).toNatClampNeg (Int64.ofInt 100)) (Int32.ofInt 1).toNatClampNeg (Int64.ofInt 20)) (Int32.ofInt 2).toNatClampNeg (Int64.ofInt 100)) (Int32.ofInt 3).toNatClampNeg (Int64.ofInt 100000)) (Int32.ofInt 6).toNatClampNeg (Int64.ofInt 50)) (Int32.ofInt 8).toNatClampNeg (Int64.ofInt 1)
theorem zq_0 : zq_s = fun j : Nat => Int64.ofInt (zq ((0 : Nat) : Int) 0 0 (j : Int)) := by
  funext j
  show (if j = 8 then Int64.ofInt 1 else if j = 6 then Int64.ofInt 50 else if j = 3 then Int64.ofInt 100000 else if j = 2 then Int64.ofInt 100 else if j = 1 then Int64.ofInt 20 else if j = 0 then Int64.ofInt 100 else Int64.ofInt 0) = _
  unfold zq
  repeat' split
  all_goals first | rfl | omega
