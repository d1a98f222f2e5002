/-! The real machine does what the pure one does: instructions. -/
theorem pm_bm {z : Int} (h : pm_i32 z) : Int.bmod z 4294967296 = z := Int.bmod_eq_of_le (by have := h.1; omega) (by have := h.2; omega)
theorem pm_bmL {z : Int} (h : pm_i64 z) : Int.bmod z 18446744073709551616 = z := Int.bmod_eq_of_le (by have := h.1; omega) (by have := h.2; omega)
theorem pm_toI {x : Int} (h : pm_i32 x) : (Int32.ofInt x).toInt = x := by rw [Int32.toInt_ofInt]; exact pm_bm h
theorem pm_toL {x : Int} (h : pm_i64 x) : (Int64.ofInt x).toInt = x := by rw [Int64.toInt_ofInt]; exact pm_bmL h
theorem pm_rI (X : Int32) : pm_i32 X.toInt := ⟨Int32.le_toInt X, Int32.toInt_lt X⟩
theorem pm_rL (X : Int64) : pm_i64 X.toInt := ⟨Int64.le_toInt X, Int64.toInt_lt X⟩
theorem pm_w_eq (z : Int) : pm_w z = (Int32.ofInt z).toInt := (Int32.toInt_ofInt).symm
theorem pm_wl_eq (z : Int) : pm_wl z = (Int64.ofInt z).toInt := (Int64.toInt_ofInt).symm
theorem pm_w_ok (z : Int) : pm_i32 (pm_w z) := by rw [pm_w_eq]; exact pm_rI _
theorem pm_wl_ok (z : Int) : pm_i64 (pm_wl z) := by rw [pm_wl_eq]; exact pm_rL _
theorem pm_ofw (z : Int) : Int32.ofInt (pm_w z) = Int32.ofInt z := by rw [pm_w_eq, Int32.ofInt_toInt]
theorem pm_ofwl (z : Int) : Int64.ofInt (pm_wl z) = Int64.ofInt z := by rw [pm_wl_eq, Int64.ofInt_toInt]
theorem pm_add {x y : Int} (hx : pm_i32 x) (hy : pm_i32 y) : Int32.ofInt x + Int32.ofInt y = Int32.ofInt (pm_w (x + y)) := by
  apply Int32.toInt_inj.mp
  rw [Int32.toInt_add, pm_toI hx, pm_toI hy, pm_toI (pm_w_ok _)]; rfl
theorem pm_sub {x y : Int} (hx : pm_i32 x) (hy : pm_i32 y) : Int32.ofInt x - Int32.ofInt y = Int32.ofInt (pm_w (x - y)) := by
  apply Int32.toInt_inj.mp
  rw [Int32.toInt_sub, pm_toI hx, pm_toI hy, pm_toI (pm_w_ok _)]; rfl
theorem pm_mul {x y : Int} (hx : pm_i32 x) (hy : pm_i32 y) : Int32.ofInt x * Int32.ofInt y = Int32.ofInt (pm_w (x * y)) := by
  apply Int32.toInt_inj.mp
  rw [Int32.toInt_mul, pm_toI hx, pm_toI hy, pm_toI (pm_w_ok _)]; rfl
theorem pm_div {x y : Int} (hx : pm_i32 x) (hy : pm_i32 y) : Int32.ofInt x / Int32.ofInt y = Int32.ofInt (pm_w (x.tdiv y)) := by
  apply Int32.toInt_inj.mp
  rw [Int32.toInt_div, pm_toI hx, pm_toI hy, pm_toI (pm_w_ok _)]; rfl
theorem pm_neg {x : Int} (hx : pm_i32 x) : -Int32.ofInt x = Int32.ofInt (pm_w (-x)) := by
  apply Int32.toInt_inj.mp
  rw [Int32.toInt_neg, pm_toI hx, pm_toI (pm_w_ok _)]; rfl
theorem pm_tmod_abs (x : Int) {y : Int} (h : y ≠ 0) : x = x.tdiv y * y + x.tmod y := by
  have := Int.mul_tdiv_add_tmod x y
  rw [Int.mul_comm] at this
  exact this.symm
theorem pm_tmod_nn {x : Int} (y : Int) (h : 0 ≤ x) : 0 ≤ x.tmod y ∧ x.tmod y ≤ x := by
  have a := Int.tmod_nonneg y h
  have b : (x.tmod y).natAbs ≤ x.natAbs := by rw [Int.natAbs_tmod]; exact Nat.mod_le _ _
  have e1 := Int.natAbs_of_nonneg a
  have e2 := Int.natAbs_of_nonneg h
  exact ⟨a, by omega⟩
theorem pm_tmod_np {x : Int} (y : Int) (h : x ≤ 0) : x ≤ x.tmod y ∧ x.tmod y ≤ 0 := by
  have e : x.tmod y = -((-x).tmod y) := by rw [Int.neg_tmod, Int.neg_neg]
  have a := pm_tmod_nn y (show 0 ≤ -x by omega)
  rw [e]
  exact ⟨by omega, by omega⟩
theorem pm_tmod_ok {x y : Int} (hx : pm_i32 x) : pm_i32 (x.tmod y) := by
  have h1 := hx.1
  have h2 := hx.2
  rcases Int.le_total 0 x with h | h
  · have a := pm_tmod_nn y h
    exact ⟨by omega, by omega⟩
  · have a := pm_tmod_np y h
    exact ⟨by omega, by omega⟩
theorem pm_tmod_ok64 {x y : Int} (hx : pm_i64 x) : pm_i64 (x.tmod y) := by
  have h1 := hx.1
  have h2 := hx.2
  rcases Int.le_total 0 x with h | h
  · have a := pm_tmod_nn y h
    exact ⟨by omega, by omega⟩
  · have a := pm_tmod_np y h
    exact ⟨by omega, by omega⟩
theorem pm_rem {x y : Int} (hx : pm_i32 x) (hy : pm_i32 y) (h0 : y ≠ 0) : Int32.ofInt x - Int32.ofInt x / Int32.ofInt y * Int32.ofInt y = Int32.ofInt (x.tmod y) := by
  apply Int32.toInt_inj.mp
  have e := pm_tmod_abs x h0
  rw [Int32.toInt_sub, Int32.toInt_mul, Int32.toInt_div, pm_toI hx, pm_toI hy, pm_toI (pm_tmod_ok hx), Int.bmod_mul_bmod, Int.sub_bmod_bmod, show x - x.tdiv y * y = x.tmod y by omega]
  exact pm_bm (pm_tmod_ok hx)
theorem pm_addL {x y : Int} (hx : pm_i64 x) (hy : pm_i64 y) : Int64.ofInt x + Int64.ofInt y = Int64.ofInt (pm_wl (x + y)) := by
  apply Int64.toInt_inj.mp
  rw [Int64.toInt_add, pm_toL hx, pm_toL hy, pm_toL (pm_wl_ok _)]; rfl
theorem pm_subL {x y : Int} (hx : pm_i64 x) (hy : pm_i64 y) : Int64.ofInt x - Int64.ofInt y = Int64.ofInt (pm_wl (x - y)) := by
  apply Int64.toInt_inj.mp
  rw [Int64.toInt_sub, pm_toL hx, pm_toL hy, pm_toL (pm_wl_ok _)]; rfl
theorem pm_mulL {x y : Int} (hx : pm_i64 x) (hy : pm_i64 y) : Int64.ofInt x * Int64.ofInt y = Int64.ofInt (pm_wl (x * y)) := by
  apply Int64.toInt_inj.mp
  rw [Int64.toInt_mul, pm_toL hx, pm_toL hy, pm_toL (pm_wl_ok _)]; rfl
theorem pm_divL {x y : Int} (hx : pm_i64 x) (hy : pm_i64 y) : Int64.ofInt x / Int64.ofInt y = Int64.ofInt (pm_wl (x.tdiv y)) := by
  apply Int64.toInt_inj.mp
  rw [Int64.toInt_div, pm_toL hx, pm_toL hy, pm_toL (pm_wl_ok _)]; rfl
theorem pm_negL {x : Int} (hx : pm_i64 x) : -Int64.ofInt x = Int64.ofInt (pm_wl (-x)) := by
  apply Int64.toInt_inj.mp
  rw [Int64.toInt_neg, pm_toL hx, pm_toL (pm_wl_ok _)]; rfl
theorem pm_remL {x y : Int} (hx : pm_i64 x) (hy : pm_i64 y) (h0 : y ≠ 0) : Int64.ofInt x - Int64.ofInt x / Int64.ofInt y * Int64.ofInt y = Int64.ofInt (x.tmod y) := by
  apply Int64.toInt_inj.mp
  have e := pm_tmod_abs x h0
  rw [Int64.toInt_sub, Int64.toInt_mul, Int64.toInt_div, pm_toL hx, pm_toL hy, pm_toL (pm_tmod_ok64 hx), Int.bmod_mul_bmod, Int.sub_bmod_bmod, show x - x.tdiv y * y = x.tmod y by omega]
  exact pm_bmL (pm_tmod_ok64 hx)
theorem pm_cmpL {x y : Int} (hx : pm_i64 x) (hy : pm_i64 y) : lg_cmp (Int64.ofInt x) (Int64.ofInt y) = Int32.ofInt (pm_lcmp x y) := by
  unfold lg_cmp pm_lcmp
  have e1 : (Int64.ofInt x > Int64.ofInt y) ↔ y < x := by
    show (Int64.ofInt y < Int64.ofInt x) ↔ y < x
    rw [Int64.lt_iff_toInt_lt, pm_toL hx, pm_toL hy]
  have e2 : (Int64.ofInt x = Int64.ofInt y) ↔ x = y := by
    rw [← Int64.toInt_inj, pm_toL hx, pm_toL hy]
  by_cases h1 : y < x
  · rw [if_pos (e1.mpr h1), if_neg (by omega), if_neg (by omega)]; rfl
  · rw [if_neg (fun q => h1 (e1.mp q))]
    by_cases h2 : x = y
    · rw [if_pos (e2.mpr h2), if_neg (by omega), if_pos h2]; rfl
    · rw [if_neg (fun q => h2 (e2.mp q)), if_pos (by omega)]; rfl
theorem pm_lcmp_ok (x y : Int) : pm_i32 (pm_lcmp x y) := by
  unfold pm_lcmp
  split
  · exact ⟨by decide, by decide⟩
  · split <;> exact ⟨by decide, by decide⟩
theorem pm_eqI {x y : Int} (hx : pm_i32 x) (hy : pm_i32 y) : Int32.ofInt x = Int32.ofInt y ↔ x = y := by rw [← Int32.toInt_inj, pm_toI hx, pm_toI hy]
theorem pm_ltI {x y : Int} (hx : pm_i32 x) (hy : pm_i32 y) : Int32.ofInt x < Int32.ofInt y ↔ x < y := by rw [Int32.lt_iff_toInt_lt, pm_toI hx, pm_toI hy]
theorem pm_leI {x y : Int} (hx : pm_i32 x) (hy : pm_i32 y) : Int32.ofInt x ≤ Int32.ofInt y ↔ x ≤ y := by rw [Int32.le_iff_toInt_le, pm_toI hx, pm_toI hy]
theorem pm_eqL {x y : Int} (hx : pm_i64 x) (hy : pm_i64 y) : Int64.ofInt x = Int64.ofInt y ↔ x = y := by rw [← Int64.toInt_inj, pm_toL hx, pm_toL hy]
theorem pm_ltL {x y : Int} (hx : pm_i64 x) (hy : pm_i64 y) : Int64.ofInt x < Int64.ofInt y ↔ x < y := by rw [Int64.lt_iff_toInt_lt, pm_toL hx, pm_toL hy]
theorem pm_i2l {x : Int} (hx : pm_i32 x) : (Int32.ofInt x).toInt64 = Int64.ofInt x := by
  apply Int64.toInt_inj.mp
  rw [Int32.toInt_toInt64, pm_toI hx, pm_toL ⟨by have := hx.1; omega, by have := hx.2; omega⟩]
theorem pm_l2i {x : Int} (hx : pm_i64 x) : (Int64.ofInt x).toInt32 = Int32.ofInt (pm_w x) := by
  apply Int32.toInt_inj.mp
  rw [Int64.toInt_toInt32, pm_toL hx, pm_toI (pm_w_ok _)]; rfl
theorem pm_clamp {x : Int} (hx : pm_i32 x) : (Int32.ofInt x).toNatClampNeg = x.toNat := by
  show (Int32.ofInt x).toInt.toNat = x.toNat
  rw [pm_toI hx]
theorem pm_vpin {x : Int} {n : Nat} (hx : pm_i32 x) (h0 : 0 ≤ x) (h1 : x < n) : vp_in (Int32.ofInt x) n := by
  rw [vp_in_iff, pm_toI hx]
  exact ⟨h0, h1⟩
