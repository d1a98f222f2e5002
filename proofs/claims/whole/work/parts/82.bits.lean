/-! Counting bits, class and model. -/
theorem pop_rk (x : Nat) : pop16 x = rk x 16 := by
  show x % 2 + (x / 2 % 2 + (x / 4 % 2 + (x / 8 % 2 + (x / 16 % 2 + (x / 32 % 2 + (x / 64 % 2 + (x / 128 % 2 + (x / 256 % 2 + (x / 512 % 2 + (x / 1024 % 2 + (x / 2048 % 2 + (x / 4096 % 2 + (x / 8192 % 2 + (x / 16384 % 2 + (x / 32768 % 2 + 0))))))))))))))) = _
  simp only [rk, Nat.div_div_eq_div_mul]
theorem bit_count {x : Nat} (h : x < 65536) (hp : pH) : P_J6_bitCount_0f7a4 x hp ∧ F_J6_bitCount_0f7a4 x hp = rk x 16 := by
  have a1 : (x >>> 1) &&& 1431655765 ≤ x := Nat.le_trans Nat.and_le_left (Nat.shiftRight_le x 1)
  have e1 : (x : Int) - (pm_and (pm_ushr x 1) 1431655765) = ((nbc1 x : Nat) : Int) := by
    have u : pm_ushr (x : Int) 1 = ((x >>> 1 : Nat) : Int) := ushr_nat (k := 1) (by omega) (by omega)
    have v : pm_and ((x >>> 1 : Nat) : Int) 1431655765 = (((x >>> 1) &&& 1431655765 : Nat) : Int) := and_nat (b := 1431655765) (by omega) _ (by unfold bv; exact BitVec.ofInt_natCast ..) (by have := Nat.shiftRight_le x 1; omega)
    rw [u, v]
    unfold nbc1
    omega
  have b1 : nbc1 x < 65536 := by unfold nbc1; omega
  have e2 : s_J6_bitCount_0f7a4_1 x = ((nbc2 (nbc1 x) : Nat) : Int) := by
    unfold s_J6_bitCount_0f7a4_1
    rw [e1]
    generalize nbc1 x = t at *
    have u : pm_ushr (t : Int) 2 = ((t >>> 2 : Nat) : Int) := ushr_nat (k := 2) (by omega) (by omega)
    have v : pm_and ((t : Nat) : Int) 858993459 = ((t &&& 858993459 : Nat) : Int) := and_nat (b := 858993459) (by omega) _ (by unfold bv; exact BitVec.ofInt_natCast ..) (by omega)
    have w : pm_and ((t >>> 2 : Nat) : Int) 858993459 = (((t >>> 2) &&& 858993459 : Nat) : Int) := and_nat (b := 858993459) (by omega) _ (by unfold bv; exact BitVec.ofInt_natCast ..) (by have := Nat.shiftRight_le t 2; omega)
    rw [u, v, w]
    unfold nbc2
    omega
  have b2 : nbc2 (nbc1 x) < 131072 := by
    generalize nbc1 x = t at *
    unfold nbc2
    have := Nat.shiftRight_le t 2
    have q1 : t &&& 858993459 ≤ t := Nat.and_le_left
    have q2 : (t >>> 2) &&& 858993459 ≤ t >>> 2 := Nat.and_le_left
    omega
  have e3 : pm_and (s_J6_bitCount_0f7a4_1 x + pm_ushr (s_J6_bitCount_0f7a4_1 x) 4) 252645135 = ((nbc3 (nbc2 (nbc1 x)) : Nat) : Int) := by
    rw [e2]
    generalize nbc2 (nbc1 x) = t at *
    have u : pm_ushr (t : Int) 4 = ((t >>> 4 : Nat) : Int) := ushr_nat (k := 4) (by omega) (by omega)
    have := Nat.shiftRight_le t 4
    rw [u, show (t : Int) + ((t >>> 4 : Nat) : Int) = ((t + t >>> 4 : Nat) : Int) by omega]
    exact and_nat (b := 252645135) (by omega) _ (by unfold bv; exact BitVec.ofInt_natCast ..) (by omega)
  have b3 : nbc3 (nbc2 (nbc1 x)) < 262144 := by
    generalize nbc2 (nbc1 x) = t at *
    unfold nbc3
    have := Nat.shiftRight_le t 4
    have q1 : (t + (t >>> 4)) &&& 252645135 ≤ t + (t >>> 4) := Nat.and_le_left
    omega
  have e4 : s_J6_bitCount_0f7a4_2 x = ((nbc4 (nbc3 (nbc2 (nbc1 x))) : Nat) : Int) := by
    unfold s_J6_bitCount_0f7a4_2
    rw [e3]
    generalize nbc3 (nbc2 (nbc1 x)) = t at *
    have u : pm_ushr (t : Int) 8 = ((t >>> 8 : Nat) : Int) := ushr_nat (k := 8) (by omega) (by omega)
    rw [u]
    unfold nbc4
    omega
  have b4 : nbc4 (nbc3 (nbc2 (nbc1 x))) < 524288 := by
    generalize nbc3 (nbc2 (nbc1 x)) = t at *
    unfold nbc4
    have := Nat.shiftRight_le t 8
    omega
  have u16 : pm_ushr ((nbc4 (nbc3 (nbc2 (nbc1 x))) : Nat) : Int) 16 = ((nbc4 (nbc3 (nbc2 (nbc1 x))) >>> 16 : Nat) : Int) := ushr_nat (k := 16) (by omega) (by omega)
  have l16 := Nat.shiftRight_le (nbc4 (nbc3 (nbc2 (nbc1 x)))) 16
  have u4 : pm_ushr ((nbc2 (nbc1 x) : Nat) : Int) 4 = ((nbc2 (nbc1 x) >>> 4 : Nat) : Int) := ushr_nat (k := 4) (by omega) (by omega)
  have l4 := Nat.shiftRight_le (nbc2 (nbc1 x)) 4
  refine ⟨⟨?_, ?_, ?_, ?_, ?_⟩, ?_⟩
  · rw [e1]; unfold fx_i; omega
  · show fx_i (s_J6_bitCount_0f7a4_1 x)
    rw [e2]; unfold fx_i; omega
  · rw [e2, u4]; unfold fx_i; omega
  · show fx_i (s_J6_bitCount_0f7a4_2 x)
    rw [e4]; unfold fx_i; omega
  · rw [e4, u16]; unfold fx_i; omega
  · unfold F_J6_bitCount_0f7a4
    rw [e4, u16, show ((nbc4 (nbc3 (nbc2 (nbc1 x))) : Nat) : Int) + ((nbc4 (nbc3 (nbc2 (nbc1 x))) >>> 16 : Nat) : Int) = ((nbc4 (nbc3 (nbc2 (nbc1 x))) + nbc4 (nbc3 (nbc2 (nbc1 x))) >>> 16 : Nat) : Int) by omega]
    rw [← pop_rk, ← nbc_pop h]
    exact and_nat (b := 63) (by omega) _ (by unfold bv; exact BitVec.ofInt_natCast ..) (by omega)
theorem bits_in {x : Nat} (h : x < 65536) (hp : pH) : P_X12_bitsIn x hp ∧ F_X12_bitsIn x hp = rk x 16 := by
  have key := fx_rule (σ := Int × Int) (c := fun s => C_X12_bitsIn_4 x s.1 s.2) (f := fun s => B_X12_bitsIn_4 x s.1 s.2) (P := fun s => P_X12_bitsIn_4 x s.1 s.2) (s0 := (0, 0)) 16
    (fun i s => s.2 = i ∧ i ≤ 16 ∧ s.1 = rk x i ∧ rk x i ≤ i) ⟨rfl, by omega, rfl, Nat.le_refl 0⟩ ?_ ?_
  · exact ⟨key.1, key.2.2.2.1⟩
  · rintro i ⟨x1, y⟩ hi ⟨hy, hi2, e1, hr⟩
    simp only at hy e1
    subst hy
    subst e1
    have bit := bt_test (x := (x : Int)) (m := i) (by omega)
    rw [bt_nat (by omega)] at bit
    have rb := rk_bit i x
    refine ⟨?_, ?_, ?_, by omega, ?_, ?_⟩
    · simp only
      unfold P_X12_bitsIn_4 fx_i
      rw [bit]
      intro q
      split <;> omega
    · show (i : Int) < 16
      omega
    · show (i : Int) + 1 = ((i + 1 : Nat) : Int)
      omega
    · show (rk x i : Int) + pm_and (pm_shr x i) 1 = _
      rw [bit, rb]
      by_cases c : x.testBit i = true
      · rw [if_pos c, if_pos c]; omega
      · rw [if_neg c, if_neg c]; omega
    · rw [rb]
      split <;> omega
  · rintro ⟨x1, y⟩ ⟨hy, -⟩
    simp only at hy
    subst hy
    refine ⟨?_, ?_⟩
    · show P_X12_bitsIn_4 x x1 ((16 : Nat) : Int)
      unfold P_X12_bitsIn_4
      intro q; omega
    · show ¬ ((16 : Nat) : Int) < 16
      omega
