/-! Subsets of a set of bits, in their order. -/
theorem land2 (x y : Nat) : x &&& y = 2 * ((x / 2) &&& (y / 2)) + (x % 2) * (y % 2) := by
  apply Nat.eq_of_testBit_eq
  intro i
  cases i with
  | zero =>
    rw [Nat.testBit_and]
    simp only [Nat.testBit_zero]
    have h1 : x % 2 = 0 ∨ x % 2 = 1 := by omega
    have h2 : y % 2 = 0 ∨ y % 2 = 1 := by omega
    rcases h1 with h1 | h1 <;> rcases h2 with h2 | h2 <;> rw [h1, h2] <;> simp
  | succ i =>
    have e : (2 * ((x / 2) &&& (y / 2)) + (x % 2) * (y % 2)) / 2 = (x / 2) &&& (y / 2) := by
      have h1 : x % 2 = 0 ∨ x % 2 = 1 := by omega
      have h2 : y % 2 = 0 ∨ y % 2 = 1 := by omega
      rcases h1 with h1 | h1 <;> rcases h2 with h2 | h2 <;> rw [h1, h2] <;> omega
    rw [Nat.testBit_and, Nat.testBit_succ, Nat.testBit_succ, Nat.testBit_succ, e, Nat.testBit_and]
noncomputable def pd : Nat → Nat → Nat → Nat
  | 0, _, _ => 0
  | W + 1, B, i => if B % 2 = 0 then 2 * pd W (B / 2) i else 2 * pd W (B / 2) (i / 2) + i % 2
def rk : Nat → Nat → Nat
  | _, 0 => 0
  | B, m + 1 => B % 2 + rk (B / 2) m
theorem pd_e {W B i : Nat} (h : B % 2 = 0) : pd (W + 1) B i = 2 * pd W (B / 2) i := if_pos h
theorem pd_o {W B i : Nat} (h : B % 2 = 1) : pd (W + 1) B i = 2 * pd W (B / 2) (i / 2) + i % 2 := if_neg (by omega)
theorem rk_s (B m : Nat) : rk B (m + 1) = B % 2 + rk (B / 2) m := rfl
theorem pd_le : ∀ (W B i : Nat), pd W B i ≤ B
  | 0, _, _ => Nat.zero_le _
  | W + 1, B, i => by
    have h : B % 2 = 0 ∨ B % 2 = 1 := by omega
    rcases h with h | h
    · rw [pd_e h]; have := pd_le W (B / 2) i; omega
    · rw [pd_o h]; have := pd_le W (B / 2) (i / 2); omega
/-- the rest of a subset -/
theorem pd_not : ∀ (W V B i : Nat), B < 2 ^ W → W ≤ V → (2 ^ V - 1 - (B - pd W B i)) &&& B = pd W B i
  | 0, V, B, i, hB, _ => by
    have : B = 0 := by simpa using hB
    subst this
    exact Nat.and_zero _
  | W + 1, V, B, i, hB, hV => by
    obtain ⟨V', rfl⟩ : ∃ V', V = V' + 1 := ⟨V - 1, by omega⟩
    have hB' : B / 2 < 2 ^ W := by rw [Nat.pow_succ] at hB; omega
    have le1 := pd_le (W + 1) B i
    have lt2 : (2 : Nat) ^ (W + 1) ≤ 2 ^ (V' + 1) := Nat.pow_le_pow_right (by omega) hV
    have e2 : (2 : Nat) ^ (V' + 1) = 2 ^ V' * 2 := Nat.pow_succ ..
    have h : B % 2 = 0 ∨ B % 2 = 1 := by omega
    rcases h with h | h
    · have ih := pd_not W V' (B / 2) i hB' (by omega)
      have l := pd_le W (B / 2) i
      rw [pd_e h] at le1 ⊢
      rw [land2, show (2 ^ (V' + 1) - 1 - (B - 2 * pd W (B / 2) i)) / 2 = 2 ^ V' - 1 - (B / 2 - pd W (B / 2) i) by omega, ih, h, Nat.mul_zero, Nat.add_zero]
    · have ih := pd_not W V' (B / 2) (i / 2) hB' (by omega)
      have l := pd_le W (B / 2) (i / 2)
      rw [pd_o h] at le1 ⊢
      have hi : i % 2 = 0 ∨ i % 2 = 1 := by omega
      rcases hi with hi | hi
      · rw [hi] at le1 ⊢
        rw [land2, show (2 ^ (V' + 1) - 1 - (B - (2 * pd W (B / 2) (i / 2) + 0))) / 2 = 2 ^ V' - 1 - (B / 2 - pd W (B / 2) (i / 2)) by omega, ih, show (2 ^ (V' + 1) - 1 - (B - (2 * pd W (B / 2) (i / 2) + 0))) % 2 = 0 by omega]
        omega
      · rw [hi] at le1 ⊢
        rw [land2, show (2 ^ (V' + 1) - 1 - (B - (2 * pd W (B / 2) (i / 2) + 1))) / 2 = 2 ^ V' - 1 - (B / 2 - pd W (B / 2) (i / 2)) by omega, ih, show (2 ^ (V' + 1) - 1 - (B - (2 * pd W (B / 2) (i / 2) + 1))) % 2 = 1 by omega, h]
/-- the next subset -/
theorem pd_next : ∀ (W V B i : Nat), B < 2 ^ W → W ≤ V → i + 1 < 2 ^ rk B W → (2 ^ V - (B - pd W B i)) &&& B = pd W B (i + 1)
  | 0, V, B, i, hB, _, hi => by
    have : (2 : Nat) ^ rk B 0 = 1 := rfl
    omega
  | W + 1, V, B, i, hB, hV, hi => by
    obtain ⟨V', rfl⟩ : ∃ V', V = V' + 1 := ⟨V - 1, by omega⟩
    have hB' : B / 2 < 2 ^ W := by rw [Nat.pow_succ] at hB; omega
    have le1 := pd_le (W + 1) B i
    have lt2 : (2 : Nat) ^ (W + 1) ≤ 2 ^ (V' + 1) := Nat.pow_le_pow_right (by omega) hV
    have e2 : (2 : Nat) ^ (V' + 1) = 2 ^ V' * 2 := Nat.pow_succ ..
    have h : B % 2 = 0 ∨ B % 2 = 1 := by omega
    rw [rk_s] at hi
    rcases h with h | h
    · rw [h, Nat.zero_add] at hi
      have ih := pd_next W V' (B / 2) i hB' (by omega) hi
      have l := pd_le W (B / 2) i
      rw [pd_e h] at le1 ⊢
      rw [pd_e h, land2, show (2 ^ (V' + 1) - (B - 2 * pd W (B / 2) i)) / 2 = 2 ^ V' - (B / 2 - pd W (B / 2) i) by omega, ih, h, Nat.mul_zero, Nat.add_zero]
    · rw [h, Nat.add_comm 1, Nat.pow_succ] at hi
      have l := pd_le W (B / 2) (i / 2)
      rw [pd_o h] at le1 ⊢
      rw [pd_o h]
      have hi2 : i % 2 = 0 ∨ i % 2 = 1 := by omega
      rcases hi2 with hi2 | hi2
      · have ih := pd_not W V' (B / 2) (i / 2) hB' (by omega)
        rw [hi2] at le1 ⊢
        rw [land2, show (2 ^ (V' + 1) - (B - (2 * pd W (B / 2) (i / 2) + 0))) / 2 = 2 ^ V' - 1 - (B / 2 - pd W (B / 2) (i / 2)) by omega, ih, show (2 ^ (V' + 1) - (B - (2 * pd W (B / 2) (i / 2) + 0))) % 2 = 1 by omega, h, show (i + 1) / 2 = i / 2 by omega, show (i + 1) % 2 = 1 by omega]
      · have ih := pd_next W V' (B / 2) (i / 2) hB' (by omega) (by omega)
        rw [hi2] at le1 ⊢
        rw [land2, show (2 ^ (V' + 1) - (B - (2 * pd W (B / 2) (i / 2) + 1))) / 2 = 2 ^ V' - (B / 2 - pd W (B / 2) (i / 2)) by omega, ih, show (2 ^ (V' + 1) - (B - (2 * pd W (B / 2) (i / 2) + 1))) % 2 = 0 by omega, show (i + 1) / 2 = i / 2 + 1 by omega, show (i + 1) % 2 = 0 by omega]
        omega
theorem pd_lt : ∀ (W B i j : Nat), i < j → j < 2 ^ rk B W → pd W B i < pd W B j
  | 0, B, i, j, h1, h2 => by
    have : (2 : Nat) ^ rk B 0 = 1 := rfl
    omega
  | W + 1, B, i, j, h1, h2 => by
    have h : B % 2 = 0 ∨ B % 2 = 1 := by omega
    rw [rk_s] at h2
    rcases h with h | h
    · rw [h, Nat.zero_add] at h2
      rw [pd_e h, pd_e h]
      have := pd_lt W (B / 2) i j h1 h2
      omega
    · rw [h, Nat.add_comm 1, Nat.pow_succ] at h2
      rw [pd_o h, pd_o h]
      by_cases c : i / 2 = j / 2
      · rw [c]; omega
      · have := pd_lt W (B / 2) (i / 2) (j / 2) (by omega) (by omega)
        omega
theorem pd_bit : ∀ (W B i m : Nat), m < W → (pd W B i).testBit m = (B.testBit m && i.testBit (rk B m))
  | 0, _, _, m, h => by omega
  | W + 1, B, i, 0, _ => by
    have h : B % 2 = 0 ∨ B % 2 = 1 := by omega
    have hb : B.testBit 0 = decide (B % 2 = 1) := Nat.testBit_zero _
    show (pd (W + 1) B i).testBit 0 = (B.testBit 0 && i.testBit 0)
    rcases h with h | h
    · rw [pd_e h, hb, h, Nat.testBit_zero]
      simp
    · rw [pd_o h, hb, h, Nat.testBit_zero, Nat.testBit_zero]
      rw [show (2 * pd W (B / 2) (i / 2) + i % 2) % 2 = i % 2 by omega]
      simp
  | W + 1, B, i, m + 1, hm => by
    have h : B % 2 = 0 ∨ B % 2 = 1 := by omega
    rw [rk_s, Nat.testBit_succ, Nat.testBit_succ]
    rcases h with h | h
    · rw [pd_e h, show 2 * pd W (B / 2) i / 2 = pd W (B / 2) i by omega, pd_bit W (B / 2) i m (by omega), h, Nat.zero_add]
    · rw [pd_o h, show (2 * pd W (B / 2) (i / 2) + i % 2) / 2 = pd W (B / 2) (i / 2) by omega, pd_bit W (B / 2) (i / 2) m (by omega), h, Nat.add_comm 1, Nat.testBit_succ]
theorem rk_bit : ∀ (m B : Nat), rk B (m + 1) = rk B m + (if B.testBit m = true then 1 else 0)
  | 0, B => by
    show B % 2 + 0 = 0 + _
    rw [Nat.testBit_zero]
    have h : B % 2 = 0 ∨ B % 2 = 1 := by omega
    rcases h with h | h <;> rw [h] <;> simp
  | m + 1, B => by
    rw [rk_s, rk_bit m (B / 2), rk_s B m, Nat.testBit_succ]
    omega
theorem rk_le : ∀ (m x y : Nat), (∀ j, j < m → x.testBit j = true → y.testBit j = true) → rk x m ≤ rk y m
  | 0, _, _, _ => Nat.le_refl 0
  | m + 1, x, y, h => by
    rw [rk_bit, rk_bit]
    have ih := rk_le m x y (fun j hj => h j (by omega))
    have hm := h m (by omega)
    by_cases c : x.testBit m = true
    · rw [if_pos c, if_pos (hm c)]; omega
    · rw [if_neg c]; split <;> omega
/-- the machine's numbers -/
theorem and_nat {a b : Nat} (hb : b < 2147483648) (x : Int) (hx : bv x = BitVec.ofNat 32 a) (ha : a < 4294967296) : pm_and x b = ((a &&& b : Nat) : Int) := by
  have e : pm_and x b = (bv x &&& bv b).toInt := rfl
  have eb : bv (b : Int) = BitVec.ofNat 32 b := by unfold bv; exact BitVec.ofInt_natCast ..
  have t : (bv x &&& bv (b : Int)).toNat = a &&& b := by
    rw [BitVec.toNat_and, hx, eb, BitVec.toNat_ofNat, BitVec.toNat_ofNat, Nat.mod_eq_of_lt (by omega), Nat.mod_eq_of_lt (by omega)]
  have lt : a &&& b ≤ b := Nat.and_le_right
  rw [e, BitVec.toInt_eq_toNat_of_lt (by omega), t]
theorem next_set {B i : Nat} (hB : B < 65536) (hi : i + 1 < 2 ^ rk B 16) : pm_and ((pd 16 B i : Int) - B) B = ((pd 16 B (i + 1) : Nat) : Int) := by
  have l := pd_le 16 B i
  have n := pd_next 16 32 B i hB (by omega) hi
  have l1 : pd 16 B i < pd 16 B (i + 1) := pd_lt 16 B i (i + 1) (by omega) hi
  have l2 := pd_le 16 B (i + 1)
  rw [and_nat (a := 2 ^ 32 - (B - pd 16 B i)) (by omega) _ ?_ (by omega), n]
  unfold bv
  apply BitVec.eq_of_toNat_eq
  rw [BitVec.toNat_ofInt, BitVec.toNat_ofNat]
  omega
theorem bt_nat {x m : Nat} (hx : x < 4294967296) : bt (x : Int) m = x.testBit m := by
  unfold bt bv
  rw [BitVec.ofInt_natCast]
  show (BitVec.ofNat 32 x).toNat.testBit m = _
  rw [BitVec.toNat_ofNat, Nat.mod_eq_of_lt (by omega)]
theorem uamt_all : ∀ m : Fin 17, (((Int32.ofInt ((m.val : Nat) : Int)).toUInt32 &&& Int32.toUInt32 31).toBitVec % 32).toNat = m.val := by decide +kernel
theorem ushr_nat {a k : Nat} (ha : a < 2147483648) (hk : k < 17) : pm_ushr (a : Int) (k : Int) = ((a >>> k : Nat) : Int) := by
  have e : pm_ushr (a : Int) (k : Int) = (bv (a : Int) >>> k).toInt := by
    show (((Int32.ofInt (a : Int)).toUInt32 >>> ((Int32.ofInt (k : Int)).toUInt32 &&& Int32.toUInt32 31)).toBitVec).toInt = _
    rw [UInt32.toBitVec_shiftRight, BitVec.ushiftRight_eq']
    have := uamt_all ⟨k, hk⟩
    dsimp only at this
    rw [this]
    rfl
  have eb : bv (a : Int) = BitVec.ofNat 32 a := by unfold bv; exact BitVec.ofInt_natCast ..
  have t : (bv (a : Int) >>> k).toNat = a >>> k := by
    rw [BitVec.toNat_ushiftRight, eb, BitVec.toNat_ofNat, Nat.mod_eq_of_lt (by omega)]
  have := Nat.shiftRight_le a k
  rw [e, BitVec.toInt_eq_toNat_of_lt (by omega), t]
def nbc1 (x : Nat) : Nat := x - ((x >>> 1) &&& 1431655765)
def nbc2 (t : Nat) : Nat := (t &&& 858993459) + ((t >>> 2) &&& 858993459)
def nbc3 (s : Nat) : Nat := (s + (s >>> 4)) &&& 252645135
def nbc4 (u : Nat) : Nat := u + (u >>> 8)
def nbc (x : Nat) : Nat := (nbc4 (nbc3 (nbc2 (nbc1 x))) + (nbc4 (nbc3 (nbc2 (nbc1 x))) >>> 16)) &&& 63
def pop16 (x : Nat) : Nat := x % 2 + (x / 2 % 2 + (x / 4 % 2 + (x / 8 % 2 + (x / 16 % 2 + (x / 32 % 2 + (x / 64 % 2 + (x / 128 % 2 + (x / 256 % 2 + (x / 512 % 2 + (x / 1024 % 2 + (x / 2048 % 2 + (x / 4096 % 2 + (x / 8192 % 2 + (x / 16384 % 2 + x / 32768 % 2))))))))))))))
