/-! Products in limbs. -/
theorem ofInt_nat {x : Int} (h : 0 ≤ x ∧ x < 9223372036854775808) : (BitVec.ofInt 64 x).toNat = x.toNat := by
  rw [BitVec.toNat_ofInt]
  have : x % ((2 ^ 64 : Nat) : Int) = x := Int.emod_eq_of_lt h.1 (by omega)
  rw [this]
theorem landl_mod {x : Int} (h : 0 ≤ x ∧ x < 9223372036854775808) : pm_landl x 1125899906842623 = x % 1125899906842624 := by
  unfold pm_landl
  have e : (Int64.ofInt x &&& Int64.ofInt 1125899906842623).toBitVec = BitVec.ofInt 64 x &&& BitVec.ofInt 64 1125899906842623 := rfl
  rw [← Int64.toInt_toBitVec, e]
  have hn : (BitVec.ofInt 64 x &&& BitVec.ofInt 64 1125899906842623).toNat = x.toNat % 2 ^ 50 := by
    rw [BitVec.toNat_and, ofInt_nat h, ofInt_nat (by omega), show (1125899906842623 : Int).toNat = 2 ^ 50 - 1 by rfl, Nat.and_two_pow_sub_one_eq_mod]
  rw [BitVec.toInt_eq_toNat_of_lt (by rw [hn]; omega), hn]
  omega
theorem lushr_div {x : Int} (h : 0 ≤ x ∧ x < 9223372036854775808) : pm_lushr x 50 = x / 1125899906842624 := by
  unfold pm_lushr
  have hk : ((Int32.ofInt 50).toInt64.toUInt64 &&& Int64.toUInt64 63) = 50 := by decide
  rw [hk, ← Int64.toInt_toBitVec, UInt64.toBitVec_toInt64]
  have hn : ((Int64.ofInt x).toUInt64 >>> (50 : UInt64)).toBitVec.toNat = x.toNat / 2 ^ 50 := by
    show ((Int64.ofInt x).toUInt64 >>> (50 : UInt64)).toNat = _
    rw [UInt64.toNat_shiftRight]
    have e : ((Int64.ofInt x).toUInt64).toNat = x.toNat := ofInt_nat h
    rw [e, Nat.shiftRight_eq_div_pow]
    rfl
  rw [BitVec.toInt_eq_toNat_of_lt (by rw [hn]; omega), hn]
  omega
noncomputable def bp (p : Int) : Nat → Int
  | 0 => 1
  | n + 1 => p * bp p n
noncomputable def vl (p : Int) (f : Int → Int) : Nat → Int
  | 0 => 0
  | n + 1 => vl p f n + f n * bp p n
theorem bp_pos {p : Int} (hp : 1 ≤ p) : ∀ n : Nat, 1 ≤ bp p n
  | 0 => Int.le_refl 1
  | n + 1 => by
    have ih := bp_pos hp n
    show 1 ≤ p * bp p n
    have := Int.mul_le_mul hp ih (by omega) (by omega)
    omega
theorem vl_cg {p : Int} {f g : Int → Int} : ∀ n : Nat, (∀ i : Int, 0 ≤ i → i < n → f i = g i) → vl p f n = vl p g n
  | 0, _ => rfl
  | n + 1, h => by
    show vl p f n + f n * bp p n = vl p g n + g n * bp p n
    rw [vl_cg n (fun i h1 h2 => h i h1 (by omega)), h n (by omega) (by omega)]
theorem vl_bd {p : Int} (hp : 1 ≤ p) {f : Int → Int} : ∀ n : Nat, (∀ i : Int, 0 ≤ i → i < n → 0 ≤ f i ∧ f i < p) → 0 ≤ vl p f n ∧ vl p f n < bp p n
  | 0, _ => ⟨Int.le_refl 0, by show (0 : Int) < 1; omega⟩
  | n + 1, h => by
    have ih := vl_bd hp n (fun i h1 h2 => h i h1 (by omega))
    have hf := h n (by omega) (by omega)
    have hb := bp_pos hp n
    show 0 ≤ vl p f n + f n * bp p n ∧ vl p f n + f n * bp p n < p * bp p n
    have m1 : 0 ≤ f n * bp p n := Int.mul_nonneg hf.1 (by omega)
    have m2 : f n * bp p n ≤ (p - 1) * bp p n := Int.mul_le_mul_of_nonneg_right (by omega) (by omega)
    have m3 : (p - 1) * bp p n = p * bp p n - bp p n := by rw [Int.sub_mul, Int.one_mul]
    omega
theorem vl_lt {p : Int} (hp : 1 ≤ p) {f g : Int → Int} (k : Nat) (hk : f k < g k) : ∀ n : Nat, k < n → (∀ i : Int, 0 ≤ i → i < n → 0 ≤ f i ∧ f i < p) → (∀ i : Int, 0 ≤ i → i < n → 0 ≤ g i ∧ g i < p) → (∀ i : Int, k < i → i < n → f i = g i) → vl p f n < vl p g n
  | 0, h, _, _, _ => absurd h (Nat.not_lt_zero k)
  | n + 1, h, hf, hg, e => by
    show vl p f n + f n * bp p n < vl p g n + g n * bp p n
    by_cases c : k = n
    · subst c
      have a := vl_bd hp k (fun i h1 h2 => hf i h1 (by omega))
      have b := vl_bd hp k (fun i h1 h2 => hg i h1 (by omega))
      have hb := bp_pos hp k
      have m : (f k + 1) * bp p k ≤ g k * bp p k := Int.mul_le_mul_of_nonneg_right (by omega) (by omega)
      rw [Int.add_mul, Int.one_mul] at m
      omega
    · have ih := vl_lt hp k hk n (by omega) (fun i h1 h2 => hf i h1 (by omega)) (fun i h1 h2 => hg i h1 (by omega)) (fun i h1 h2 => e i h1 (by omega))
      rw [e n (by omega) (by omega)]
      omega
/-- one limb -/
theorem limb {p a o c q r vn vo P : Int} (e : o * a + c = p * q + r) (ih : vn + c * P = a * vo) : (vn + r * P) + q * (p * P) = a * (vo + o * P) := by
  have h1 : (vn + r * P) + q * (p * P) = vn + (p * q + r) * P := by
    rw [Int.add_mul, ← Int.mul_assoc, Int.mul_comm q p]; omega
  rw [h1, ← e, Int.add_mul, Int.mul_add, show o * a * P = a * (o * P) by rw [Int.mul_comm o a, Int.mul_assoc]]
  omega
/-- the class's row -/
noncomputable def TRW (h : pH) (c : Int) (u : Nat) (v : Int) : Prop := 1 ≤ u ∧ u ≤ 13 ∧ (∀ i : Int, 0 ≤ i → i < u → 0 ≤ h c i ∧ h c i < 1125899906842624) ∧ (∀ i : Int, u ≤ i → i < 13 → h c i = 0) ∧ vl 1125899906842624 (h c) u = v
theorem mult_X {h : pH} {c a v : Int} {u : Nat} (t : TRW h c u v) (h1 : h 153 1 = c) (h2 : h 153 2 = u) (hc : c ≠ 153) (ha : 1 ≤ a ∧ a ≤ 1000) (hv : v * a < bp 1125899906842624 13) :
    P_X3_multiply a h ∧ ∃ u' : Nat, TRW (H_X3_multiply a h) c u' (v * a) ∧ H_X3_multiply a h 153 2 = u' ∧ (∀ a', a' ≠ 153 → a' ≠ c → H_X3_multiply a h a' = h a') ∧ (∀ k : Int, k ≠ 2 → H_X3_multiply a h 153 k = h 153 k) := by
  obtain ⟨t1, t2, t3, t4, t5⟩ := t
  have key := fx_rule (σ := Int × Int × pH) (c := fun s => C_X3_multiply_4 a s.1 s.2.1 s.2.2) (f := fun s => B_X3_multiply_4 a s.1 s.2.1 s.2.2) (P := fun s => P_X3_multiply_4 a s.1 s.2.1 s.2.2) (s0 := (0, 0, h)) u
    (fun i s => i ≤ u ∧ (0 ≤ s.1 ∧ s.1 ≤ 1000) ∧ s.2.1 = (i : Int) ∧ (∀ a', a' ≠ c → s.2.2 a' = h a') ∧ (∀ j : Int, 0 ≤ j → j < i → 0 ≤ s.2.2 c j ∧ s.2.2 c j < 1125899906842624) ∧ (∀ j : Int, i ≤ j → s.2.2 c j = h c j) ∧ vl 1125899906842624 (s.2.2 c) i + s.1 * bp 1125899906842624 i = a * vl 1125899906842624 (h c) i)
    ⟨by omega, by show (0 : Int) ≤ 0 ∧ (0 : Int) ≤ 1000; omega, rfl, fun _ _ => rfl, fun j e1 e2 => by omega, fun _ _ => rfl, by show (0 : Int) + 0 * 1 = a * 0; omega⟩
    (by
      rintro i ⟨cy, j, hh⟩ hi ⟨i0, e1, e2, e3, e4, e5, e6⟩
      dsimp only at e1 e2 e3 e4 e5 e6
      subst e2
      have d := t3 i (by omega) (by omega)
      have eo : hh c (i : Int) = h c i := e5 i (Int.le_refl _)
      have f1 : hh 153 1 = c := by rw [e3 153 (fun z => hc z.symm)]; exact h1
      have f2 : hh 153 2 = u := by rw [e3 153 (fun z => hc z.symm)]; exact h2
      have m0 : 0 ≤ h c i * a := Int.mul_nonneg d.1 (by omega)
      have m1 : h c i * a ≤ 1125899906842623 * 1000 := Int.mul_le_mul (by omega) ha.2 (by omega) (by omega)
      have rng : 0 ≤ h c i * a + cy ∧ h c i * a + cy < 9223372036854775808 := by omega
      have eB : B_X3_multiply_4 a cy i hh = ((h c i * a + cy) / 1125899906842624, (i : Int) + 1, pm_upd hh c i ((h c i * a + cy) % 1125899906842624)) := by
        unfold B_X3_multiply_4 s_X3_multiply_1
        rw [f1, eo, landl_mod rng, lushr_div rng]
      refine ⟨fun _ => ?_, ?_, by omega, ?_⟩
      · show (0 ≤ (i : Int) ∧ (i : Int) < 13) ∧ fx_l (hh (hh 153 1) i * a) ∧ fx_l (hh (hh 153 1) i * a + cy) ∧ fx_i ((i : Int) + 1)
        rw [f1, eo]
        unfold fx_l fx_i
        omega
      · show (i : Int) < hh 153 2
        rw [f2]; omega
      · dsimp only
        rw [eB]
        have hq : 0 ≤ (h c i * a + cy) / 1125899906842624 ∧ (h c i * a + cy) / 1125899906842624 ≤ 1000 := by omega
        refine ⟨hq, by show (i : Int) + 1 = _; omega, fun a' e => ?_, fun k k1 k2 => ?_, fun k k1 => ?_, ?_⟩
        · show pm_upd hh c i _ a' = _
          rw [up_cell _ e]; exact e3 a' e
        · show 0 ≤ pm_upd hh c i ((h c i * a + cy) % 1125899906842624) c k ∧ pm_upd hh c i ((h c i * a + cy) % 1125899906842624) c k < _
          by_cases y : k = i
          · rw [y, up_eq]; omega
          · rw [up_pl _ y]; exact e4 k k1 (by omega)
        · show pm_upd hh c i _ c k = _
          rw [up_pl _ (by omega)]; exact e5 k (by omega)
        · show vl 1125899906842624 (pm_upd hh c i ((h c i * a + cy) % 1125899906842624) c) i + pm_upd hh c i ((h c i * a + cy) % 1125899906842624) c i * bp 1125899906842624 i + (h c i * a + cy) / 1125899906842624 * (1125899906842624 * bp 1125899906842624 i) = a * (vl 1125899906842624 (h c) i + h c i * bp 1125899906842624 i)
          rw [up_eq, vl_cg (g := hh c) i (fun k k1 k2 => up_pl _ (by omega))]
          exact limb (c := cy) (by omega) e6)
    (by
      rintro ⟨cy, j, hh⟩ ⟨i0, e1, e2, e3, e4, e5, e6⟩
      dsimp only at e2 e3
      subst e2
      have f2 : hh 153 2 = u := by rw [e3 153 (fun z => hc z.symm)]; exact h2
      have z0 : ¬ ((u : Int) < hh 153 2) := by rw [f2]; omega
      exact ⟨fun z => absurd z z0, z0⟩)
  obtain ⟨o, k0, k1, k2, k3, k4, k5, k6⟩ := key
  obtain ⟨hh, ehh⟩ : ∃ x, x = (L_X3_multiply_4 a 0 0 h).2.2 := ⟨_, rfl⟩
  obtain ⟨cy, ecy⟩ : ∃ x, x = (L_X3_multiply_4 a 0 0 h).1 := ⟨_, rfl⟩
  have k1 : 0 ≤ cy ∧ cy ≤ 1000 := by rw [ecy]; exact k1
  have k3 : ∀ a', a' ≠ c → hh a' = h a' := by rw [ehh]; exact k3
  have k4 : ∀ j : Int, 0 ≤ j → j < u → 0 ≤ hh c j ∧ hh c j < 1125899906842624 := by rw [ehh]; exact k4
  have k5 : ∀ j : Int, u ≤ j → hh c j = h c j := by rw [ehh]; exact k5
  have k6 : vl 1125899906842624 (hh c) u + cy * bp 1125899906842624 u = a * v := by rw [ehh, ecy, ← t5]; exact k6
  have f2 : hh 153 2 = u := by rw [k3 153 (fun z => hc z.symm)]; exact h2
  have f1 : hh 153 1 = c := by rw [k3 153 (fun z => hc z.symm)]; exact h1
  have hb := vl_bd (p := 1125899906842624) (by omega) u k4
  have e4 : H_X3_multiply a h = if cy ≤ 0 then hh else if 13 ≤ (u : Int) then hh else pm_upd (pm_upd hh c u cy) 153 2 (u + 1) := by
    unfold H_X3_multiply s_X3_multiply_4 s_X3_multiply_3 s_X3_multiply_2
    rw [← ehh, ← ecy, f2, f1, up_cell _ (fun z => hc z.symm), f2]
  by_cases c0 : cy ≤ 0
  · have cz : cy = 0 := by omega
    rw [if_pos c0] at e4
    refine ⟨⟨o, fun z => ?_⟩, u, ⟨t1, t2, ?_, ?_, ?_⟩, ?_, ?_, ?_⟩
    · rw [← ecy] at z; omega
    · rw [e4]; exact k4
    · rw [e4]; exact fun i i1 i2 => by rw [k5 i i1]; exact t4 i i1 i2
    · rw [e4]
      rw [cz, Int.zero_mul, Int.mul_comm a v] at k6
      omega
    · rw [e4]; exact f2
    · rw [e4]; exact fun a' _ e => k3 a' e
    · rw [e4]; exact fun k _ => by rw [k3 153 (fun z => hc z.symm)]
  · have u13 : u < 13 := by
      by_cases y : u < 13
      · exact y
      · exfalso
        have : u = 13 := by omega
        subst this
        have m : 1 * bp 1125899906842624 13 ≤ cy * bp 1125899906842624 13 := Int.mul_le_mul_of_nonneg_right (by omega) (by have := bp_pos (p := 1125899906842624) (by omega) 13; omega)
        rw [Int.one_mul] at m
        rw [Int.mul_comm a v] at k6
        omega
    rw [if_neg c0, if_neg (by omega)] at e4
    refine ⟨⟨o, fun _ _ => ?_⟩, u + 1, ⟨by omega, by omega, ?_, ?_, ?_⟩, ?_, ?_, ?_⟩
    · rw [← ehh, f2]
      unfold s_X3_multiply_2
      rw [← ehh, f1, up_cell _ (fun z => hc z.symm), f2]
      unfold fx_i
      omega
    · rw [e4]
      intro i i1 i2
      rw [up_cell _ hc]
      by_cases y : i = u
      · rw [y, up_eq]; omega
      · rw [up_pl _ y]; exact k4 i i1 (by omega)
    · rw [e4]
      intro i i1 i2
      rw [up_cell _ hc, up_pl _ (by omega), k5 i (by omega)]
      exact t4 i (by omega) i2
    · rw [e4]
      show vl 1125899906842624 (pm_upd (pm_upd hh c u cy) 153 2 (u + 1) c) u + pm_upd (pm_upd hh c u cy) 153 2 (u + 1) c u * bp 1125899906842624 u = v * a
      rw [up_cell _ hc, up_eq, vl_cg (g := hh c) u (fun k k1 k2 => up_pl _ (by omega)), k6]
      exact Int.mul_comm a v
    · rw [e4, up_eq]; omega
    · rw [e4]; exact fun a' e1 e2 => by rw [up_cell _ e1, up_cell _ e2]; exact k3 a' e2
    · rw [e4]; exact fun k e => by rw [up_pl _ e, up_cell _ (fun z => hc z.symm), k3 153 (fun z => hc z.symm)]
/-- the model's row -/
noncomputable def WRW (g : pH) (c : Int) (v : Int) : Prop := (∀ i : Int, 0 ≤ i → i < 24 → 0 ≤ g c i ∧ g c i < 1000000000) ∧ vl 1000000000 (g c) 24 = v
theorem times_M {g : pH} {a v : Int} (t : WRW g 268 v) (ha : 1 ≤ a ∧ a ≤ 1000) (hv : v * a < bp 1000000000 24) : P_X12_times a g ∧ WRW (H_X12_times a g) 268 (v * a) ∧ ∀ a', a' ≠ 268 → H_X12_times a g a' = g a' := by
  obtain ⟨t3, t5⟩ := t
  have key := fx_rule (σ := Int × Int × pH) (c := fun s => C_X12_times_4 a s.1 s.2.1 s.2.2) (f := fun s => B_X12_times_4 a s.1 s.2.1 s.2.2) (P := fun s => P_X12_times_4 a s.1 s.2.1 s.2.2) (s0 := (0, 0, g)) 24
    (fun i s => i ≤ 24 ∧ (0 ≤ s.1 ∧ s.1 ≤ 1000) ∧ s.2.1 = (i : Int) ∧ (∀ a', a' ≠ 268 → s.2.2 a' = g a') ∧ (∀ j : Int, 0 ≤ j → j < i → 0 ≤ s.2.2 268 j ∧ s.2.2 268 j < 1000000000) ∧ (∀ j : Int, i ≤ j → s.2.2 268 j = g 268 j) ∧ vl 1000000000 (s.2.2 268) i + s.1 * bp 1000000000 i = a * vl 1000000000 (g 268) i)
    ⟨by omega, by show (0 : Int) ≤ 0 ∧ (0 : Int) ≤ 1000; omega, rfl, fun _ _ => rfl, fun j e1 e2 => by omega, fun _ _ => rfl, by show (0 : Int) + 0 * 1 = a * 0; omega⟩
    (by
      rintro i ⟨cy, j, hh⟩ hi ⟨i0, e1, e2, e3, e4, e5, e6⟩
      dsimp only at e1 e2 e3 e4 e5 e6
      subst e2
      have d := t3 i (by omega) (by omega)
      have eo : hh 268 (i : Int) = g 268 i := e5 i (Int.le_refl _)
      have m0 : 0 ≤ g 268 i * a := Int.mul_nonneg d.1 (by omega)
      have m1 : g 268 i * a ≤ 999999999 * 1000 := Int.mul_le_mul (by omega) ha.2 (by omega) (by omega)
      have td : Int.tdiv (g 268 i * a + cy) 1000000000 = (g 268 i * a + cy) / 1000000000 := Int.tdiv_eq_ediv_of_nonneg (by omega)
      have tm : Int.tmod (g 268 i * a + cy) 1000000000 = (g 268 i * a + cy) % 1000000000 := Int.tmod_eq_emod_of_nonneg (by omega)
      have eB : B_X12_times_4 a cy i hh = ((g 268 i * a + cy) / 1000000000, (i : Int) + 1, pm_upd hh 268 i ((g 268 i * a + cy) % 1000000000)) := by
        unfold B_X12_times_4 s_X12_times_1
        rw [eo, td, tm]
      refine ⟨fun _ => ?_, by show (i : Int) < 24; omega, by omega, ?_⟩
      · show (0 ≤ (i : Int) ∧ (i : Int) < 24) ∧ fx_l (hh 268 i * a) ∧ fx_l (hh 268 i * a + cy) ∧ fx_l (Int.tdiv (hh 268 i * a + cy) 1000000000) ∧ fx_i ((i : Int) + 1)
        rw [eo, td]
        unfold fx_l fx_i
        omega
      · dsimp only
        rw [eB]
        have hq : 0 ≤ (g 268 i * a + cy) / 1000000000 ∧ (g 268 i * a + cy) / 1000000000 ≤ 1000 := by omega
        refine ⟨hq, by show (i : Int) + 1 = _; omega, fun a' e => ?_, fun k k1 k2 => ?_, fun k k1 => ?_, ?_⟩
        · show pm_upd hh 268 i _ a' = _
          rw [up_cell _ e]; exact e3 a' e
        · show 0 ≤ pm_upd hh 268 i ((g 268 i * a + cy) % 1000000000) 268 k ∧ pm_upd hh 268 i ((g 268 i * a + cy) % 1000000000) 268 k < _
          by_cases y : k = i
          · rw [y, up_eq]; omega
          · rw [up_pl _ y]; exact e4 k k1 (by omega)
        · show pm_upd hh 268 i _ 268 k = _
          rw [up_pl _ (by omega)]; exact e5 k (by omega)
        · show vl 1000000000 (pm_upd hh 268 i ((g 268 i * a + cy) % 1000000000) 268) i + pm_upd hh 268 i ((g 268 i * a + cy) % 1000000000) 268 i * bp 1000000000 i + (g 268 i * a + cy) / 1000000000 * (1000000000 * bp 1000000000 i) = a * (vl 1000000000 (g 268) i + g 268 i * bp 1000000000 i)
          rw [up_eq, vl_cg (g := hh 268) i (fun k k1 k2 => up_pl _ (by omega))]
          exact limb (c := cy) (by omega) e6)
    (by
      rintro ⟨cy, j, hh⟩ ⟨i0, e1, e2, -⟩
      dsimp only at e2
      subst e2
      exact ⟨fun z => by have z' : ((24 : Nat) : Int) < 24 := z; omega, by show ¬ (((24 : Nat) : Int) < 24); omega⟩)
  obtain ⟨o, k0, k1, k2, k3, k4, k5, k6⟩ := key
  have k6 : vl 1000000000 (H_X12_times a g 268) 24 + (L_X12_times_4 a 0 0 g).1 * bp 1000000000 24 = a * vl 1000000000 (g 268) 24 := k6
  have k1 : 0 ≤ (L_X12_times_4 a 0 0 g).1 ∧ (L_X12_times_4 a 0 0 g).1 ≤ 1000 := k1
  have k4 : ∀ j : Int, 0 ≤ j → j < ((24 : Nat) : Int) → 0 ≤ H_X12_times a g 268 j ∧ H_X12_times a g 268 j < 1000000000 := k4
  have hb := vl_bd (p := 1000000000) (by omega) 24 k4
  refine ⟨o, ⟨fun i i1 i2 => k4 i i1 (by omega), ?_⟩, k3⟩
  rw [t5, Int.mul_comm a v] at k6
  have cz : (L_X12_times_4 a 0 0 g).1 = 0 := by
    by_cases y : (L_X12_times_4 a 0 0 g).1 = 0
    · exact y
    · exfalso
      have m : 1 * bp 1000000000 24 ≤ (L_X12_times_4 a 0 0 g).1 * bp 1000000000 24 := Int.mul_le_mul_of_nonneg_right (by omega) (by have := bp_pos (p := 1000000000) (by omega) 24; omega)
      rw [Int.one_mul] at m
      omega
  rw [cz, Int.zero_mul] at k6
  omega
