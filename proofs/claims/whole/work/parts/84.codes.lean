/-! Codes of subsets, class and model. -/
theorem bv_toNat16 {x : Int} (h : 0 ≤ x ∧ x < 65536) : (bv x).toNat < 65536 := by
  unfold bv
  rw [BitVec.toNat_ofInt]
  omega
theorem or_rng16 {x y : Int} (hx : 0 ≤ x ∧ x < 65536) (hy : 0 ≤ y ∧ y < 65536) : 0 ≤ pm_or x y ∧ pm_or x y < 65536 := by
  have e : pm_or x y = (bv x ||| bv y).toInt := rfl
  have h : (bv x ||| bv y).toNat < 2 ^ 16 := by
    rw [BitVec.toNat_or]
    exact Nat.or_lt_two_pow (bv_toNat16 hx) (bv_toNat16 hy)
  rw [e, BitVec.toInt_eq_toNat_of_lt (by omega)]
  omega
theorem shl_16 : ∀ m : Fin 16, 0 ≤ pm_shl 1 ((m.val : Nat) : Int) ∧ pm_shl 1 ((m.val : Nat) : Int) < 65536 := by decide +kernel
theorem shl_0 : ∀ m : Fin 16, pm_shl 0 ((m.val : Nat) : Int) = 0 := by decide +kernel
theorem shl_2 : ∀ m : Fin 9, pm_shl 1 ((m.val : Nat) : Int) = ((2 ^ m.val : Nat) : Int) := by decide +kernel
theorem bt_z (m : Nat) : bt 0 m = false := by unfold bt bv; simp
theorem opn_opc {z : Int → Int} : ∀ (n : Nat) (k : Int), 0 ≤ k → k < opn z n → (opn z (opc z n k).toNat : Int) = k
  | 0, k, h1, h2 => by unfold opn at h2; omega
  | n + 1, k, h1, h2 => by
    by_cases c : zopen z n
    · rw [opn_t c] at h2
      rw [opc_t c]
      by_cases e : k = opn z n
      · rw [if_pos e, Int.toNat_natCast]; exact e.symm
      · rw [if_neg e]; exact opn_opc n k h1 (by omega)
    · rw [opn_f c] at h2
      rw [opc_f c]; exact opn_opc n k h1 h2
/-- the open works' bits -/
theorem open_bits {h : pH} {z : Int → Int} {nw : Nat} (hw : h 22 15 = nw) (h16 : nw ≤ 16) (ho : ∀ w : Int, 0 ≤ w → w < nw → (h 33 w = 1 ↔ zopen z w)) :
    P_X10_openBits 22 h ∧ ∃ B : Nat, B < 65536 ∧ F_X10_openBits 22 h = B ∧ (∀ m : Nat, m < 16 → (B.testBit m = true ↔ m < nw ∧ zopen z m)) ∧ (∀ m : Nat, m ≤ nw → rk B m = opn z m) ∧ rk B 16 = opn z nw := by
  have key := fx_rule (σ := Int × Int) (c := fun t => C_X10_openBits_4 22 h t.1 t.2) (f := fun t => B_X10_openBits_4 22 h t.1 t.2) (P := fun t => P_X10_openBits_4 22 h t.1 t.2) (s0 := (0, 0)) nw
    (fun i t => t.2 = i ∧ i ≤ nw ∧ (0 ≤ t.1 ∧ t.1 < 65536) ∧ ∀ m : Nat, m < 16 → (bt t.1 m = true ↔ m < i ∧ zopen z m))
    ⟨rfl, by omega, by simp only; omega, fun m _ => by
      simp only
      rw [bt_z]
      exact ⟨fun y => absurd y (by simp), fun y => by omega⟩⟩ ?_ ?_
  · obtain ⟨k1, k2, k3, k4, k5⟩ := key
    refine ⟨k1, ?_⟩
    have k4' : 0 ≤ F_X10_openBits 22 h ∧ F_X10_openBits 22 h < 65536 := k4
    have k5' : ∀ m : Nat, m < 16 → (bt (F_X10_openBits 22 h) m = true ↔ m < nw ∧ zopen z m) := k5
    generalize F_X10_openBits 22 h = x at *
    obtain ⟨B, hB⟩ : ∃ B : Nat, x = B := ⟨x.toNat, by omega⟩
    subst hB
    have tb : ∀ m : Nat, m < 16 → (B.testBit m = true ↔ m < nw ∧ zopen z m) := fun m hm => by
      rw [← bt_nat (by omega)]; exact k5' m hm
    have r : ∀ m : Nat, m ≤ nw → rk B m = opn z m := by
      intro m
      induction m with
      | zero => intro _; rfl
      | succ m ih =>
        intro hm
        rw [rk_bit, ih (by omega)]
        have t := tb m (by omega)
        by_cases c : zopen z m
        · rw [opn_t c, if_pos (t.mpr ⟨by omega, c⟩)]
        · rw [opn_f c, if_neg (fun y => c (t.mp y).2)]; rfl
    have r2 : ∀ d : Nat, nw + d ≤ 16 → rk B (nw + d) = opn z nw := by
      intro d
      induction d with
      | zero => intro _; exact r nw (Nat.le_refl _)
      | succ d ih =>
        intro hd
        rw [show nw + (d + 1) = nw + d + 1 by omega, rk_bit, ih (by omega), if_neg (fun y => by have := ((tb (nw + d) (by omega)).mp y).1; omega)]
        rfl
    have r3 := r2 (16 - nw) (by omega)
    rw [show nw + (16 - nw) = 16 by omega] at r3
    exact ⟨B, by omega, rfl, tb, r, r3⟩
  · rintro i ⟨x1, x⟩ hi ⟨hx, hi2, hr, hb⟩
    simp only at hx hr hb
    subst hx
    have hoi := ho i (by omega) (by omega)
    have e : s_X10_openBits_1 22 x1 i h = if zopen z i then pm_or x1 (pm_shl 1 i) else x1 := by
      unfold s_X10_openBits_1
      rw [show (22 : Int) + 11 = 33 by omega]
      by_cases c : zopen z i
      · rw [if_pos (hoi.mpr c), if_pos c]
      · rw [if_neg (fun y => c (hoi.mp y)), if_neg c]
    refine ⟨?_, ?_, ?_, by omega, ?_, ?_⟩
    · simp only
      unfold P_X10_openBits_4 fx_i
      intro q
      omega
    · show (i : Int) < h 22 15
      omega
    · show (i : Int) + 1 = ((i + 1 : Nat) : Int)
      omega
    · show 0 ≤ s_X10_openBits_1 22 x1 i h ∧ s_X10_openBits_1 22 x1 i h < 65536
      rw [e]
      split
      · exact or_rng16 hr (shl_16 ⟨i, by omega⟩)
      · exact hr
    · intro m hm
      show bt (s_X10_openBits_1 22 x1 i h) m = true ↔ _
      rw [e]
      by_cases c : zopen z i
      · rw [if_pos c, bt_on (by omega) hm, Bool.or_eq_true, hb m hm, decide_eq_true_iff]
        constructor
        · rintro (y | y)
          · exact ⟨by omega, y.2⟩
          · rw [y]; exact ⟨by omega, c⟩
        · rintro ⟨y1, y2⟩
          by_cases y : m = i
          · exact Or.inr y
          · exact Or.inl ⟨by omega, y2⟩
      · rw [if_neg c, hb m hm]
        constructor
        · rintro ⟨y1, y2⟩; exact ⟨by omega, y2⟩
        · rintro ⟨y1, y2⟩
          by_cases y : m = i
          · rw [y] at y2; exact absurd y2 c
          · exact ⟨by omega, y2⟩
  · rintro ⟨x1, x⟩ ⟨hx, -⟩
    simp only at hx
    subst hx
    refine ⟨?_, ?_⟩
    · show P_X10_openBits_4 22 h x1 nw
      unfold P_X10_openBits_4
      rw [hw]
      intro q; omega
    · show ¬ (nw : Int) < h 22 15
      omega
/-- the model's set of one code -/
theorem code_set {g : pH} {z : Int → Int} {nw B : Nat} (h16 : nw ≤ 16) (hB : B < 65536) (tb : ∀ m : Nat, m < 16 → (B.testBit m = true ↔ m < nw ∧ zopen z m)) (r : ∀ m : Nat, m ≤ nw → rk B m = opn z m) (e67 : ∀ k : Int, 0 ≤ k → k < opn z nw → g 267 k = opc z nw k) (a1 y3 x4 : Int) {c : Nat} (hc : c < 65536) :
    O_X12_without_37 a1 (opn z nw) y3 x4 c g 0 0 ∧ s_X12_without_1 a1 (opn z nw) y3 x4 c g = pd 16 B c := by
  have ole := opn_le (z := z) nw
  have key := fx_rule (σ := Int × Int) (c := fun t => C_X12_without_37 a1 (opn z nw) y3 x4 c g t.1 t.2) (f := fun t => B_X12_without_37 a1 (opn z nw) y3 x4 c g t.1 t.2) (P := fun t => P_X12_without_37 a1 (opn z nw) y3 x4 c g t.1 t.2) (s0 := (0, 0)) (opn z nw)
    (fun i t => t.2 = i ∧ i ≤ opn z nw ∧ (0 ≤ t.1 ∧ t.1 < 65536) ∧ ∀ m : Nat, m < 16 → (bt t.1 m = true ↔ ∃ k : Nat, k < i ∧ opc z nw k = m ∧ c.testBit k = true))
    ⟨rfl, by omega, by simp only; omega, fun m _ => by
      simp only
      rw [bt_z]
      exact ⟨fun y => absurd y (by simp), fun ⟨k, y, _⟩ => by omega⟩⟩ ?_ ?_
  · obtain ⟨k1, k2, k3, k4, k5⟩ := key
    refine ⟨k1, ?_⟩
    have k4' : 0 ≤ s_X12_without_1 a1 (opn z nw) y3 x4 c g ∧ s_X12_without_1 a1 (opn z nw) y3 x4 c g < 65536 := k4
    have k5' : ∀ m : Nat, m < 16 → (bt (s_X12_without_1 a1 (opn z nw) y3 x4 c g) m = true ↔ ∃ k : Nat, k < opn z nw ∧ opc z nw k = m ∧ c.testBit k = true) := k5
    generalize s_X12_without_1 a1 (opn z nw) y3 x4 c g = x at *
    obtain ⟨y, hy⟩ : ∃ y : Nat, x = y := ⟨x.toNat, by omega⟩
    subst hy
    have pl := pd_le 16 B c
    congr 1
    apply Nat.eq_of_testBit_eq
    intro m
    by_cases hm : m < 16
    · rw [Bool.eq_iff_iff, ← bt_nat (by omega), k5' m hm, pd_bit 16 B c m hm, Bool.and_eq_true, tb m hm]
      constructor
      · rintro ⟨k, q1, q2, q3⟩
        obtain ⟨o1, o2, o3⟩ := opc_rng (z := z) nw k (by omega) (by omega)
        have oo := opn_opc (z := z) nw k (by omega) (by omega)
        rw [q2] at o2 o3 oo
        rw [Int.toNat_natCast] at oo
        rw [r m (by omega), show opn z m = k by omega]
        exact ⟨⟨by omega, o3⟩, q3⟩
      · rintro ⟨⟨q1, q2⟩, q3⟩
        obtain ⟨k, q4, q5, q6⟩ := opc_sur (z := z) nw m (by omega) (by omega) q2
        have oo := opn_opc (z := z) nw k q4 q5
        rw [q6, Int.toNat_natCast] at oo
        rw [r m (by omega)] at q3
        exact ⟨opn z m, by omega, by rw [oo]; exact q6, q3⟩
    · have t : ∀ v : Nat, v < 65536 → v.testBit m = false := fun v hv => Nat.testBit_lt_two_pow (Nat.lt_of_lt_of_le hv (by
        have : (2 : Nat) ^ 16 ≤ 2 ^ m := Nat.pow_le_pow_right (by omega) (by omega)
        exact this))
      rw [t y (by omega), t _ (by omega)]
  · rintro i ⟨x6, x⟩ hi ⟨hx, hi2, hr, hb⟩
    simp only at hx hr hb
    subst hx
    obtain ⟨o1, o2, o3⟩ := opc_rng (z := z) nw i (by omega) (by omega)
    obtain ⟨w, hw⟩ : ∃ w : Nat, opc z nw i = w := ⟨(opc z nw i).toNat, by omega⟩
    have bit := bt_test (x := (c : Int)) (m := i) (by omega)
    rw [bt_nat (by omega)] at bit
    have e : pm_or x6 (pm_shl (pm_and (pm_shr c i) 1) (g 267 i)) = if c.testBit i = true then pm_or x6 (pm_shl 1 w) else pm_or x6 0 := by
      rw [bit, e67 i (by omega) (by omega), hw]
      by_cases y : c.testBit i = true
      · rw [if_pos y, if_pos y]
      · rw [if_neg y, if_neg y]
        have := shl_0 ⟨w, by omega⟩
        simp only at this
        rw [this]
    refine ⟨?_, ?_, ?_, by omega, ?_, ?_⟩
    · simp only
      unfold P_X12_without_37 fx_i
      intro q
      omega
    · show (i : Int) < opn z nw
      omega
    · show (i : Int) + 1 = ((i + 1 : Nat) : Int)
      omega
    · show 0 ≤ pm_or x6 (pm_shl (pm_and (pm_shr c i) 1) (g 267 i)) ∧ pm_or x6 (pm_shl (pm_and (pm_shr c i) 1) (g 267 i)) < 65536
      rw [e]
      split
      · exact or_rng16 hr (shl_16 ⟨w, by omega⟩)
      · exact or_rng16 hr (by omega)
    · intro m hm
      show bt (pm_or x6 (pm_shl (pm_and (pm_shr c i) 1) (g 267 i))) m = true ↔ _
      rw [e]
      by_cases y : c.testBit i = true
      · rw [if_pos y, bt_on (by omega) hm, Bool.or_eq_true, hb m hm, decide_eq_true_iff]
        constructor
        · rintro (⟨k, q1, q2, q3⟩ | q)
          · exact ⟨k, by omega, q2, q3⟩
          · exact ⟨i, by omega, by rw [hw, q], y⟩
        · rintro ⟨k, q1, q2, q3⟩
          by_cases q : k = i
          · rw [q, hw] at q2; exact Or.inr (by omega)
          · exact Or.inl ⟨k, by omega, q2, q3⟩
      · rw [if_neg y, bt_or, bt_z, Bool.or_false, hb m hm]
        constructor
        · rintro ⟨k, q1, q2, q3⟩; exact ⟨k, by omega, q2, q3⟩
        · rintro ⟨k, q1, q2, q3⟩
          by_cases q : k = i
          · rw [q] at q3; exact absurd q3 y
          · exact ⟨k, by omega, q2, q3⟩
  · rintro ⟨x6, x⟩ ⟨hx, -⟩
    simp only at hx
    subst hx
    refine ⟨?_, ?_⟩
    · show P_X12_without_37 a1 (opn z nw) y3 x4 c g x6 (opn z nw)
      unfold P_X12_without_37
      intro q; omega
    · show ¬ (opn z nw : Int) < opn z nw
      omega
/-- the model marks a set -/
theorem mark_set {g : pH} {nw : Nat} (hw : g 249 13 = nw) (h16 : nw ≤ 16) (a1 y2 y3 x4 x5 s : Int) :
    O_X12_without_79 a1 y2 y3 x4 x5 s 0 g ∧ (∀ a, a ≠ 249 → (L_X12_without_79 a1 y2 y3 x4 x5 s 0 g).2 a = g a) ∧ ∀ k : Int, (L_X12_without_79 a1 y2 y3 x4 x5 s 0 g).2 249 k = mrk (g 249) s nw k := by
  have key := fx_rule (σ := Int × pH) (c := fun t => C_X12_without_79 a1 y2 y3 x4 x5 s t.1 t.2) (f := fun t => B_X12_without_79 a1 y2 y3 x4 x5 s t.1 t.2) (P := fun t => P_X12_without_79 a1 y2 y3 x4 x5 s t.1 t.2) (s0 := (0, g)) nw
    (fun i t => t.1 = i ∧ i ≤ nw ∧ (∀ a, a ≠ 249 → t.2 a = g a) ∧ ∀ k : Int, t.2 249 k = mrk (g 249) s i k)
    ⟨rfl, by omega, fun _ _ => rfl, fun k => by simp only; unfold mrk; rw [if_neg (fun y => by omega)]⟩ ?_ ?_
  · exact ⟨key.1, key.2.2.2.1, key.2.2.2.2⟩
  · rintro i ⟨x, g'⟩ hi ⟨hx, hi2, hf, hv⟩
    simp only at hx hf hv
    subst hx
    have e13 : g' 249 13 = nw := by rw [hv, mrk_n (by omega)]; exact hw
    have bit := bt_test (x := s) (m := i) (by omega)
    refine ⟨?_, ?_, ?_, by omega, ?_, ?_⟩
    · simp only
      unfold P_X12_without_79 fx_i
      intro q
      exact ⟨by omega, fun _ => by omega, by omega, by omega⟩
    · show (i : Int) < g' 249 13
      omega
    · show (i : Int) + 1 = ((i + 1 : Nat) : Int)
      omega
    · intro a ha
      exact (up_cell g' ha).trans (hf a ha)
    · intro k
      show pm_upd g' 249 (328 + i) (s_X12_without_3 s i g') 249 k = _
      unfold s_X12_without_3
      rw [bit]
      by_cases y : k = 328 + i
      · subst y
        rw [up_eq, mrk_w (by omega), hv, mrk_n (by omega)]
        by_cases c : bt s i = true
        · rw [if_pos c, if_pos c, if_pos rfl]
        · rw [if_neg c, if_neg c, if_neg (by omega)]
      · rw [up_pl _ y, hv]
        unfold mrk
        exact ite_iff _ _ _ _ ⟨fun q => ⟨by omega, q.2⟩, fun q => ⟨by omega, q.2⟩⟩
  · rintro ⟨x, g'⟩ ⟨hx, hi2, hf, hv⟩
    simp only at hx hv
    subst hx
    have e13 : g' 249 13 = nw := by rw [hv, mrk_n (by omega)]; exact hw
    refine ⟨?_, ?_⟩
    · show P_X12_without_79 a1 y2 y3 x4 x5 s nw g'
      unfold P_X12_without_79
      intro q; omega
    · show ¬ (nw : Int) < g' 249 13
      omega
theorem trial_rel {h : pH} {z : Int → Int} {nm nw : Nat} {T s : Int} (q : hl 1 h z nm nw T) {g : pH} (eg : ∀ k : Int, 0 ≤ k → k < 620 → g 249 k = mrk z s nw k) : ∃ h2, hl 47 h2 (g 249) nm nw T := by
  obtain ⟨c1, c2⟩ := hl_copy (d := 47) (s := 1) (by omega) q (fun _ _ _ => rfl)
  obtain ⟨l1, l2, l3⟩ := leave_out c1 s
  exact ⟨_, hl_cg l3 (fun _ _ _ => rfl) eg⟩
