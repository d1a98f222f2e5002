/-! The order of works: an insertion sort, the same in class and model. -/
def zpos (key arr : Int → Int) (i : Int) : Nat → Nat
  | 0 => 0
  | p + 1 => if key i < key (arr p) then zpos key arr i p else p + 1
theorem zpos_le (key arr : Int → Int) (i : Int) : ∀ p : Nat, zpos key arr i p ≤ p
  | 0 => Nat.le_refl 0
  | p + 1 => by
    have := zpos_le key arr i p
    unfold zpos
    split <;> omega
theorem zpos_congr {key key' arr arr' : Int → Int} {i : Int} : ∀ {p : Nat}, key i = key' i → (∀ q : Int, 0 ≤ q → q < p → key (arr q) = key' (arr' q)) → zpos key arr i p = zpos key' arr' i p
  | 0, _, _ => rfl
  | p + 1, h1, h2 => by
    unfold zpos
    rw [h1, h2 p (by omega) (by omega), zpos_congr h1 (fun q a b => h2 q a (by omega))]
def zins (key : Int → Int) : Nat → Int → Int
  | 0 => fun _ => 0
  | i + 1 => fun k => if k < zpos key (zins key i) i i then zins key i k else if k = zpos key (zins key i) i i then i else zins key i (k - 1)
theorem zins_rng (key : Int → Int) : ∀ (i : Nat) (k : Int), 0 ≤ k → k < i → 0 ≤ zins key i k ∧ zins key i k < i
  | 0, _, _, _ => by omega
  | i + 1, k, h1, h2 => by
    have := zpos_le key (zins key i) i i
    have r1 := zins_rng key i k
    have r2 := zins_rng key i (k - 1)
    unfold zins
    grind
theorem zins_sur (key : Int → Int) : ∀ (i : Nat) (w : Int), 0 ≤ w → w < i → ∃ k : Int, 0 ≤ k ∧ k < i ∧ zins key i k = w
  | 0, _, _, _ => by omega
  | i + 1, w, h1, h2 => by
    have hp := zpos_le key (zins key i) i i
    by_cases e : w = i
    · refine ⟨zpos key (zins key i) i i, by omega, by omega, ?_⟩
      unfold zins
      rw [if_neg (by omega), if_pos rfl, e]
    · obtain ⟨k, k1, k2, k3⟩ := zins_sur key i w h1 (by omega)
      by_cases c : k < zpos key (zins key i) i i
      · refine ⟨k, k1, by omega, ?_⟩
        unfold zins
        rw [if_pos c, k3]
      · refine ⟨k + 1, by omega, by omega, ?_⟩
        unfold zins
        rw [if_neg (by omega), if_neg (by omega), show k + 1 - 1 = k by omega, k3]
theorem zins_inj (key : Int → Int) : ∀ (i : Nat) (j k : Int), 0 ≤ j → j < i → 0 ≤ k → k < i → zins key i j = zins key i k → j = k
  | 0, _, _, _, _, _, _, _ => by omega
  | i + 1, j, k, a1, a2, b1, b2, e => by
    have hp := zpos_le key (zins key i) i i
    have i1 := zins_inj key i j k
    have i2 := zins_inj key i j (k - 1)
    have i3 := zins_inj key i (j - 1) k
    have i4 := zins_inj key i (j - 1) (k - 1)
    have r1 := zins_rng key i j
    have r2 := zins_rng key i k
    have r3 := zins_rng key i (j - 1)
    have r4 := zins_rng key i (k - 1)
    unfold zins at e
    grind
theorem zins_congr {key key' : Int → Int} {n : Nat} (h : ∀ w : Int, 0 ≤ w → w < n → key w = key' w) : ∀ i : Nat, i ≤ n → zins key i = zins key' i
  | 0, _ => rfl
  | i + 1, hi => by
    have e := zins_congr h i (by omega)
    have hz : zpos key (zins key i) i i = zpos key' (zins key i) i i := zpos_congr (h i (by omega) (by omega)) (fun q a b => by
      have := zins_rng key i q a (by omega)
      exact h _ this.1 (by omega))
    unfold zins
    rw [← e, hz]
/-- the inner loop: shift what stands behind, and stop where the new one goes -/
theorem ins_loop {c : Int × pH → Prop} {f : Int × pH → Int × pH} {P : Int × pH → Prop} (a : Int) (h0 : pH) (i : Nat) (key : Int → Int)
    (hf : ∀ (x : Int) (h : pH), f (x, h) = (x + (-1), pm_upd h a x (h a (x - 1))))
    (hc : ∀ (x : Int) (h : pH), 0 ≤ x → x ≤ i → (∀ a', a' ≠ a → h a' = h0 a') → (0 < x → h a (x - 1) = h0 a (x - 1)) → P (x, h) ∧ (c (x, h) ↔ 0 < x ∧ key i < key (h0 a (x - 1)))) :
    fx_ok c f P (i, h0) ∧ (fx_wh c f (i, h0)).1 = zpos key (h0 a) i i ∧ (∀ a', a' ≠ a → (fx_wh c f (i, h0)).2 a' = h0 a') ∧ ∀ k, (fx_wh c f (i, h0)).2 a k = if (zpos key (h0 a) i i : Int) < k ∧ k ≤ i then h0 a (k - 1) else h0 a k := by
  have key1 := fx_ruleM (c := c) (f := f) (P := P) (fun s => 0 ≤ s.1 ∧ s.1 ≤ i ∧ zpos key (h0 a) i s.1.toNat = zpos key (h0 a) i i ∧ (∀ a', a' ≠ a → s.2 a' = h0 a') ∧ ∀ k, s.2 a k = if s.1 < k ∧ k ≤ i then h0 a (k - 1) else h0 a k)
    (fun s => s.1.toNat) ?_ (i, h0) ⟨by simp, by simp, by simp, fun _ _ => rfl, fun k => by simp only; rw [if_neg (by omega)]⟩
  · obtain ⟨h1, ⟨h2, h3, h4, h5, h6⟩, h7⟩ := key1
    refine ⟨h1, ?_, h5, ?_⟩
    · generalize fx_wh c f (i, h0) = r at *
      obtain ⟨x, h⟩ := r
      simp only at *
      have hh := (hc x h h2 h3 h5 (fun q => by rw [h6, if_neg (by omega)])).2
      rw [hh] at h7
      rw [← h4]
      rcases Int.lt_or_le 0 x with q | q
      · obtain ⟨p, hp⟩ : ∃ p : Nat, x = p + 1 := ⟨(x - 1).toNat, by omega⟩
        subst hp
        have e : ((p : Int) + 1).toNat = p + 1 := by omega
        rw [e]
        unfold zpos
        rw [show (p : Int) + 1 - 1 = p by omega] at h7
        rw [if_neg (fun q2 => h7 ⟨q, q2⟩)]
        omega
      · have : x = 0 := by omega
        subst this
        rfl
    · intro k
      rw [h6 k]
      have : (fx_wh c f (i, h0)).1 = zpos key (h0 a) i i := by
        generalize fx_wh c f (i, h0) = r at *
        obtain ⟨x, h⟩ := r
        simp only at *
        have hh := (hc x h h2 h3 h5 (fun q => by rw [h6, if_neg (by omega)])).2
        rw [hh] at h7
        rw [← h4]
        rcases Int.lt_or_le 0 x with q | q
        · obtain ⟨p, hp⟩ : ∃ p : Nat, x = p + 1 := ⟨(x - 1).toNat, by omega⟩
          subst hp
          have e : ((p : Int) + 1).toNat = p + 1 := by omega
          rw [e]
          unfold zpos
          rw [show (p : Int) + 1 - 1 = p by omega] at h7
          rw [if_neg (fun q2 => h7 ⟨q, q2⟩)]
          omega
        · have : x = 0 := by omega
          subst this
          rfl
      rw [this]
  · rintro ⟨x, h⟩ ⟨h2, h3, h4, h5, h6⟩
    simp only at *
    have hx := hc x h h2 h3 h5 (fun q => by rw [h6, if_neg (by omega)])
    refine ⟨hx.1, fun q => ?_⟩
    have q2 := hx.2.mp q
    rw [hf]
    obtain ⟨p, hp⟩ : ∃ p : Nat, x = p + 1 := ⟨(x - 1).toNat, by omega⟩
    subst hp
    have e1 : ((p : Int) + 1 + (-1)) = p := by omega
    have e2 : ((p : Int) + 1 - 1) = p := by omega
    rw [e1, e2]
    rw [e2] at q2
    refine ⟨⟨by simp only; omega, by simp only; omega, ?_, fun a' ha => ?_, fun k => ?_⟩, by simp only; omega⟩
    · have e3 : ((p : Int) + 1).toNat = p + 1 := by omega
      rw [e3] at h4
      have h4' : (if key i < key (h0 a p) then zpos key (h0 a) i p else p + 1) = zpos key (h0 a) i i := h4
      rw [if_pos q2.2] at h4'
      simpa using h4'
    · simp only
      rw [up_cell h ha, h5 a' ha]
    · simp only
      rw [up_app]
      have := h6 p
      grind
/-- a work's place in the order, by the model's row -/
def zkey (z : Int → Int) (w : Int) : Int := ((z (174 + z (216 + w)) * 8 + z (216 + w)) * 16) + w
theorem line_M (g : pH) (n : Nat) (hn : g 249 13 = n) (h16 : n ≤ 16) (hh : ∀ w : Int, 0 ≤ w → w < n → 0 ≤ g 249 (216 + w) ∧ g 249 (216 + w) < 8) (hr : ∀ k : Int, 0 ≤ k → k < 8 → 0 ≤ g 249 (174 + k) ∧ g 249 (174 + k) ≤ 99) :
    P_X12_findLine g ∧ (∀ a, a ≠ 258 → H_X12_findLine g a = g a) ∧ ∀ k : Int, 0 ≤ k → k < n → H_X12_findLine g 258 k = zins (zkey (g 249)) n k := by
  have key := fx_rule (σ := Int × pH) (c := (fun s => C_X12_findLine_6 (g 249 13) s.1 s.2)) (f := (fun s => B_X12_findLine_6 (g 249 13) s.1 s.2)) (P := (fun s => P_X12_findLine_6 (g 249 13) s.1 s.2)) (s0 := (0, g)) n (fun i s => s.1 = (i : Int) ∧ i ≤ n ∧ (∀ a, a ≠ 258 → s.2 a = g a) ∧ ∀ k : Int, 0 ≤ k → k < i → s.2 258 k = zins (zkey (g 249)) i k) ⟨rfl, by omega, fun _ _ => rfl, fun k h1 h2 => by omega⟩ ?_ ?_
  · exact ⟨⟨by unfold P_X12_at fx_i; omega, key.1⟩, key.2.2.2.1, key.2.2.2.2⟩
  · rintro i ⟨x, h⟩ hi ⟨hx, hi2, hf, hv⟩
    simp only at hx hf hv
    subst hx
    have e9 := hf 249 (by omega)
    have lp := ins_loop (c := (fun s => C_X12_findLine_11 (g 249 13) i s.1 s.2)) (f := (fun s => B_X12_findLine_11 (g 249 13) i s.1 s.2)) (P := (fun s => P_X12_findLine_11 (g 249 13) i s.1 s.2)) 258 h i (zkey (g 249)) (fun _ _ => rfl) ?_
    · obtain ⟨l1, l2, l3, l4⟩ := lp
      have hp := zpos_le (zkey (g 249)) (h 258) i i
      have e1 : s_X12_findLine_1 (g 249 13) i h = zpos (zkey (g 249)) (h 258) i i := l2
      have hz : zpos (zkey (g 249)) (zins (zkey (g 249)) i) i i = zpos (zkey (g 249)) (h 258) i i := zpos_congr rfl (fun q a b => by rw [hv q a b])
      simp only [P_X12_findLine_6, C_X12_findLine_6, B_X12_findLine_6, s_X12_findLine_3, e1]
      refine ⟨fun _ => ⟨l1, ⟨by omega, by omega⟩, fx_ii (by omega) (by omega)⟩, by omega, by omega, by omega, fun a ha => ?_, fun k k1 k2 => ?_⟩
      · rw [up_cell _ ha]
        exact (l3 a ha).trans (hf a ha)
      · have e2 : s_X12_findLine_2 (g 249 13) i h 258 k = if (zpos (zkey (g 249)) (h 258) i i : Int) < k ∧ k ≤ i then h 258 (k - 1) else h 258 k := l4 k
        rw [up_app, e2]
        unfold zins
        rw [hz]
        have v1 := hv k
        have v2 := hv (k - 1)
        grind
    · intro x h' x1 x2 hf' hv'
      have e9' : h' 249 = g 249 := (hf' 249 (by omega)).trans e9
      have hi' := hh i (by omega) (by omega)
      rcases Int.lt_or_le 0 x with q | q
      · have hw := zins_rng (zkey (g 249)) i (x - 1) (by omega) (by omega)
        rw [← hv (x - 1) (by omega) (by omega)] at hw
        have hw' := hh (h 258 (x - 1)) hw.1 (by omega)
        have r1 := hr _ hi'.1 hi'.2
        have r2 := hr _ hw'.1 hw'.2
        simp only [P_X12_findLine_11, C_X12_findLine_11, B_X12_findLine_11, P_X12_isAhead, F_X12_isAhead, P_X12_at, fx_i, e9', hv' q, zkey]
        generalize h 258 (x - 1) = u at *
        clear hv hf hf' hh hr hv'
        grind
      · simp only [P_X12_findLine_11, C_X12_findLine_11, B_X12_findLine_11]
        grind
  · rintro ⟨x, h⟩ ⟨hx, hi2, hf, hv⟩
    simp only [P_X12_findLine_6, C_X12_findLine_6, B_X12_findLine_6] at *
    grind
theorem ord_X (a : Int) (h : pH) (n : Nat) (hn : h a 15 = n) (h16 : n ≤ 16) (hh : ∀ w : Int, 0 ≤ w → w < n → 0 ≤ h (a + 5) w ∧ h (a + 5) w < 8) (hr : ∀ k : Int, 0 ≤ k → k < 8 → 0 ≤ h (a + 1) k ∧ h (a + 1) k ≤ 99) :
    P_X10_putInOrder a h ∧ (∀ a', a' ≠ a + 15 → H_X10_putInOrder a h a' = h a') ∧ ∀ k : Int, 0 ≤ k → k < n → H_X10_putInOrder a h (a + 15) k = zins (fun w => ((h (a + 1) (h (a + 5) w) * 8 + h (a + 5) w) * 16) + w) n k := by
  have key := fx_rule (σ := Int × pH) (c := (fun s => C_X10_putInOrder_2 a s.1 s.2)) (f := (fun s => B_X10_putInOrder_2 a s.1 s.2)) (P := (fun s => P_X10_putInOrder_2 a s.1 s.2)) (s0 := (0, h)) n (fun i s => s.1 = (i : Int) ∧ i ≤ n ∧ (∀ a', a' ≠ a + 15 → s.2 a' = h a') ∧ ∀ k : Int, 0 ≤ k → k < i → s.2 (a + 15) k = zins (fun w => ((h (a + 1) (h (a + 5) w) * 8 + h (a + 5) w) * 16) + w) i k) ⟨rfl, by omega, fun _ _ => rfl, fun k h1 h2 => by omega⟩ ?_ ?_
  · exact ⟨key.1, key.2.2.2.1, key.2.2.2.2⟩
  · rintro i ⟨x, h2⟩ hi ⟨hx, hi2, hf, hv⟩
    simp only at hx hf hv
    subst hx
    have e0 := hf a (by omega)
    have e1 := hf (a + 1) (by omega)
    have e5 := hf (a + 5) (by omega)
    generalize hk : (fun w => ((h (a + 1) (h (a + 5) w) * 8 + h (a + 5) w) * 16) + w) = ky at *
    have lp := ins_loop (c := (fun s => C_X10_putInOrder_8 a i s.1 s.2)) (f := (fun s => B_X10_putInOrder_8 a i s.1 s.2)) (P := (fun s => P_X10_putInOrder_8 a i s.1 s.2)) (a + 15) h2 i ky (fun _ _ => rfl) ?_
    · obtain ⟨l1, l2, l3, l4⟩ := lp
      have hp := zpos_le ky (h2 (a + 15)) i i
      have e1 : s_X10_putInOrder_1 a i h2 = zpos ky (h2 (a + 15)) i i := l2
      have hz : zpos ky (zins ky i) i i = zpos ky (h2 (a + 15)) i i := zpos_congr rfl (fun q a b => by rw [hv q a b])
      simp only [P_X10_putInOrder_2, C_X10_putInOrder_2, B_X10_putInOrder_2, s_X10_putInOrder_3, e1, e0]
      refine ⟨fun _ => ⟨l1, ⟨by omega, by omega⟩, fx_ii (by omega) (by omega)⟩, by omega, by omega, by omega, fun a' ha => ?_, fun k k1 k2 => ?_⟩
      · rw [up_cell _ ha]
        exact (l3 a' ha).trans (hf a' ha)
      · have e2 : s_X10_putInOrder_2 a i h2 (a + 15) k = if (zpos ky (h2 (a + 15)) i i : Int) < k ∧ k ≤ i then h2 (a + 15) (k - 1) else h2 (a + 15) k := l4 k
        rw [up_app, e2]
        unfold zins
        rw [hz]
        have v1 := hv k
        have v2 := hv (k - 1)
        grind
    · intro x h' x1 x2 hf' hv'
      have e1' : h' (a + 1) = h (a + 1) := (hf' (a + 1) (by omega)).trans e1
      have e5' : h' (a + 5) = h (a + 5) := (hf' (a + 5) (by omega)).trans e5
      have hi' := hh i (by omega) (by omega)
      rcases Int.lt_or_le 0 x with q | q
      · have hw := zins_rng ky i (x - 1) (by omega) (by omega)
        rw [← hv (x - 1) (by omega) (by omega)] at hw
        have hw' := hh (h2 (a + 15) (x - 1)) hw.1 (by omega)
        have r1 := hr _ hi'.1 hi'.2
        have r2 := hr _ hw'.1 hw'.2
        subst hk
        simp only [P_X10_putInOrder_8, C_X10_putInOrder_8, B_X10_putInOrder_8, P_X10_isAhead, P_X10_placeInOrder, F_X10_placeInOrder, fx_i, e1', e5', hv' q]
        generalize h2 (a + 15) (x - 1) = u at *
        clear hv hf hf' hh hr hv'
        exact ⟨⟨fun _ => by omega, fun _ => by omega⟩, trivial⟩
      · simp only [P_X10_putInOrder_8, C_X10_putInOrder_8, B_X10_putInOrder_8]
        grind
  · rintro ⟨x, h2⟩ ⟨hx, hi2, hf, hv⟩
    have e0 := hf a (by omega)
    simp only [P_X10_putInOrder_2, C_X10_putInOrder_2, B_X10_putInOrder_2] at *
    grind
