/-! The model's table of placings. -/
theorem shl_10 : ∀ m : Fin 10, 0 ≤ pm_shl 1 ((m.val : Nat) : Int) ∧ pm_shl 1 ((m.val : Nat) : Int) < 1024 := by decide +kernel
theorem bv_toNat {x : Int} (h : 0 ≤ x ∧ x < 1024) : (bv x).toNat < 1024 := by
  unfold bv
  rw [BitVec.toNat_ofInt]
  omega
theorem or_rng {x y : Int} (hx : 0 ≤ x ∧ x < 1024) (hy : 0 ≤ y ∧ y < 1024) : 0 ≤ pm_or x y ∧ pm_or x y < 1024 := by
  have e : pm_or x y = (bv x ||| bv y).toInt := rfl
  have h : (bv x ||| bv y).toNat < 2 ^ 10 := by
    rw [BitVec.toNat_or]
    exact Nat.or_lt_two_pow (bv_toNat hx) (bv_toNat hy)
  rw [e, BitVec.toInt_eq_toNat_of_lt (by omega)]
  omega
/-- the machines that are fit and not in a set -/
noncomputable def fsz (z : Int → Int) (nm : Nat) (s : Int) : Int → Bool := fun q => (decide (0 ≤ q ∧ q < nm) && decide (z (134 + q) = 0 ∧ z (144 + q) = 0)) && ! bt s q.toNat
theorem fsz_in {z : Int → Int} {nm : Nat} {s q : Int} (h : fsz z nm s q = true) : 0 ≤ q ∧ q < nm :=
  of_decide_eq_true ((Bool.and_eq_true _ _).mp ((Bool.and_eq_true _ _).mp h).1).1
theorem fsz_at {z : Int → Int} {nm : Nat} {s : Int} {m : Nat} (h : m < nm) : fsz z nm s m = true ↔ (z (134 + m) = 0 ∧ z (144 + m) = 0) ∧ ¬ bt s m = true := by
  unfold fsz
  rw [show decide (0 ≤ (m : Int) ∧ (m : Int) < nm) = true from decide_eq_true (by omega), Bool.true_and, Int.toNat_natCast, Bool.and_eq_true, decide_eq_true_iff]
  cases bt s m <;> simp
theorem fsz_on {z : Int → Int} {nm : Nat} (h10 : nm ≤ 10) {s : Int} {j : Nat} (hj : j < nm) : fsz z nm (pm_or s (pm_shl 1 j)) = offF (fsz z nm s) j := by
  funext q
  show ((decide (0 ≤ q ∧ q < nm) && decide (z (134 + q) = 0 ∧ z (144 + q) = 0)) && ! bt (pm_or s (pm_shl 1 j)) q.toNat) = (((decide (0 ≤ q ∧ q < nm) && decide (z (134 + q) = 0 ∧ z (144 + q) = 0)) && ! bt s q.toNat) && ! decide (q = j))
  by_cases c : 0 ≤ q ∧ q < nm
  · rw [bt_on (by omega) (by omega), show decide (q.toNat = j) = decide (q = j) from decide_eq_decide.mpr (by omega)]
    cases bt s q.toNat <;> cases decide (q = (j : Int)) <;> simp
  · rw [decide_eq_false c, Bool.false_and, Bool.false_and, Bool.false_and, Bool.false_and]
/-- what the model's side holds -/
noncomputable def MSET (g : pH) (pin gm : Int → Int) (N nm : Nat) : Prop := g 249 12 = nm ∧ (∀ j : Int, 0 ≤ j → j < N → 0 ≤ g 267 j ∧ g 267 j < 16 ∧ g 249 (280 + g 267 j) = pin j) ∧
  (∀ m : Int, 0 ≤ m → m < nm → 0 ≤ g 249 (84 + m) ∧ g 249 (84 + m) < 12 ∧ zgauge (g 249) (g 249 (84 + m)) = gm m) ∧ 0 ≤ g 249 8 ∧ g 249 8 ≤ 5
theorem MSET_cg {g g' : pH} {pin gm : Int → Int} {N nm : Nat} (h : MSET g pin gm N nm) (e : g' 249 = g 249) (e' : g' 267 = g 267) : MSET g' pin gm N nm := by
  unfold MSET
  rw [e, e']
  exact h
/-- one row of the table is the best for the last r works -/
noncomputable def DP (g : pH) (pin gm ks : Int → Int) (N nm r : Nat) (s : Int) : Prop := 0 ≤ g 265 (1024 * ((N : Int) - r) + s) ∧ g 265 (1024 * ((N : Int) - r) + s) ≤ r ∧
  g 265 (1024 * ((N : Int) - r) + s) * (-150022500) ≤ g 266 (1024 * ((N : Int) - r) + s) ∧ g 266 (1024 * ((N : Int) - r) + s) ≤ g 265 (1024 * ((N : Int) - r) + s) * 150022500 ∧
  g 265 (1024 * ((N : Int) - r) + s) * 1099511627776 - g 266 (1024 * ((N : Int) - r) + s) = VV pin gm ks N nm r (fsz (g 249) nm s)
section DPS
variable {pin gm ks : Int → Int} {N nm : Nat}
theorem DP_cg {g g' : pH} {r : Nat} {s : Int} (h : DP g pin gm ks N nm r s) (e : g' 249 = g 249) (e5 : g' 265 (1024 * ((N : Int) - r) + s) = g 265 (1024 * ((N : Int) - r) + s)) (e6 : g' 266 (1024 * ((N : Int) - r) + s) = g 266 (1024 * ((N : Int) - r) + s)) : DP g' pin gm ks N nm r s := by
  unfold DP
  rw [e, e5, e6]
  exact h
/-- one set: the best machine for one work -/
theorem mach_loop {g : pH} (ok : OKP pin gm ks N nm) (ms : MSET g pin gm N nm) {r : Nat} (hr : r < N) {x2 s : Int} (h2 : x2 = (N : Int) - 1 - r) (hs : 0 ≤ s ∧ s < 1024) (dp : ∀ s : Int, 0 ≤ s → s < 1024 → DP g pin gm ks N nm r s) :
    O_X12_findPlacing_60 x2 s g (g 265 ((1024 * (x2 + 1)) + s)) (g 266 ((1024 * (x2 + 1)) + s)) 0 ∧ 0 ≤ s_X12_findPlacing_6 x2 s g ∧ s_X12_findPlacing_6 x2 s g ≤ (r : Int) + 1 ∧
    s_X12_findPlacing_6 x2 s g * (-150022500) ≤ s_X12_findPlacing_7 x2 s g ∧ s_X12_findPlacing_7 x2 s g ≤ s_X12_findPlacing_6 x2 s g * 150022500 ∧
    s_X12_findPlacing_6 x2 s g * 1099511627776 - s_X12_findPlacing_7 x2 s g = VV pin gm ks N nm (r + 1) (fsz (g 249) nm s) := by
  have hmax := VV_max ok (r := r) (F := fsz (g 249) nm s) (fun m q => fsz_in q)
  obtain ⟨hN, hm, hp, hg, -⟩ := ok
  obtain ⟨m12, mp, mg, m8⟩ := ms
  have hk := mp x2 (by omega) (by omega)
  have ek : pin ((N : Int) - 1 - r) = pin x2 := by rw [h2]
  rw [ek] at hmax
  have key := fx_rule (σ := Int × Int × Int) (c := fun t => C_X12_findPlacing_60 x2 s g t.1 t.2.1 t.2.2) (f := fun t => B_X12_findPlacing_60 x2 s g t.1 t.2.1 t.2.2) (P := fun t => P_X12_findPlacing_60 x2 s g t.1 t.2.1 t.2.2) (s0 := (g 265 ((1024 * (x2 + 1)) + s), g 266 ((1024 * (x2 + 1)) + s), 0)) nm
    (fun i t => t.2.2 = i ∧ i ≤ nm ∧ 0 ≤ t.1 ∧ t.1 ≤ (r : Int) + 1 ∧ t.1 * (-150022500) ≤ t.2.1 ∧ t.2.1 ≤ t.1 * 150022500 ∧ VV pin gm ks N nm r (fsz (g 249) nm s) ≤ t.1 * 1099511627776 - t.2.1 ∧
      (∀ m : Int, 0 ≤ m → m < i → fsz (g 249) nm s m = true → (pin x2 = -1 ∨ pin x2 = m) → (1099511627776 - gm m) + VV pin gm ks N nm r (offF (fsz (g 249) nm s) m) ≤ t.1 * 1099511627776 - t.2.1) ∧
      (t.1 * 1099511627776 - t.2.1 = VV pin gm ks N nm r (fsz (g 249) nm s) ∨ ∃ q, fsz (g 249) nm s q = true ∧ (pin x2 = -1 ∨ pin x2 = q) ∧ t.1 * 1099511627776 - t.2.1 = (1099511627776 - gm q) + VV pin gm ks N nm r (offF (fsz (g 249) nm s) q)))
    ?_ ?_ ?_
  · obtain ⟨k1, k2, k3, k4, k5, k6, k7, k8, k9, k10⟩ := key
    refine ⟨k1, k4, k5, k6, k7, ?_⟩
    change _ ≤ s_X12_findPlacing_6 x2 s g * 1099511627776 - s_X12_findPlacing_7 x2 s g at k8
    change ∀ m : Int, _ → _ → _ → _ → _ ≤ s_X12_findPlacing_6 x2 s g * 1099511627776 - s_X12_findPlacing_7 x2 s g at k9
    change s_X12_findPlacing_6 x2 s g * 1099511627776 - s_X12_findPlacing_7 x2 s g = _ ∨ (∃ q, _ ∧ _ ∧ s_X12_findPlacing_6 x2 s g * 1099511627776 - s_X12_findPlacing_7 x2 s g = _) at k10
    generalize s_X12_findPlacing_6 x2 s g * 1099511627776 - s_X12_findPlacing_7 x2 s g = v at *
    apply Int.le_antisymm
    · rcases k10 with y | ⟨q, q1, q2, q3⟩
      · rw [y]; exact hmax.1
      · rw [q3]; exact hmax.2.1 q q1 q2
    · rcases hmax.2.2 with y | ⟨q, q1, q2, q3⟩
      · rw [y]; exact k8
      · rw [q3]
        have := fsz_in q1
        exact k9 q this.1 this.2 q1 q2
  · have e : (1024 * (x2 + 1)) + s = 1024 * ((N : Int) - r) + s := by omega
    obtain ⟨d1, d2, d3, d4, d5⟩ := dp s hs.1 hs.2
    simp only
    rw [e]
    exact ⟨rfl, by omega, d1, by omega, d3, d4, by omega, fun m m1 m2 => by omega, Or.inl d5⟩
  · rintro i ⟨x4, x5, x⟩ hi ⟨hx, hi2, b1, b2, b3, b4, v1, v2, v3⟩
    simp only at hx b1 b2 b3 b4 v1 v2 v3
    subst hx
    obtain ⟨c1, c2, c3⟩ := mg i (by omega) (by omega)
    have eg : s_X12_gauge_1 (g 249 (84 + i)) g = gm i := ((gauge_M (g 249 (84 + i)) g m8 ⟨c1, c2⟩).2).trans c3
    have pg := (gauge_M (g 249 (84 + i)) g m8 ⟨c1, c2⟩).1
    have s10 := shl_10 ⟨i, by omega⟩
    have rg := or_rng hs s10
    simp only at rg
    have e : (1024 * (x2 + 1)) + pm_or s (pm_shl 1 i) = 1024 * ((N : Int) - r) + pm_or s (pm_shl 1 i) := by omega
    obtain ⟨d1, d2, d3, d4, d5⟩ := dp (pm_or s (pm_shl 1 i)) rg.1 rg.2
    rw [fsz_on hm hi] at d5
    have hgi := hg i
    have bit := bt_test (x := s) (m := i) (by omega)
    have fa := fsz_at (z := g 249) (s := s) hi
    have next : ∀ (p v : Int), B_X12_findPlacing_60 x2 s g x4 x5 i = (p, v, (i : Int) + 1) → 0 ≤ p → p ≤ (r : Int) + 1 → p * (-150022500) ≤ v → v ≤ p * 150022500 → x4 * 1099511627776 - x5 ≤ p * 1099511627776 - v → (fsz (g 249) nm s i = true → (pin x2 = -1 ∨ pin x2 = i) → (1099511627776 - gm i) + VV pin gm ks N nm r (offF (fsz (g 249) nm s) i) ≤ p * 1099511627776 - v) →
        ((p = x4 ∧ v = x5) ∨ (fsz (g 249) nm s i = true ∧ (pin x2 = -1 ∨ pin x2 = i) ∧ p * 1099511627776 - v = (1099511627776 - gm i) + VV pin gm ks N nm r (offF (fsz (g 249) nm s) i))) →
        (fun (i : Nat) (t : Int × Int × Int) => t.2.2 = i ∧ i ≤ nm ∧ 0 ≤ t.1 ∧ t.1 ≤ (r : Int) + 1 ∧ t.1 * (-150022500) ≤ t.2.1 ∧ t.2.1 ≤ t.1 * 150022500 ∧ VV pin gm ks N nm r (fsz (g 249) nm s) ≤ t.1 * 1099511627776 - t.2.1 ∧
      (∀ m : Int, 0 ≤ m → m < i → fsz (g 249) nm s m = true → (pin x2 = -1 ∨ pin x2 = m) → (1099511627776 - gm m) + VV pin gm ks N nm r (offF (fsz (g 249) nm s) m) ≤ t.1 * 1099511627776 - t.2.1) ∧
      (t.1 * 1099511627776 - t.2.1 = VV pin gm ks N nm r (fsz (g 249) nm s) ∨ ∃ q, fsz (g 249) nm s q = true ∧ (pin x2 = -1 ∨ pin x2 = q) ∧ t.1 * 1099511627776 - t.2.1 = (1099511627776 - gm q) + VV pin gm ks N nm r (offF (fsz (g 249) nm s) q))) (i + 1) (B_X12_findPlacing_60 x2 s g x4 x5 i) := by
      intro p v eB p1 p2 p3 p4 p5 p6 p7
      rw [eB]
      refine ⟨by simp only; omega, by omega, p1, p2, p3, p4, Int.le_trans v1 p5, fun m m1 m2 m3 m4 => ?_, ?_⟩
      · by_cases y : m = i
        · rw [y] at m3 m4 ⊢
          exact p6 m3 m4
        · exact Int.le_trans (v2 m m1 (by omega) m3 m4) p5
      · rcases p7 with ⟨y1, y2⟩ | ⟨y1, y2, y3⟩
        · rw [y1, y2]; exact v3
        · exact Or.inr ⟨i, y1, y2, y3⟩
    refine ⟨?_, ?_, ?_⟩
    · simp only
      unfold P_X12_findPlacing_60 P_X12_mayHave P_X12_at fx_i fx_l
      intro q
      rw [e, eg]
      generalize pm_or s (pm_shl 1 i) = u at *
      clear dp mp mg next fa bit v1 v2 v3 hmax hg hp
      refine ⟨fun _ => ⟨by omega, ⟨by omega, by omega, fun _ => ⟨by omega, by omega, fun _ => by omega⟩⟩, fun _ => ⟨by omega, by omega, by omega, by omega, by omega, by omega, ⟨by omega, by omega⟩, pg, by omega⟩⟩, by omega⟩
    · show (i : Int) < g 249 12
      omega
    · by_cases c : fsz (g 249) nm s i = true ∧ (pin x2 = -1 ∨ pin x2 = i)
      · have f := fa.mp c.1
        have cf : g 249 (134 + i) = 0 ∧ (g 249 (144 + i) = 0 ∧ (g 249 (280 + (g 267 x2)) = (-1) ∨ g 249 (280 + (g 267 x2)) = i)) := ⟨f.1.1, f.1.2, by rw [hk.2.2]; exact c.2⟩
        have eB : B_X12_findPlacing_60 x2 s g x4 x5 i = (s_X12_findPlacing_2 x2 s x4 x5 i g, s_X12_findPlacing_3 x2 s x4 x5 i g, (i : Int) + 1) := by
          unfold B_X12_findPlacing_60 s_X12_findPlacing_4 s_X12_findPlacing_5
          rw [bit, if_neg f.2, if_pos rfl, if_pos rfl, if_pos cf, if_pos cf]
        unfold s_X12_findPlacing_2 s_X12_findPlacing_3 at eB
        rw [e, eg] at eB
        generalize g 265 (1024 * ((N : Int) - r) + pm_or s (pm_shl 1 i)) = p at *
        generalize g 266 (1024 * ((N : Int) - r) + pm_or s (pm_shl 1 i)) = v at *
        by_cases c' : x4 < p + 1 ∨ (p + 1 = x4 ∧ v + gm i < x5)
        · rw [if_pos c', if_pos c'] at eB
          refine next _ _ eB (by omega) (by omega) (by omega) (by omega) (by omega) (fun _ _ => by omega) (Or.inr ⟨c.1, c.2, by omega⟩)
        · rw [if_neg c', if_neg c'] at eB
          refine next _ _ eB b1 b2 b3 b4 (Int.le_refl _) (fun _ _ => by omega) (Or.inl ⟨rfl, rfl⟩)
      · have eB : B_X12_findPlacing_60 x2 s g x4 x5 i = (x4, x5, (i : Int) + 1) := by
          unfold B_X12_findPlacing_60 s_X12_findPlacing_4 s_X12_findPlacing_5
          rw [bit]
          by_cases y : bt s i = true
          · rw [if_pos y, if_neg (show ¬ (1 : Int) = 0 by omega), if_neg (show ¬ (1 : Int) = 0 by omega)]
          · have cf : ¬ (g 249 (134 + i) = 0 ∧ (g 249 (144 + i) = 0 ∧ (g 249 (280 + (g 267 x2)) = (-1) ∨ g 249 (280 + (g 267 x2)) = i))) := fun q => c ⟨fa.mpr ⟨⟨q.1, q.2.1⟩, y⟩, by rw [← hk.2.2]; exact q.2.2⟩
            rw [if_neg y, if_pos rfl, if_pos rfl, if_neg cf, if_neg cf]
        exact next _ _ eB b1 b2 b3 b4 (Int.le_refl _) (fun q1 q2 => absurd ⟨q1, q2⟩ c) (Or.inl ⟨rfl, rfl⟩)
  · rintro ⟨x4, x5, x⟩ ⟨hx, hi2, -⟩
    simp only at hx
    subst hx
    refine ⟨?_, ?_⟩
    · show P_X12_findPlacing_60 x2 s g x4 x5 nm
      unfold P_X12_findPlacing_60
      intro q; omega
    · show ¬ (nm : Int) < g 249 12
      omega
end DPS
