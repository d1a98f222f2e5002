/-! The model's table of placings, its layers; what is open. -/
section LY
variable {pin gm ks : Int → Int} {N nm : Nat}
theorem set_loop {g : pH} (ok : OKP pin gm ks N nm) (ms : MSET g pin gm N nm) {r : Nat} (hr : r < N) {x2 : Int} (h2 : x2 = (N : Int) - 1 - r) (dp : ∀ s : Int, 0 ≤ s → s < 1024 → DP g pin gm ks N nm r s) :
    O_X12_findPlacing_33 x2 0 g ∧ (∀ a, a ≠ 265 → a ≠ 266 → s_X12_findPlacing_12 x2 g a = g a) ∧ (∀ i : Int, 1024 * ((N : Int) - r) ≤ i → s_X12_findPlacing_12 x2 g 265 i = g 265 i ∧ s_X12_findPlacing_12 x2 g 266 i = g 266 i) ∧
    ∀ s : Int, 0 ≤ s → s < 1024 → DP (s_X12_findPlacing_12 x2 g) pin gm ks N nm (r + 1) s := by
  have hN := ok.1
  have key := fx_rule (σ := Int × pH) (c := fun t => C_X12_findPlacing_33 x2 t.1 t.2) (f := fun t => B_X12_findPlacing_33 x2 t.1 t.2) (P := fun t => P_X12_findPlacing_33 x2 t.1 t.2) (s0 := (0, g)) 1024
    (fun i t => t.1 = i ∧ i ≤ 1024 ∧ (∀ a, a ≠ 265 → a ≠ 266 → t.2 a = g a) ∧ (∀ j : Int, 1024 * ((N : Int) - r) ≤ j → t.2 265 j = g 265 j ∧ t.2 266 j = g 266 j) ∧ ∀ s : Int, 0 ≤ s → s < i → DP t.2 pin gm ks N nm (r + 1) s)
    ⟨rfl, by omega, fun _ _ _ => rfl, fun _ _ => ⟨rfl, rfl⟩, fun s s1 s2 => by omega⟩ ?_ ?_
  · obtain ⟨k1, k2, k3, k4, k5, k6⟩ := key
    exact ⟨k1, k4, k5, k6⟩
  · rintro i ⟨x, g'⟩ hi ⟨hx, hi2, hf, hj, hd⟩
    simp only at hx hf hj hd
    subst hx
    have e9 := hf 249 (by omega) (by omega)
    have e7 := hf 267 (by omega) (by omega)
    have ml := mach_loop (ks := ks) ok (MSET_cg ms e9 e7) hr h2 (s := i) ⟨by omega, by omega⟩ (fun s s1 s2 => DP_cg (dp s s1 s2) e9 (hj _ (by omega)).1 (hj _ (by omega)).2)
    obtain ⟨l1, l2, l3, l4, l5, l6⟩ := ml
    have eS : s_X12_findPlacing_10 x2 i g' = pm_upd (pm_upd g' 265 ((1024 * x2) + i) (s_X12_findPlacing_6 x2 i g')) 266 ((1024 * x2) + i) (s_X12_findPlacing_7 x2 i g') := rfl
    generalize s_X12_findPlacing_6 x2 i g' = p at *
    generalize s_X12_findPlacing_7 x2 i g' = v at *
    refine ⟨?_, ?_, ?_, by omega, ?_, ?_, ?_⟩
    · simp only
      unfold P_X12_findPlacing_33 fx_i
      intro q
      exact ⟨by omega, by omega, by omega, by omega, l1, by omega, by omega, by omega, by omega⟩
    · show (i : Int) < 1024
      omega
    · show (i : Int) + 1 = ((i + 1 : Nat) : Int)
      omega
    · intro a a1 a2
      show s_X12_findPlacing_10 x2 i g' a = g a
      rw [eS, up_cell _ a2, up_cell _ a1]
      exact hf a a1 a2
    · intro j j1
      show s_X12_findPlacing_10 x2 i g' 265 j = g 265 j ∧ s_X12_findPlacing_10 x2 i g' 266 j = g 266 j
      rw [eS, up_cell _ (show (265 : Int) ≠ 266 by omega), up_pl _ (show j ≠ (1024 * x2) + i by omega), up_pl _ (show j ≠ (1024 * x2) + i by omega), up_cell _ (show (266 : Int) ≠ 265 by omega)]
      exact hj j j1
    · intro s s1 s2
      show DP (s_X12_findPlacing_10 x2 i g') pin gm ks N nm (r + 1) s
      rw [eS]
      have eN : 1024 * ((N : Int) - ((r + 1 : Nat) : Int)) + s = (1024 * x2) + s := by omega
      by_cases y : s = i
      · subst y
        unfold DP
        rw [eN, up_cell _ (show (265 : Int) ≠ 266 by omega), up_eq, up_eq, up_cell _ (show (249 : Int) ≠ 266 by omega), up_cell _ (show (249 : Int) ≠ 265 by omega)]
        exact ⟨l2, by omega, l4, l5, l6⟩
      · refine DP_cg (hd s s1 (by omega)) ?_ ?_ ?_
        · rw [up_cell _ (show (249 : Int) ≠ 266 by omega), up_cell _ (show (249 : Int) ≠ 265 by omega)]
        · rw [eN, up_cell _ (show (265 : Int) ≠ 266 by omega), up_pl _ (by omega)]
        · rw [eN, up_pl _ (by omega), up_cell _ (show (266 : Int) ≠ 265 by omega)]
  · rintro ⟨x, g'⟩ ⟨hx, -⟩
    simp only at hx
    subst hx
    refine ⟨?_, ?_⟩
    · show P_X12_findPlacing_33 x2 ((1024 : Nat) : Int) g'
      unfold P_X12_findPlacing_33
      intro q; omega
    · show ¬ ((1024 : Nat) : Int) < 1024
      omega
theorem zero_loop {g : pH} (h8 : N ≤ 8) : O_X12_findPlacing_2 N 0 g ∧ (∀ a, a ≠ 265 → a ≠ 266 → (L_X12_findPlacing_2 N 0 g).2 a = g a) ∧ ∀ s : Int, 0 ≤ s → s < 1024 → (L_X12_findPlacing_2 N 0 g).2 265 (1024 * (N : Int) + s) = 0 ∧ (L_X12_findPlacing_2 N 0 g).2 266 (1024 * (N : Int) + s) = 0 := by
  have key := fx_rule (σ := Int × pH) (c := fun t => C_X12_findPlacing_2 N t.1 t.2) (f := fun t => B_X12_findPlacing_2 N t.1 t.2) (P := fun t => P_X12_findPlacing_2 N t.1 t.2) (s0 := (0, g)) 1024
    (fun i t => t.1 = i ∧ i ≤ 1024 ∧ (∀ a, a ≠ 265 → a ≠ 266 → t.2 a = g a) ∧ ∀ s : Int, 0 ≤ s → s < i → t.2 265 (1024 * (N : Int) + s) = 0 ∧ t.2 266 (1024 * (N : Int) + s) = 0)
    ⟨rfl, by omega, fun _ _ _ => rfl, fun s s1 s2 => by omega⟩ ?_ ?_
  · obtain ⟨k1, k2, k3, k4, k5⟩ := key
    exact ⟨k1, k4, k5⟩
  · rintro i ⟨x, g'⟩ hi ⟨hx, hi2, hf, hv⟩
    simp only at hx hf hv
    subst hx
    refine ⟨?_, ?_, ?_, by omega, ?_, ?_⟩
    · simp only
      unfold P_X12_findPlacing_2 fx_i
      intro q
      omega
    · show (i : Int) < 1024
      omega
    · show (i : Int) + 1 = ((i + 1 : Nat) : Int)
      omega
    · intro a a1 a2
      show s_X12_findPlacing_1 N i g' a = g a
      unfold s_X12_findPlacing_1
      rw [up_cell _ a2, up_cell _ a1]
      exact hf a a1 a2
    · intro s s1 s2
      show s_X12_findPlacing_1 N i g' 265 _ = 0 ∧ s_X12_findPlacing_1 N i g' 266 _ = 0
      unfold s_X12_findPlacing_1
      rw [up_cell _ (show (265 : Int) ≠ 266 by omega)]
      by_cases y : s = i
      · subst y
        rw [up_eq, up_eq]; exact ⟨rfl, rfl⟩
      · rw [up_pl _ (by omega), up_pl _ (by omega), up_cell _ (show (266 : Int) ≠ 265 by omega)]
        exact hv s s1 (by omega)
  · rintro ⟨x, g'⟩ ⟨hx, -⟩
    simp only at hx
    subst hx
    refine ⟨?_, ?_⟩
    · show P_X12_findPlacing_2 N ((1024 : Nat) : Int) g'
      unfold P_X12_findPlacing_2
      intro q; omega
    · show ¬ ((1024 : Nat) : Int) < 1024
      omega
theorem find_placing {g : pH} (ok : OKP pin gm ks N nm) (ms : MSET g pin gm N nm) :
    P_X12_findPlacing N g ∧ (∀ a, a ≠ 265 → a ≠ 266 → H_X12_findPlacing N g a = g a) ∧ ∀ r : Nat, r ≤ N → ∀ s : Int, 0 ≤ s → s < 1024 → DP (H_X12_findPlacing N g) pin gm ks N nm r s := by
  have hN := ok.1
  obtain ⟨z1, z2, z3⟩ := zero_loop (N := N) (g := g) hN
  have key := fx_rule (σ := Int × pH) (c := fun t => C_X12_findPlacing_29 t.1 t.2) (f := fun t => B_X12_findPlacing_29 t.1 t.2) (P := fun t => P_X12_findPlacing_29 t.1 t.2) (s0 := ((N : Int) - 1, (L_X12_findPlacing_2 N 0 g).2)) N
    (fun i t => t.1 = (N : Int) - 1 - i ∧ i ≤ N ∧ (∀ a, a ≠ 265 → a ≠ 266 → t.2 a = g a) ∧ ∀ r : Nat, r ≤ i → ∀ s : Int, 0 ≤ s → s < 1024 → DP t.2 pin gm ks N nm r s)
    ⟨by simp, by omega, z2, fun r hr s s1 s2 => by
      have e : r = 0 := by omega
      subst e
      obtain ⟨y1, y2⟩ := z3 s s1 s2
      unfold DP
      rw [show 1024 * ((N : Int) - ((0 : Nat) : Int)) + s = 1024 * (N : Int) + s by omega]
      simp only
      rw [y1, y2, VV_0]
      omega⟩ ?_ ?_
  · obtain ⟨k1, k2, k3, k4, k5⟩ := key
    exact ⟨⟨z1, by unfold fx_i; omega, k1⟩, k4, k5⟩
  · rintro i ⟨x, g'⟩ hi ⟨hx, hi2, hf, hd⟩
    simp only at hx hf hd
    have sl := set_loop ok (MSET_cg ms (hf 249 (by omega) (by omega)) (hf 267 (by omega) (by omega))) hi (x2 := x) hx (hd i (Nat.le_refl _))
    obtain ⟨l1, l2, l3, l4⟩ := sl
    refine ⟨?_, ?_, ?_, by omega, ?_, ?_⟩
    · simp only
      unfold P_X12_findPlacing_29 fx_i
      intro q
      exact ⟨l1, by omega⟩
    · show (0 : Int) ≤ x
      omega
    · show x + (-1) = (N : Int) - 1 - ((i + 1 : Nat) : Int)
      omega
    · intro a a1 a2
      exact (l2 a a1 a2).trans (hf a a1 a2)
    · intro r hr s s1 s2
      show DP (s_X12_findPlacing_12 x g') pin gm ks N nm r s
      by_cases y : r = i + 1
      · subst y; exact l4 s s1 s2
      · exact DP_cg (hd r (by omega) s s1 s2) (l2 249 (by omega) (by omega)) (l3 _ (by omega)).1 (l3 _ (by omega)).2
  · rintro ⟨x, g'⟩ ⟨hx, -⟩
    simp only at hx
    refine ⟨?_, ?_⟩
    · show P_X12_findPlacing_29 x g'
      unfold P_X12_findPlacing_29
      intro q; omega
    · show ¬ (0 : Int) ≤ x
      omega
end LY
theorem find_open {g : pH} {nw : Nat} (hw : g 249 13 = nw) (h16 : nw ≤ 16) : P_X12_findOpen g ∧ F_X12_findOpen g = opn (g 249) nw ∧ (∀ a, a ≠ 267 → H_X12_findOpen g a = g a) ∧ ∀ k : Int, 0 ≤ k → k < opn (g 249) nw → H_X12_findOpen g 267 k = opc (g 249) nw k := by
  have key := fx_rule (σ := Int × Int × pH) (c := fun t => C_X12_findOpen_4 t.1 t.2.1 t.2.2) (f := fun t => B_X12_findOpen_4 t.1 t.2.1 t.2.2) (P := fun t => P_X12_findOpen_4 t.1 t.2.1 t.2.2) (s0 := (0, 0, g)) nw
    (fun i t => t.1 = opn (g 249) i ∧ t.2.1 = i ∧ i ≤ nw ∧ (∀ a, a ≠ 267 → t.2.2 a = g a) ∧ ∀ k : Int, 0 ≤ k → k < opn (g 249) i → t.2.2 267 k = opc (g 249) i k)
    ⟨rfl, rfl, by omega, fun _ _ => rfl, fun k k1 k2 => by unfold opn at k2; omega⟩ ?_ ?_
  · obtain ⟨k1, k2, k3, k4, k5, k6⟩ := key
    exact ⟨k1, k2, k5, k6⟩
  · rintro i ⟨x1, x, g'⟩ hi ⟨h1, hx, hi2, hf, hv⟩
    simp only at h1 hx hf hv
    subst hx
    subst h1
    have e9 := hf 249 (by omega)
    have ole := opn_le (z := g 249) i
    refine ⟨?_, ?_, ?_, ?_, by omega, ?_, ?_⟩
    · simp only
      unfold P_X12_findOpen_4 fx_i
      intro q
      exact ⟨(isOpen_M i g' (by omega) (by omega)).1, fun _ => by omega, by omega⟩
    · show (i : Int) < g' 249 13
      rw [e9]; omega
    · show s_X12_findOpen_2 (opn (g 249) i) i g' = _
      unfold s_X12_findOpen_2
      rw [e9]
      by_cases c : zopen (g 249) i
      · rw [opn_t c]; exact (if_pos c).trans (by omega)
      · rw [opn_f c]; exact if_neg c
    · show (i : Int) + 1 = ((i + 1 : Nat) : Int)
      omega
    · intro a ha
      show s_X12_findOpen_1 (opn (g 249) i) i g' a = g a
      unfold s_X12_findOpen_1
      split
      · rw [up_cell _ ha]; exact hf a ha
      · exact hf a ha
    · intro k k1 k2
      show s_X12_findOpen_1 (opn (g 249) i) i g' 267 k = _
      unfold s_X12_findOpen_1
      rw [e9]
      by_cases c : zopen (g 249) i
      · rw [opn_t c] at k2
        rw [opc_t c]
        refine (congrFun (congrFun (if_pos c) 267) k).trans ?_
        by_cases y : k = opn (g 249) i
        · rw [if_pos y, y, up_eq]
        · rw [if_neg y, up_pl _ y]; exact hv k k1 (by omega)
      · rw [opn_f c] at k2
        rw [opc_f c]
        exact (congrFun (congrFun (if_neg c) 267) k).trans (hv k k1 k2)
  · rintro ⟨x1, x, g'⟩ ⟨h1, hx, hi2, hf, -⟩
    simp only at hx hf
    subst hx
    have e9 := hf 249 (by omega)
    refine ⟨?_, ?_⟩
    · show P_X12_findOpen_4 x1 nw g'
      unfold P_X12_findOpen_4
      rw [e9]
      intro q; omega
    · show ¬ (nw : Int) < g' 249 13
      rw [e9]; omega
