/-! The class's Placer: the placing, its sum, the machine of one work. -/
noncomputable def pkq (pin gm ks : Int → Int) (N nm r : Nat) (F : Int → Bool) : Int := Classical.epsilon (PICK pin gm ks N nm r F)
theorem pkq_of {pin gm ks : Int → Int} {N nm r : Nat} {F : Int → Bool} {q : Int} (h : PICK pin gm ks N nm r F q) : pkq pin gm ks N nm r F = q :=
  PICK_one (Classical.epsilon_spec ⟨q, h⟩) h
/-- the machines that are free when work i is placed, and the one that it gets -/
noncomputable def fsq (pin gm ks : Int → Int) (N nm : Nat) (F : Int → Bool) : Nat → Int → Bool
  | 0 => F
  | i + 1 => if pkq pin gm ks N nm (N - 1 - i) (fsq pin gm ks N nm F i) = -1 then fsq pin gm ks N nm F i else offF (fsq pin gm ks N nm F i) (pkq pin gm ks N nm (N - 1 - i) (fsq pin gm ks N nm F i))
noncomputable def chq (pin gm ks : Int → Int) (N nm : Nat) (F : Int → Bool) (i : Nat) : Int := pkq pin gm ks N nm (N - 1 - i) (fsq pin gm ks N nm F i)
noncomputable def smq (pin gm ks : Int → Int) (N nm : Nat) (F : Int → Bool) (n : Nat) : Int := zs (fun i => if chq pin gm ks N nm F i.toNat = -1 then 0 else gm (chq pin gm ks N nm F i.toNat)) n
section PD
variable {pin gm ks : Int → Int} {N nm : Nat}
/-- one step: what is left for those behind -/
theorem pick_step {r : Nat} {F : Int → Bool} {q : Int} (p : PICK pin gm ks N nm r F q) :
    -1 ≤ q ∧ q < nm ∧ (q ≠ -1 → F q = true) ∧ VV pin gm ks N nm (r + 1) F = (if q = -1 then 0 else 1099511627776 - gm q) + VV pin gm ks N nm r (if q = -1 then F else offF F q) := by
  rcases p with ⟨a, rfl⟩ | ⟨a, b1, b2, ⟨c1, c2, c3⟩, b4⟩
  · rw [if_pos rfl, if_pos rfl, a]
    exact ⟨by omega, by omega, fun q => absurd rfl q, by omega⟩
  · rw [if_neg (show ¬ q = -1 by omega), if_neg (show ¬ q = -1 by omega), c3]
    exact ⟨by omega, b2, fun _ => c1, rfl⟩
theorem smq_s (F : Int → Bool) (n : Nat) : smq pin gm ks N nm F (n + 1) = smq pin gm ks N nm F n + (if chq pin gm ks N nm F n = -1 then 0 else gm (chq pin gm ks N nm F n)) := rfl
theorem smq_bd (ok : OKP pin gm ks N nm) (F : Int → Bool) : ∀ n : Nat, (n : Int) * (-150022500) ≤ smq pin gm ks N nm F n ∧ smq pin gm ks N nm F n ≤ (n : Int) * 150022500
  | 0 => by unfold smq zs; omega
  | n + 1 => by
    have ih := smq_bd ok F n
    have hg := ok.2.2.2.1 (chq pin gm ks N nm F n)
    rw [smq_s]
    have e1 : ((n + 1 : Nat) : Int) * (-150022500) = (n : Int) * (-150022500) + -150022500 := by rw [show ((n + 1 : Nat) : Int) = (n : Int) + 1 by omega, Int.add_mul, Int.one_mul]
    have e2 : ((n + 1 : Nat) : Int) * 150022500 = (n : Int) * 150022500 + 150022500 := by rw [show ((n + 1 : Nat) : Int) = (n : Int) + 1 by omega, Int.add_mul, Int.one_mul]
    rw [e1, e2]
    split <;> omega
theorem place_loop {h : pH} (ok : OKP pin gm ks N nm) (se : SETP h pin gm ks N nm) {x2 x3 : Int} (h3 : x3 = VV pin gm ks N nm N (fb nm x2)) :
    O_X7_place_15 x2 x3 0 h ∧ (∀ a, a ≠ 150 → (L_X7_place_15 x2 x3 0 h).2.2.2 a = h a) ∧ (∀ j : Nat, j < N → (L_X7_place_15 x2 x3 0 h).2.2.2 150 j = chq pin gm ks N nm (fb nm x2) j ∧ PICK pin gm ks N nm (N - 1 - j) (fsq pin gm ks N nm (fb nm x2) j) (chq pin gm ks N nm (fb nm x2) j)) ∧
    ∃ cnt : Int, 0 ≤ cnt ∧ cnt ≤ N ∧ VV pin gm ks N nm N (fb nm x2) = cnt * 1099511627776 - smq pin gm ks N nm (fb nm x2) N := by
  have key := fx_rule (σ := Int × Int × Int × pH) (c := fun s => C_X7_place_15 s.1 s.2.1 s.2.2.1 s.2.2.2) (f := fun s => B_X7_place_15 s.1 s.2.1 s.2.2.1 s.2.2.2) (P := fun s => P_X7_place_15 s.1 s.2.1 s.2.2.1 s.2.2.2) (s0 := (x2, x3, 0, h)) N
    (fun i s => s.2.2.1 = i ∧ i ≤ N ∧ fb nm s.1 = fsq pin gm ks N nm (fb nm x2) i ∧ s.2.1 = VV pin gm ks N nm (N - i) (fsq pin gm ks N nm (fb nm x2) i) ∧ (∀ a, a ≠ 150 → s.2.2.2 a = h a) ∧
      (∀ j : Nat, j < i → s.2.2.2 150 j = chq pin gm ks N nm (fb nm x2) j ∧ PICK pin gm ks N nm (N - 1 - j) (fsq pin gm ks N nm (fb nm x2) j) (chq pin gm ks N nm (fb nm x2) j)) ∧
      ∃ cnt : Int, 0 ≤ cnt ∧ cnt ≤ i ∧ VV pin gm ks N nm N (fb nm x2) = cnt * 1099511627776 - smq pin gm ks N nm (fb nm x2) i + VV pin gm ks N nm (N - i) (fsq pin gm ks N nm (fb nm x2) i))
    ⟨rfl, by omega, rfl, h3, fun _ _ => rfl, fun j hj => by omega, 0, by omega, by omega, by unfold smq zs fsq; simp⟩ ?_ ?_
  · obtain ⟨k1, k2, k3, k4, k5, k6, k7, cnt, k8, k9, k10⟩ := key
    refine ⟨k1, k6, k7, cnt, k8, k9, ?_⟩
    rw [Nat.sub_self, VV_0] at k10
    omega
  · rintro i ⟨y2, y3, x, h'⟩ hi ⟨hx, hi2, e2, e3, hf, hv, cnt, n1, n2, n3⟩
    simp only at hx e2 e3 hf hv
    subst hx
    have se' : SETP h' pin gm ks N nm := by
      obtain ⟨s5, s6, sp, sg, sk⟩ := se
      unfold SETP
      rw [hf 147 (by omega), hf 149 (by omega), hf 151 (by omega), hf 152 (by omega)]
      exact ⟨s5, s6, sp, sg, sk⟩
    have er : N - i = (N - 1 - i) + 1 := by omega
    have fc := first_choice ok se' (r := N - 1 - i) (by omega) (i := i) (a2 := y2) (a3 := y3) (by omega) (by rw [e3, e2, er])
    rw [e2] at fc
    obtain ⟨fp, fq⟩ := fc
    have eq := pkq_of fq
    have ech : chq pin gm ks N nm (fb nm x2) i = F_X7_firstChoice i y2 y3 h' := eq
    have efs : fsq pin gm ks N nm (fb nm x2) (i + 1) = if F_X7_firstChoice i y2 y3 h' = -1 then fsq pin gm ks N nm (fb nm x2) i else offF (fsq pin gm ks N nm (fb nm x2) i) (F_X7_firstChoice i y2 y3 h') := by
      show (if pkq pin gm ks N nm (N - 1 - i) (fsq pin gm ks N nm (fb nm x2) i) = -1 then _ else offF _ (pkq pin gm ks N nm (N - 1 - i) (fsq pin gm ks N nm (fb nm x2) i))) = _
      rw [eq]
    obtain ⟨p1, p2, p3, p4⟩ := pick_step fq
    have hgq := ok.2.2.2.1 (F_X7_firstChoice i y2 y3 h')
    have vb := VV_bd ok (N - i) (fsq pin gm ks N nm (fb nm x2) i)
    have vb1 := VV_bd ok N (fb nm x2)
    have hN := ok.1
    have hm := ok.2.1
    have s51 := se'.2.2.2.1
    have e5 := se'.1
    have ep4 : VV pin gm ks N nm (N - i) (fsq pin gm ks N nm (fb nm x2) i) = (if F_X7_firstChoice i y2 y3 h' = -1 then 0 else 1099511627776 - gm (F_X7_firstChoice i y2 y3 h')) + VV pin gm ks N nm (N - (i + 1)) (fsq pin gm ks N nm (fb nm x2) (i + 1)) := by
      rw [efs, show N - (i + 1) = N - 1 - i by omega, er]; exact p4
    refine ⟨?_, ?_, ?_, by omega, ?_, ?_, ?_, ?_, ?_⟩
    · simp only
      unfold P_X7_place_15 P_X7_worth s_X7_place_2 fx_i fx_l
      intro q
      rw [up_eq, up_cell h' (show (151 : Int) ≠ 150 by omega)]
      refine ⟨fp, by omega, fun c => ?_, by omega⟩
      have := s51 (F_X7_firstChoice i y2 y3 h') (by omega) p2
      rw [this]
      exact ⟨⟨by omega, by omega⟩, by omega⟩
    · show (i : Int) < h' 147 5
      omega
    · show (i : Int) + 1 = ((i + 1 : Nat) : Int)
      omega
    · show fb nm (s_X7_place_3 y2 y3 i h') = _
      unfold s_X7_place_3
      rw [up_eq, efs]
      by_cases c : F_X7_firstChoice i y2 y3 h' = -1
      · rw [if_pos c, if_pos c, e2]
      · rw [if_neg c, if_neg c, ← e2]
        obtain ⟨j, hj⟩ : ∃ j : Nat, F_X7_firstChoice i y2 y3 h' = j := ⟨(F_X7_firstChoice i y2 y3 h').toNat, by omega⟩
        rw [hj] at p2 ⊢
        exact fb_off hm (by omega)
    · show s_X7_place_4 y2 y3 i h' = _
      unfold s_X7_place_4 s_X7_place_2
      have e3' := e3.trans ep4
      rw [up_eq, up_cell h' (show (151 : Int) ≠ 150 by omega)]
      by_cases c : F_X7_firstChoice i y2 y3 h' = -1
      · rw [if_pos c] at e3' ⊢; omega
      · rw [if_neg c] at e3' ⊢
        rw [s51 (F_X7_firstChoice i y2 y3 h') (by omega) p2]; omega
    · intro a ha
      exact (up_cell h' ha).trans (hf a ha)
    · intro j hj
      show pm_upd h' 150 i (F_X7_firstChoice i y2 y3 h') 150 j = _ ∧ _
      by_cases e : j = i
      · subst e
        rw [up_eq, ech]
        exact ⟨rfl, fq⟩
      · rw [up_pl h' (show (j : Int) ≠ i by omega)]
        exact hv j (by omega)
    · rw [n3, ep4, smq_s, ech]
      by_cases c : F_X7_firstChoice i y2 y3 h' = -1
      · refine ⟨cnt, n1, by omega, ?_⟩
        rw [if_pos c, if_pos c]; omega
      · refine ⟨cnt + 1, by omega, by omega, ?_⟩
        rw [if_neg c, if_neg c]; omega
  · rintro ⟨y2, y3, x, h'⟩ ⟨hx, hi2, e2, e3, hf, hv, cnt, n1, n2, n3⟩
    simp only at hx hf
    subst hx
    have e5 : h' 147 5 = N := by rw [hf 147 (by omega)]; exact se.1
    refine ⟨?_, ?_⟩
    · show P_X7_place_15 y2 y3 N h'
      unfold P_X7_place_15
      intro q; omega
    · show ¬ (N : Int) < h' 147 5
      omega
theorem sum_placed {h : pH} (ok : OKP pin gm ks N nm) (F : Int → Bool) (h5 : h 147 5 = N) (h51 : ∀ m : Int, 0 ≤ m → m < nm → h 151 m = gm m) (hc : ∀ j : Nat, j < N → h 150 j = chq pin gm ks N nm F j ∧ -1 ≤ chq pin gm ks N nm F j ∧ chq pin gm ks N nm F j < nm) :
    P_X7_sum h ∧ F_X7_sum h = smq pin gm ks N nm F N := by
  have hN := ok.1
  have hm := ok.2.1
  have key := fx_rule (σ := Int × Int) (c := fun s => C_X7_sum_4 h s.1 s.2) (f := fun s => B_X7_sum_4 h s.1 s.2) (P := fun s => P_X7_sum_4 h s.1 s.2) (s0 := (0, 0)) N (fun i s => s.2 = i ∧ i ≤ N ∧ s.1 = smq pin gm ks N nm F i) ⟨rfl, by omega, rfl⟩ ?_ ?_
  · exact ⟨key.1, key.2.2.2⟩
  · rintro i ⟨x1, x⟩ hi ⟨hx, hi2, e1⟩
    simp only at hx e1
    subst hx; subst e1
    obtain ⟨c1, c2, c3⟩ := hc i hi
    have hg := ok.2.2.2.1 (chq pin gm ks N nm F i)
    have bd := smq_bd ok F i
    refine ⟨?_, ?_, ?_, by omega, ?_⟩
    · simp only
      unfold P_X7_sum_4 fx_i
      intro q
      rw [c1]
      refine ⟨by omega, fun c => ?_, by omega⟩
      rw [h51 _ (by omega) c3]
      exact ⟨by omega, by omega⟩
    · show (i : Int) < h 147 5
      omega
    · show (i : Int) + 1 = ((i + 1 : Nat) : Int)
      omega
    · show s_X7_sum_1 (smq pin gm ks N nm F i) i h = _
      unfold s_X7_sum_1
      rw [c1, smq_s]
      by_cases c : chq pin gm ks N nm F i = -1
      · rw [if_pos c, if_pos c]; omega
      · rw [if_neg c, if_neg c, h51 _ (by omega) c3]
  · rintro ⟨x1, x⟩ ⟨hx, hi2, e1⟩
    simp only at hx
    subst hx
    refine ⟨?_, ?_⟩
    · show P_X7_sum_4 h x1 N
      unfold P_X7_sum_4
      intro q; omega
    · show ¬ (N : Int) < h 147 5
      omega
theorem machine_for {h : pH} {a1 : Int} {k : Nat} (hN : N ≤ 8) (h5 : h 147 5 = N) (hk : k < N) (e : h 148 k = a1) (hne : ∀ j : Int, 0 ≤ j → j < k → h 148 j ≠ a1) : P_X7_machineFor a1 h ∧ F_X7_machineFor a1 h = h 150 k := by
  have key := fx_ruleM (σ := Int × Int) (c := fun s => s.1 = 0) (f := fun s => B_X7_machineFor_2 a1 h s.2) (P := fun s => s.1 = 0 → P_X7_machineFor_2 a1 h s.2)
    (fun s => (s.1 = 0 ∧ 0 ≤ s.2 ∧ s.2 ≤ k) ∨ (s.1 = 2 ∧ s.2 = k)) (fun s => if s.1 = 0 then (N + 1 - s.2.toNat) else 0) (by
      rintro ⟨t, x⟩ hc
      simp only at hc ⊢
      refine ⟨fun ht => ?_, fun ht => ?_⟩
      · unfold P_X7_machineFor_2 fx_i
        intro q
        exact ⟨by omega, fun _ => by omega⟩
      · subst ht
        have hx : 0 ≤ x ∧ x ≤ k := by omega
        unfold B_X7_machineFor_2
        rw [if_neg (show ¬ h 147 5 ≤ x by omega)]
        by_cases c : h 148 x = a1
        · rw [if_pos c]
          have ek : x = k := by
            rcases Int.lt_or_le x k with y | y
            · exact absurd c (hne x hx.1 y)
            · omega
          refine ⟨Or.inr ⟨rfl, ek⟩, ?_⟩
          rw [if_pos rfl, if_neg (show ¬ (2 : Int) = 0 by omega)]
          omega
        · rw [if_neg c]
          have nk : x ≠ k := fun y => c (by rw [y]; exact e)
          refine ⟨Or.inl ⟨rfl, by simp only; omega, by simp only; omega⟩, ?_⟩
          rw [if_pos rfl, if_pos rfl]
          omega)
    (0, 0) (Or.inl ⟨rfl, by simp only; omega, by simp only; omega⟩)
  obtain ⟨k1, k2, k3⟩ := key
  change ((L_X7_machineFor_2 a1 h 0).1 = 0 ∧ _) ∨ ((L_X7_machineFor_2 a1 h 0).1 = 2 ∧ (L_X7_machineFor_2 a1 h 0).2 = k) at k2
  change ¬ (L_X7_machineFor_2 a1 h 0).1 = 0 at k3
  unfold P_X7_machineFor F_X7_machineFor
  refine ⟨⟨k1, fun q => ?_⟩, ?_⟩
  · omega
  · rcases k2 with k2 | ⟨k2, k4⟩
    · exact absurd k2.1 k3
    · rw [if_neg (by omega), k4]
end PD
