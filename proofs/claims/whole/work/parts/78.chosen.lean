/-! The model's placing: the machine that one work gets. -/
section CH
variable {pin gm ks : Int → Int} {N nm : Nat}
theorem mach_pick {g : pH} (ok : OKP pin gm ks N nm) (ms : MSET g pin gm N nm) {r : Nat} (hr : r < N) {a1 y2 x6 s : Int} (h6 : x6 = (N : Int) - 1 - r) (hs : 0 ≤ s ∧ s < 1024) (dp : ∀ s : Int, 0 ≤ s → s < 1024 → DP g pin gm ks N nm r s ∧ DP g pin gm ks N nm (r + 1) s) :
    O_X12_placing_100 a1 y2 s x6 ((1024 * x6) + s) g (-1) (if g 265 ((1024 * (x6 + 1)) + s) = g 265 ((1024 * x6) + s) ∧ g 266 ((1024 * (x6 + 1)) + s) = g 266 ((1024 * x6) + s) then 1 else 0) 0 ∧
    PICK pin gm ks N nm r (fsz (g 249) nm s) (s_X12_placing_6 a1 y2 s x6 g) := by
  have hmax := VV_max ok (r := r) (F := fsz (g 249) nm s) (fun m q => fsz_in q)
  obtain ⟨hN, hm, hp, hg, -⟩ := ok
  obtain ⟨m12, mp, mg, m8⟩ := ms
  have hk := mp x6 (by omega) (by omega)
  have ek : pin ((N : Int) - 1 - r) = pin x6 := by rw [h6]
  have e1 : (1024 * (x6 + 1)) + s = 1024 * ((N : Int) - r) + s := by omega
  have e0 : (1024 * x6) + s = 1024 * ((N : Int) - ((r + 1 : Nat) : Int)) + s := by omega
  have er : 0 ≤ (1024 * x6) + s ∧ (1024 * x6) + s < 9216 := by omega
  obtain ⟨⟨u1, u2, u3, u4, u5⟩, ⟨w1, w2, w3, w4, w5⟩⟩ := dp s hs.1 hs.2
  have key := fx_ruleM (σ := Int × Int × Int) (c := fun t => C_X12_placing_100 a1 y2 s x6 ((1024 * x6) + s) g t.1 t.2.1 t.2.2) (f := fun t => B_X12_placing_100 a1 y2 s x6 ((1024 * x6) + s) g t.1 t.2.1 t.2.2) (P := fun t => P_X12_placing_100 a1 y2 s x6 ((1024 * x6) + s) g t.1 t.2.1 t.2.2)
    (fun t => (t.2.1 = 0 ∧ t.1 = -1 ∧ 0 ≤ t.2.2 ∧ t.2.2 ≤ nm ∧ VV pin gm ks N nm r (fsz (g 249) nm s) ≠ VV pin gm ks N nm (r + 1) (fsz (g 249) nm s) ∧ ∀ m : Int, 0 ≤ m → m < t.2.2 → ¬ GOOD pin gm ks N nm r (fsz (g 249) nm s) m) ∨ (t.2.1 = 1 ∧ PICK pin gm ks N nm r (fsz (g 249) nm s) t.1))
    (fun t => if t.2.1 = 0 then (nm + 1 - t.2.2.toNat) else 0) (by
      rintro ⟨x5, x9, x⟩ hc
      simp only at hc ⊢
      rcases hc with ⟨rfl, rfl, x0, x1, nv, ng⟩ | ⟨rfl, pk⟩
      · obtain ⟨i, hi⟩ : ∃ i : Nat, x = i := ⟨x.toNat, by omega⟩
        subst hi
        by_cases ci : (i : Int) < nm
        · have hin : i < nm := by omega
          obtain ⟨c1, c2, c3⟩ := mg i (by omega) (by omega)
          have eg : s_X12_gauge_1 (g 249 (84 + i)) g = gm i := ((gauge_M (g 249 (84 + i)) g m8 ⟨c1, c2⟩).2).trans c3
          have pg := (gauge_M (g 249 (84 + i)) g m8 ⟨c1, c2⟩).1
          have s10 := shl_10 ⟨i, by omega⟩
          have rg := or_rng hs s10
          simp only at rg
          have e : (1024 * (x6 + 1)) + pm_or s (pm_shl 1 i) = 1024 * ((N : Int) - r) + pm_or s (pm_shl 1 i) := by omega
          obtain ⟨d1, d2, d3, d4, d5⟩ := (dp (pm_or s (pm_shl 1 i)) rg.1 rg.2).1
          rw [fsz_on hm hin] at d5
          have hgi := hg i
          have bit := bt_test (x := s) (m := i) (by omega)
          have fa := fsz_at (z := g 249) (s := s) hin
          refine ⟨?_, fun _ => ?_⟩
          · unfold P_X12_placing_100 P_X12_mayHave P_X12_at fx_i fx_l
            intro q
            rw [e, eg]
            generalize pm_or s (pm_shl 1 i) = u at *
            generalize (1024 * x6) + s = y7 at *
            clear dp mp mg fa bit hmax hg hp ng nv
            refine ⟨fun _ => ⟨by omega, ⟨by omega, by omega, fun _ => ⟨by omega, by omega, fun _ => by omega⟩⟩, fun _ => ⟨by omega, by omega, by omega, by omega, by omega, er, fun _ => ⟨by omega, ⟨by omega, by omega⟩, pg, by omega⟩⟩⟩, by omega⟩
          · have skip : ¬ GOOD pin gm ks N nm r (fsz (g 249) nm s) i → B_X12_placing_100 a1 y2 s x6 ((1024 * x6) + s) g (-1) 0 i = (-1, 0, (i : Int) + 1) → (fun t : Int × Int × Int => (t.2.1 = 0 ∧ t.1 = -1 ∧ 0 ≤ t.2.2 ∧ t.2.2 ≤ nm ∧ VV pin gm ks N nm r (fsz (g 249) nm s) ≠ VV pin gm ks N nm (r + 1) (fsz (g 249) nm s) ∧ ∀ m : Int, 0 ≤ m → m < t.2.2 → ¬ GOOD pin gm ks N nm r (fsz (g 249) nm s) m) ∨ (t.2.1 = 1 ∧ PICK pin gm ks N nm r (fsz (g 249) nm s) t.1)) (B_X12_placing_100 a1 y2 s x6 ((1024 * x6) + s) g (-1) 0 i) ∧ (fun t : Int × Int × Int => if t.2.1 = 0 then (nm + 1 - t.2.2.toNat) else 0) (B_X12_placing_100 a1 y2 s x6 ((1024 * x6) + s) g (-1) 0 i) < if (0 : Int) = 0 then (nm + 1 - (i : Int).toNat) else 0 := by
              intro n eB
              rw [eB]
              refine ⟨Or.inl ⟨rfl, rfl, by simp only; omega, by simp only; omega, nv, fun m q1 q2 => ?_⟩, ?_⟩
              · by_cases y : m = i
                · rw [y]; exact n
                · simp only at q2
                  exact ng m q1 (by omega)
              · simp only
                rw [if_pos True.intro, if_pos True.intro]; omega
            by_cases c : fsz (g 249) nm s i = true ∧ (pin x6 = -1 ∨ pin x6 = i)
            · have f := fa.mp c.1
              have cf : g 249 (134 + i) = 0 ∧ (g 249 (144 + i) = 0 ∧ (g 249 (280 + (g 267 x6)) = (-1) ∨ g 249 (280 + (g 267 x6)) = i)) := ⟨f.1.1, f.1.2, by rw [hk.2.2]; exact c.2⟩
              by_cases c' : g 265 (1024 * ((N : Int) - r) + pm_or s (pm_shl 1 i)) + 1 = g 265 ((1024 * x6) + s) ∧ g 266 (1024 * ((N : Int) - r) + pm_or s (pm_shl 1 i)) + gm i = g 266 ((1024 * x6) + s)
              · have eB : B_X12_placing_100 a1 y2 s x6 ((1024 * x6) + s) g (-1) 0 i = ((i : Int), 1, (i : Int) + 1) := by
                  unfold B_X12_placing_100 s_X12_placing_4 s_X12_placing_5 s_X12_placing_3
                  rw [bit, if_neg f.2, if_pos rfl, if_pos rfl, if_pos cf, if_pos cf, e, eg, if_pos c', if_pos c']
                rw [eB]
                refine ⟨Or.inr ⟨rfl, Or.inr ⟨nv, by simp only; omega, by simp only; omega, ⟨c.1, by rw [ek]; exact c.2, ?_⟩, ng⟩⟩, ?_⟩
                · simp only
                  rw [← d5, ← w5, ← e0, ← c'.1, ← c'.2]
                  generalize g 265 (1024 * ((N : Int) - r) + pm_or s (pm_shl 1 i)) = p
                  generalize g 266 (1024 * ((N : Int) - r) + pm_or s (pm_shl 1 i)) = v
                  omega
                · simp only
                  rw [if_neg (show ¬ (1 : Int) = 0 by omega), if_pos True.intro]; omega
              · have eB : B_X12_placing_100 a1 y2 s x6 ((1024 * x6) + s) g (-1) 0 i = (-1, 0, (i : Int) + 1) := by
                  unfold B_X12_placing_100 s_X12_placing_4 s_X12_placing_5 s_X12_placing_3
                  rw [bit, if_neg f.2, if_pos rfl, if_pos rfl, if_pos cf, if_pos cf, e, eg, if_neg c', if_neg c']
                refine skip (fun G => c' ?_) eB
                have G3 := G.2.2
                rw [← d5, ← w5, ← e0] at G3
                rw [e0] at G3 ⊢
                generalize g 265 (1024 * ((N : Int) - r) + pm_or s (pm_shl 1 i)) = p at *
                generalize g 266 (1024 * ((N : Int) - r) + pm_or s (pm_shl 1 i)) = v at *
                generalize g 265 (1024 * ((N : Int) - ((r + 1 : Nat) : Int)) + s) = p' at *
                generalize g 266 (1024 * ((N : Int) - ((r + 1 : Nat) : Int)) + s) = v' at *
                clear dp mp mg fa bit hmax hg hp ng nv skip
                omega
            · have eB : B_X12_placing_100 a1 y2 s x6 ((1024 * x6) + s) g (-1) 0 i = (-1, 0, (i : Int) + 1) := by
                unfold B_X12_placing_100 s_X12_placing_4 s_X12_placing_5
                rw [bit]
                by_cases y : bt s i = true
                · rw [if_pos y, if_neg (show ¬ (1 : Int) = 0 by omega), if_neg (show ¬ (1 : Int) = 0 by omega)]
                · have cf : ¬ (g 249 (134 + i) = 0 ∧ (g 249 (144 + i) = 0 ∧ (g 249 (280 + (g 267 x6)) = (-1) ∨ g 249 (280 + (g 267 x6)) = i))) := fun q => c ⟨fa.mpr ⟨⟨q.1, q.2.1⟩, y⟩, by rw [← hk.2.2]; exact q.2.2⟩
                  rw [if_neg y, if_pos rfl, if_pos rfl, if_neg cf, if_neg cf]
              exact skip (fun G => c ⟨G.1, by rw [← ek]; exact G.2.1⟩) eB
        · refine ⟨?_, fun q => ?_⟩
          · unfold P_X12_placing_100
            intro q
            omega
          · have q' : (i : Int) < g 249 12 ∧ (0 : Int) = 0 := q
            omega
      · refine ⟨?_, fun q => ?_⟩
        · unfold P_X12_placing_100
          intro q
          omega
        · have q' : x < g 249 12 ∧ (1 : Int) = 0 := q
          omega)
    ((-1), (if g 265 ((1024 * (x6 + 1)) + s) = g 265 ((1024 * x6) + s) ∧ g 266 ((1024 * (x6 + 1)) + s) = g 266 ((1024 * x6) + s) then 1 else 0), 0) (by
      simp only
      rw [e1, e0]
      generalize g 265 (1024 * ((N : Int) - r) + s) = p at *
      generalize g 266 (1024 * ((N : Int) - r) + s) = v at *
      generalize g 265 (1024 * ((N : Int) - ((r + 1 : Nat) : Int)) + s) = p' at *
      generalize g 266 (1024 * ((N : Int) - ((r + 1 : Nat) : Int)) + s) = v' at *
      by_cases c : p = p' ∧ v = v'
      · rw [if_pos c]
        refine Or.inr ⟨rfl, Or.inl ⟨?_, rfl⟩⟩
        rw [← u5, ← w5, c.1, c.2]
      · rw [if_neg c]
        refine Or.inl ⟨rfl, trivial, by omega, by omega, fun y => c ?_, fun m q1 q2 => by omega⟩
        rw [← u5, ← w5] at y
        omega)
  obtain ⟨k1, k2, k3⟩ := key
  refine ⟨k1, ?_⟩
  change (s_X12_placing_7 a1 y2 s x6 g = 0 ∧ _ = _ ∧ 0 ≤ s_X12_placing_8 a1 y2 s x6 g ∧ s_X12_placing_8 a1 y2 s x6 g ≤ nm ∧ _ ∧ ∀ m : Int, 0 ≤ m → m < s_X12_placing_8 a1 y2 s x6 g → _) ∨ (_ ∧ PICK pin gm ks N nm r (fsz (g 249) nm s) (s_X12_placing_6 a1 y2 s x6 g)) at k2
  change ¬ (s_X12_placing_8 a1 y2 s x6 g < g 249 12 ∧ s_X12_placing_7 a1 y2 s x6 g = 0) at k3
  rcases k2 with ⟨q1, q2, q3, q4, q5, q6⟩ | ⟨-, q⟩
  · exfalso
    rcases hmax.2.2 with y | ⟨q, y1, y2', y3⟩
    · exact q5 y.symm
    · have := fsz_in y1
      exact q6 q this.1 (by omega) ⟨y1, y2', y3.symm⟩
  · exact q
theorem or_0 {z : Int → Int} {nm : Nat} {s : Int} : fsz z nm (pm_or s 0) = fsz z nm s := by
  funext q
  unfold fsz
  rw [bt_or]
  have : bt 0 q.toNat = false := by unfold bt bv; simp
  rw [this, Bool.or_false]
theorem chosen_M {g : pH} (ok : OKP pin gm ks N nm) (ms : MSET g pin gm N nm) (dp : ∀ r : Nat, r ≤ N → ∀ s : Int, 0 ≤ s → s < 1024 → DP g pin gm ks N nm r s) {a1 : Int} {k : Nat} (hk : k < N) (e : g 267 k = a1) (hne : ∀ j : Int, 0 ≤ j → j < k → g 267 j ≠ a1) :
    O_X12_placing_56 a1 N g 0 (-1) 0 ∧ (L_X12_placing_56 a1 N g 0 (-1) 0).2.2.1 = chq pin gm ks N nm (fsz (g 249) nm 0) k := by
  have hN := ok.1
  have hm := ok.2.1
  have key := fx_ruleM (σ := Int × Int × Int × Int) (c := fun s => s.1 = 0) (f := fun s => B_X12_placing_56 a1 N g s.2.1 s.2.2.1 s.2.2.2) (P := fun s => s.1 = 0 → P_X12_placing_56 a1 N g s.2.1 s.2.2.1 s.2.2.2)
    (fun t => (t.1 = 0 ∧ ∃ i : Nat, t.2.2.2 = i ∧ i ≤ k ∧ 0 ≤ t.2.1 ∧ t.2.1 < 1024 ∧ fsz (g 249) nm t.2.1 = fsq pin gm ks N nm (fsz (g 249) nm 0) i) ∨ (t.1 = 2 ∧ t.2.2.1 = chq pin gm ks N nm (fsz (g 249) nm 0) k))
    (fun t => if t.1 = 0 then (N + 1 - t.2.2.2.toNat) else 0) (by
      rintro ⟨t, x4, x5, x⟩ hc
      simp only at hc ⊢
      refine ⟨fun ht => ?_, fun ht => ?_⟩
      all_goals
        subst ht
        obtain ⟨-, i, hx, hi, s0, s1, es⟩ := hc.resolve_right (fun q => absurd q.1 (by omega))
        subst hx
        have mp := mach_pick ok ms (r := N - 1 - i) (by omega) (a1 := a1) (y2 := N) (x6 := i) (s := x4) (by omega) ⟨s0, s1⟩ (fun s q1 q2 => ⟨dp _ (by omega) s q1 q2, dp _ (by omega) s q1 q2⟩)
      · unfold P_X12_placing_56 fx_i
        intro q
        exact ⟨by omega, by omega, by omega, by omega, by omega, by omega, by omega, mp.1, by omega⟩
      · have eq := pkq_of mp.2
        rw [es] at eq
        have pst := pick_step mp.2
        have ech : chq pin gm ks N nm (fsz (g 249) nm 0) i = s_X12_placing_6 a1 N x4 i g := eq
        have efs : fsq pin gm ks N nm (fsz (g 249) nm 0) (i + 1) = if s_X12_placing_6 a1 N x4 i g = -1 then fsq pin gm ks N nm (fsz (g 249) nm 0) i else offF (fsq pin gm ks N nm (fsz (g 249) nm 0) i) (s_X12_placing_6 a1 N x4 i g) := by
          show (if pkq pin gm ks N nm (N - 1 - i) (fsq pin gm ks N nm (fsz (g 249) nm 0) i) = -1 then _ else offF _ (pkq pin gm ks N nm (N - 1 - i) (fsq pin gm ks N nm (fsz (g 249) nm 0) i))) = _
          rw [eq]
        unfold B_X12_placing_56
        rw [if_neg (show ¬ (N : Int) ≤ i by omega)]
        by_cases c : g 267 i = a1
        · rw [if_pos c]
          have ik : i = k := by
            rcases Nat.lt_or_ge i k with y | y
            · exact absurd c (hne i (by omega) (by omega))
            · omega
          subst ik
          refine ⟨Or.inr ⟨rfl, ech.symm⟩, ?_⟩
          rw [if_pos rfl, if_neg (show ¬ (2 : Int) = 0 by omega)]
          omega
        · rw [if_neg c]
          have ik : i ≠ k := fun y => c (by rw [y]; exact e)
          refine ⟨Or.inl ⟨rfl, i + 1, by simp only; omega, by omega, ?_⟩, ?_⟩
          · simp only
            rw [efs, ← es]
            unfold s_X12_placing_9
            generalize s_X12_placing_6 a1 N x4 i g = ch at *
            by_cases y : ch = -1
            · rw [if_pos y, if_pos y]
              have := or_rng (x := x4) (y := 0) ⟨s0, s1⟩ (by omega)
              exact ⟨this.1, this.2, or_0⟩
            · rw [if_neg y, if_neg y]
              obtain ⟨j, hj⟩ : ∃ j : Nat, ch = j := ⟨ch.toNat, by omega⟩
              subst hj
              have := or_rng (x := x4) ⟨s0, s1⟩ (shl_10 ⟨j, by omega⟩)
              exact ⟨this.1, this.2, fsz_on hm (by omega)⟩
          · rw [if_pos rfl, if_pos rfl]
            show N + 1 - ((i : Int) + 1).toNat < N + 1 - (i : Int).toNat
            omega)
    (0, 0, -1, 0) (Or.inl ⟨rfl, 0, rfl, by omega, by simp only; omega, by simp only; omega, rfl⟩)
  obtain ⟨k1, k2, k3⟩ := key
  refine ⟨k1, ?_⟩
  rcases k2 with k2 | k2
  · exact absurd k2.1 k3
  · exact k2.2
/-- whether what was asked for is open -/
theorem one_M {g : pH} {N : Nat} (h16 : N ≤ 16) (a1 y0 : Int) (hy : y0 = 0 ∨ y0 = 1) : O_X12_placing_12 a1 N g y0 0 ∧ ((L_X12_placing_12 a1 N g y0 0).1 = 0 ↔ y0 = 0 ∧ ∀ k : Int, 0 ≤ k → k < N → g 267 k ≠ a1) := by
  have key := fx_rule (σ := Int × Int) (c := fun t => C_X12_placing_12 a1 N g t.1 t.2) (f := fun t => B_X12_placing_12 a1 N g t.1 t.2) (P := fun t => P_X12_placing_12 a1 N g t.1 t.2) (s0 := (y0, 0)) N
    (fun i t => t.2 = i ∧ i ≤ N ∧ (t.1 = 0 ∨ t.1 = 1) ∧ (t.1 = 0 ↔ y0 = 0 ∧ ∀ k : Int, 0 ≤ k → k < i → g 267 k ≠ a1)) ⟨rfl, by omega, hy, ⟨fun q => ⟨q, fun k k1 k2 => by omega⟩, fun q => q.1⟩⟩ ?_ ?_
  · exact ⟨key.1, key.2.2.2.2⟩
  · rintro i ⟨x3, x⟩ hi ⟨hx, hi2, h01, hq⟩
    simp only at hx h01 hq
    subst hx
    refine ⟨?_, show (i : Int) < (N : Int) by omega, ?_, by omega, ?_, ?_⟩
    · simp only
      unfold P_X12_placing_12 fx_i
      intro q
      omega
    · show (i : Int) + 1 = ((i + 1 : Nat) : Int)
      omega
    · show (if (¬ x3 = 0) ∨ g 267 i = a1 then (1 : Int) else 0) = 0 ∨ (if (¬ x3 = 0) ∨ g 267 i = a1 then (1 : Int) else 0) = 1
      split <;> omega
    · show (if (¬ x3 = 0) ∨ g 267 i = a1 then (1 : Int) else 0) = 0 ↔ _
      by_cases c : (¬ x3 = 0) ∨ g 267 i = a1
      · rw [if_pos c]
        constructor
        · intro q; omega
        · rintro ⟨q1, q2⟩
          rcases c with c | c
          · exact absurd (hq.mpr ⟨q1, fun k k1 k2 => q2 k k1 (by omega)⟩) c
          · exact absurd c (q2 i (by omega) (by omega))
      · rw [if_neg c]
        refine ⟨fun _ => ?_, fun _ => rfl⟩
        have c3 : x3 = 0 := Decidable.not_not.mp (fun y => c (Or.inl y))
        obtain ⟨q1, q2⟩ := hq.mp c3
        refine ⟨q1, fun k k1 k2 => ?_⟩
        by_cases y : k = i
        · rw [y]; exact fun w => c (Or.inr w)
        · exact q2 k k1 (by omega)
  · rintro ⟨x3, x⟩ ⟨hx, -⟩
    simp only at hx
    subst hx
    refine ⟨?_, ?_⟩
    · show P_X12_placing_12 a1 N g x3 N
      unfold P_X12_placing_12
      intro q; omega
    · show ¬ (N : Int) < N
      omega
end CH
