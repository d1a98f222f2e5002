/-! Minutes that go, in the hall and on trial. -/
noncomputable def xit (b : Int) : Nat → pH → pH
  | 0, h => h
  | k + 1, h => H_X4_step b (xit b k h)
noncomputable def mit : Nat → pH → pH
  | 0, g => g
  | k + 1, g => H_X12_minute (mit k g)
theorem nbr_bd (z : Int → Int) (nw : Nat) : 0 ≤ nbr z nw ∧ nbr z nw ≤ nw := by
  have := zs_bd (f := fun w => if z (328 + w) = 3 then (1 : Int) else 0) (n := nw) (lo := 0) (hi := 1) (fun i _ _ => by split <;> omega)
  unfold nbr
  omega
theorem broken_nbr {b : Int} {h g : pH} {nm nw : Nat} {T : Int} (q : hl b h (g 249) nm nw T) : P_X12_broken g ∧ F_X12_broken g = nbr (g 249) nw := broken_M g nw q.2.2.2.1.2.1 q.2.2.2.1.2.2.1
theorem its {b : Int} {h g : pH} {nm nw : Nat} {T : Int} (q : hl b h (g 249) nm nw T) : ∀ i : Nat, T + i ≤ 100000 → hl b (xit b i h) (mit i g 249) nm nw (T + i) ∧ (∀ a, (a < b ∨ b + 46 ≤ a) → xit b i h a = h a) ∧
    (∀ a, (a < 248 ∨ a = 250 ∨ a = 251 ∨ a = 252 ∨ a = 253 ∨ a = 254 ∨ 264 ≤ a) → mit i g a = g a) ∧ (∀ k : Int, k ≠ 8 → k ≠ 9 → k ≠ 11 → k ≠ 12 → mit i g 248 k = g 248 k) ∧ mit i g 249 15 = g 249 15 + i ∧
    (∀ w : Int, 0 ≤ w → w < nw → (mit i g 249 (328 + w) = 9 → g 249 (328 + w) = 9) ∧ (g 249 (328 + w) = 3 → mit i g 249 (328 + w) = 3))
  | 0, _ => ⟨by rw [show T + ((0 : Nat) : Int) = T by omega]; exact q, fun _ _ => rfl, fun _ _ => rfl, fun _ _ _ _ _ => rfl, by show g 249 15 = g 249 15 + ((0 : Nat) : Int); omega, fun _ _ _ => ⟨fun z => z, fun z => z⟩⟩
  | i + 1, hT => by
    obtain ⟨i1, i2, i3, i4, i5, i6⟩ := its q i (by omega)
    obtain ⟨s1, s2, s3, s4, s5, s6, s7, s8, s9⟩ := hl_step i1 (by omega)
    refine ⟨?_, fun a e => ?_, fun a e => ?_, fun k e1 e2 e3 e4 => ?_, ?_, fun w e1 e2 => ⟨fun z => (i6 w e1 e2).1 ((s9 w e1 e2).1 z), fun z => (s9 w e1 e2).2 ((i6 w e1 e2).2 z)⟩⟩
    · rw [show T + ((i + 1 : Nat) : Int) = T + i + 1 by omega]; exact s3
    · show H_X4_step b (xit b i h) a = _
      rw [s6 a e]; exact i2 a e
    · show H_X12_minute (mit i g) a = _
      rw [s7 a e]; exact i3 a e
    · show H_X12_minute (mit i g) 248 k = _
      rw [s8 k e1 e2 e3 e4]; exact i4 k e1 e2 e3 e4
    · show H_X12_minute (mit i g) 249 15 = _
      rw [s5, i5]; omega
theorem it_step {b : Int} {h g : pH} {nm nw : Nat} {T : Int} (q : hl b h (g 249) nm nw T) (i : Nat) (hT : T + i ≤ 100000) : P_X4_step b (xit b i h) ∧ P_X12_minute (mit i g) ∧ F_X4_step b (xit b i h) = nbr (mit (i + 1) g 249) nw - nbr (mit i g 249) nw := by
  obtain ⟨i1, -⟩ := its q i hT
  obtain ⟨s1, s2, -, s4, -⟩ := hl_step i1 (by omega)
  exact ⟨s1, s2, s4⟩
theorem go_ok {b : Int} {h g : pH} {nm nw : Nat} {T : Int} (q : hl b h (g 249) nm nw T) (n : Nat) (N : Int) (hN : N = n) (n30 : n ≤ 60) (hT : T ≤ 50000) : P_X4_go b N h ∧ F_X4_go b N h = nbr (mit n g 249) nw - nbr (g 249) nw ∧ H_X4_go b N h = xit b n h := by
  have key := fx_rule (σ := Int × Int × pH) (c := fun s => C_X4_go_4 b N s.1 s.2.1 s.2.2) (f := fun s => B_X4_go_4 b N s.1 s.2.1 s.2.2) (P := fun s => P_X4_go_4 b N s.1 s.2.1 s.2.2) (s0 := (0, 0, h)) n
    (fun i s => i ≤ n ∧ s.1 = nbr (mit i g 249) nw - nbr (g 249) nw ∧ s.2.1 = (i : Int) ∧ s.2.2 = xit b i h)
    ⟨by omega, by show (0 : Int) = nbr (g 249) nw - nbr (g 249) nw; omega, rfl, rfl⟩
    (by
      rintro i ⟨x, y, hh⟩ hi ⟨i0, e1, e2, e3⟩
      dsimp only at e1 e2 e3
      subst e1 e2 e3
      obtain ⟨s1, s2, s3⟩ := it_step q i (by omega)
      have b1 := nbr_bd (mit i g 249) nw
      have b2 := nbr_bd (g 249) nw
      have b3 := nbr_bd (mit (i + 1) g 249) nw
      have d16 := q.2.2.2.1.2.2.1
      refine ⟨fun _ => ⟨s1, by rw [s3]; unfold fx_i; omega, by show fx_i ((i : Int) + 1); unfold fx_i; omega⟩, ?_, by omega, ?_, ?_, rfl⟩
      · show (i : Int) < N
        omega
      · show nbr (mit i g 249) nw - nbr (g 249) nw + F_X4_step b (xit b i h) = _
        rw [s3]; omega
      · show (i : Int) + 1 = _
        omega)
    (by
      rintro ⟨x, y, hh⟩ ⟨i0, e1, e2, e3⟩
      dsimp only at e1 e2 e3
      subst e1 e2 e3
      refine ⟨fun z => ?_, ?_⟩
      · exfalso
        have z' : (n : Int) < N := z
        omega
      · show ¬ ((n : Int) < N)
        omega)
  exact ⟨key.1, key.2.2.1, key.2.2.2.2⟩
/-- a loop of minutes in the model -/
theorem mloop {c : Int × pH → Prop} {f : Int × pH → Int × pH} {P : Int × pH → Prop} (N : Int) (n : Nat) (g : pH) (hN : N = n) (hc : ∀ x y, c (x, y) → x < N) (hc2 : ∀ (i : Nat), i < n → c ((i : Int), mit i g)) (hf : ∀ (i : Nat), i < n → f ((i : Int), mit i g) = ((i : Int) + 1, H_X12_minute (mit i g))) (hP : ∀ i : Nat, i ≤ n → P ((i : Int), mit i g)) :
    fx_ok c f P (0, g) ∧ fx_wh c f (0, g) = ((n : Int), mit n g) := by
  have key := fx_rule (c := c) (f := f) (P := P) (s0 := (0, g)) n (fun i s => i ≤ n ∧ s = ((i : Int), mit i g)) ⟨by omega, rfl⟩
    (by
      rintro i s hi ⟨i0, e⟩
      subst e
      refine ⟨hP i (by omega), hc2 i hi, by omega, ?_⟩
      rw [hf i hi]
      rfl)
    (by
      rintro s ⟨i0, e⟩
      subst e
      exact ⟨hP n (Nat.le_refl n), fun z => by have := hc _ _ z; omega⟩)
  exact ⟨key.1, key.2.2⟩
/-- a minute of the hall itself, with its record -/
theorem one_min {h g : pH} {nm nw : Nat} {T : Int} (q : hl 1 h (g 249) nm nw T) (hT : T ≤ 20000) (ai : IMG h g) (ab : BOK h g) (ad : DRL h g) :
    (P_X4_step 1 h ∧ P_X0_sum 2 (H_X4_step 1 h) ∧ P_X1_note (F_X0_sum 2 (H_X4_step 1 h)) (H_X4_step 1 h)) ∧
    (P_X12_minute g ∧ ((¬ (H_X12_minute g) 248 21 = 0) → (((H_X12_minute g) 248 20 < 40) → ((P_X12_allHeat (H_X12_minute g)) ∧ (0 ≤ (H_X12_minute g) 248 20 ∧ (H_X12_minute g) 248 20 < 40) ∧ (fx_i (((s_X12_minutes_1 g) 248 20) + 1)))))) ∧
    hl 1 (H_X1_note (F_X0_sum 2 (H_X4_step 1 h)) (H_X4_step 1 h)) (s_X12_minutes_3 g 249) nm nw (T + 1) ∧ F_X4_step 1 h = nbr (s_X12_minutes_3 g 249) nw - nbr (g 249) nw ∧ s_X12_minutes_3 g 249 15 = g 249 15 + 1 ∧
    IMG (H_X1_note (F_X0_sum 2 (H_X4_step 1 h)) (H_X4_step 1 h)) (s_X12_minutes_3 g) ∧ BOK (H_X1_note (F_X0_sum 2 (H_X4_step 1 h)) (H_X4_step 1 h)) (s_X12_minutes_3 g) ∧ DRL (H_X1_note (F_X0_sum 2 (H_X4_step 1 h)) (H_X4_step 1 h)) (s_X12_minutes_3 g) ∧
    (∀ a, (a = 153 ∨ 248 ≤ a) → H_X1_note (F_X0_sum 2 (H_X4_step 1 h)) (H_X4_step 1 h) a = h a) ∧ (∀ a, a < 248 → s_X12_minutes_3 g a = g a) ∧ (∀ w : Int, 0 ≤ w → w < nw → s_X12_minutes_3 g 249 (328 + w) = 9 → g 249 (328 + w) = 9) := by
  obtain ⟨s1, s2, s3, s4, s5, s6, s7, s8, s9⟩ := hl_step q (by omega)
  obtain ⟨b1, b2, b3, b4, b5, b6, b7, b8⟩ := id ab
  obtain ⟨h1, eh⟩ : ∃ x, x = H_X4_step 1 h := ⟨_, rfl⟩
  obtain ⟨g1, eg⟩ : ∃ x, x = H_X12_minute g := ⟨_, rfl⟩
  have S := sum_both s3
  rw [← eh] at S s3 s6 ⊢
  rw [← eg] at S s3 s4 s5 s7 s8 s9 ⊢
  obtain ⟨S1, S2, S3⟩ := S
  have S1 : P_X0_sum 2 h1 := S1
  have S3 : F_X0_sum 2 h1 = F_X12_allHeat g1 := S3
  have k20 : g1 248 20 = g 248 20 := s8 20 (by omega) (by omega) (by omega) (by omega)
  have k21 : g1 248 21 = g 248 21 := s8 21 (by omega) (by omega) (by omega) (by omega)
  have h99 : h1 99 = h 99 := s6 99 (by omega)
  obtain ⟨h2, eh2⟩ : ∃ x, x = H_X1_note (F_X0_sum 2 h1) h1 := ⟨_, rfl⟩
  obtain ⟨g2, eg2⟩ : ∃ x, x = s_X12_minutes_3 g := ⟨_, rfl⟩
  rw [← eh2, ← eg2]
  have H2 : h2 = if h 99 2 = 0 then h1 else if 40 ≤ h 99 3 then h1 else pm_upd (pm_upd h1 146 (h 99 3) (F_X12_allHeat g1)) 99 3 (h 99 3 + 1) := by
    rw [eh2]
    unfold H_X1_note s_X1_note_2 s_X1_note_1
    rw [h99, S3, up_cell _ (show (99 : Int) ≠ 146 by omega), h99]
  have m1 : s_X12_minutes_1 g 248 20 = g 248 20 := by
    unfold s_X12_minutes_1
    rw [← eg, up_cell _ (by omega), k20]
  have G2 : g2 = if h 99 2 = 0 then g1 else if 40 ≤ h 99 3 then g1 else pm_upd (pm_upd g1 264 (h 99 3) (F_X12_allHeat g1)) 248 20 (h 99 3 + 1) := by
    rw [eg2]
    unfold s_X12_minutes_3 s_X12_minutes_2
    rw [m1]
    unfold s_X12_minutes_1
    rw [← eg, k20, k21, b5, b1]
  have f2 : ∀ a, (a < 99 ∨ (99 < a ∧ a < 146) ∨ 146 < a) → h2 a = h1 a := fun a e => by
    rw [H2]
    by_cases c1 : h 99 2 = 0
    · rw [if_pos c1]
    · rw [if_neg c1]
      by_cases c2 : 40 ≤ h 99 3
      · rw [if_pos c2]
      · rw [if_neg c2, up_cell _ (by omega), up_cell _ (by omega)]
  have fg2 : ∀ a, a ≠ 264 → a ≠ 248 → g2 a = g1 a := fun a e1 e2 => by
    rw [G2]
    by_cases c1 : h 99 2 = 0
    · rw [if_pos c1]
    · rw [if_neg c1]
      by_cases c2 : 40 ≤ h 99 3
      · rw [if_pos c2]
      · rw [if_neg c2, up_cell _ e2, up_cell _ e1]
  have g249 : g2 249 = g1 249 := fg2 249 (by omega) (by omega)
  refine ⟨⟨s1, S1, ?_⟩, ⟨s2, fun _ _ => ⟨S2, by omega, by rw [m1]; unfold fx_i; omega⟩⟩, ?_, ?_, ?_, fun i i1 i2 => ?_, ?_, fun d d1 d2 => ?_, fun a e => ?_, fun a e => ?_, fun w e1 e2 => ?_⟩
  · unfold P_X1_note
    rw [up_cell _ (show (99 : Int) ≠ 146 by omega), h99]
    exact fun _ _ => ⟨by omega, by unfold fx_i; omega⟩
  · rw [g249]
    exact hl_cg s3 (fun a e1 e2 => f2 a (by omega)) (fun _ _ _ => rfl)
  · rw [g249]; exact s4
  · rw [g249]; exact s5
  · rw [f2 94 (by omega), s6 94 (by omega), fg2 254 (by omega) (by omega), s7 254 (by omega), fg2 (251 + i) (by omega) (by omega), s7 (251 + i) (by omega)]
    obtain ⟨j1, j2, j3⟩ := ai i i1 i2
    exact ⟨j1, j2, fun z => hal_cg (j3 z) (fun a e1 e2 => by rw [f2 a (by omega), s6 a (by omega)]) (fun _ _ _ => rfl)⟩
  · have hb : h 99 2 = 1 → hal 100 h2 (g2 253) := fun z => by
      rw [fg2 253 (by omega) (by omega), s7 253 (by omega)]
      exact hal_cg (b7 z) (fun a e1 e2 => by rw [f2 a (by omega), s6 a (by omega)]) (fun _ _ _ => rfl)
    unfold BOK
    by_cases c1 : h 99 2 = 0
    · have e1 : h2 = h1 := by rw [H2, if_pos c1]
      have e2 : g2 = g1 := by rw [G2, if_pos c1]
      rw [e1, e2] at hb ⊢
      rw [h99, k20, k21]
      exact ⟨b1, b2, b3, b4, b5, b6, hb, fun i i1 i2 => by have := b6 c1; omega⟩
    · by_cases c2 : 40 ≤ h 99 3
      · have e1 : h2 = h1 := by rw [H2, if_neg c1, if_pos c2]
        have e2 : g2 = g1 := by rw [G2, if_neg c1, if_pos c2]
        rw [e1, e2] at hb ⊢
        rw [h99, k20, k21, s6 146 (by omega), s7 264 (by omega)]
        exact ⟨b1, b2, b3, b4, b5, b6, hb, b8⟩
      · have e1 : h2 = pm_upd (pm_upd h1 146 (h 99 3) (F_X12_allHeat g1)) 99 3 (h 99 3 + 1) := by rw [H2, if_neg c1, if_neg c2]
        have e2 : g2 = pm_upd (pm_upd g1 264 (h 99 3) (F_X12_allHeat g1)) 248 20 (h 99 3 + 1) := by rw [G2, if_neg c1, if_neg c2]
        have q3 : h2 99 3 = h 99 3 + 1 := by rw [e1, up_eq]
        have q2 : h2 99 2 = h 99 2 := by rw [e1, up_pl _ (by omega), up_cell _ (by omega), h99]
        have q20 : g2 248 20 = h 99 3 + 1 := by rw [e2, up_eq]
        have q21 : g2 248 21 = g 248 21 := by rw [e2, up_pl _ (by omega), up_cell _ (by omega), k21]
        rw [q3, q2, q20, q21]
        refine ⟨rfl, by omega, by omega, b4, b5, fun z => absurd z c1, hb, fun i i1 i2 => ?_⟩
        rw [e1, e2]
        by_cases y : i = h 99 3
        · rw [y, up_cell _ (show (146 : Int) ≠ 99 by omega), up_cell _ (show (264 : Int) ≠ 248 by omega), up_eq, up_eq]
        · rw [up_cell _ (show (146 : Int) ≠ 99 by omega), up_cell _ (show (264 : Int) ≠ 248 by omega), up_pl _ y, up_pl _ y, s6 146 (by omega), s7 264 (by omega)]
          exact b8 i i1 (by omega)
  · rw [f2 96 (by omega), f2 97 (by omega), f2 98 (by omega), s6 96 (by omega), s6 97 (by omega), s6 98 (by omega), fg2 270 (by omega) (by omega), fg2 271 (by omega) (by omega), fg2 272 (by omega) (by omega), fg2 273 (by omega) (by omega), s7 270 (by omega), s7 271 (by omega), s7 272 (by omega), s7 273 (by omega)]
    exact ad d d1 d2
  · rw [f2 a (by omega), s6 a (by omega)]
  · rw [fg2 a (by omega) (by omega), s7 a (by omega)]
  · rw [g249]; exact (s9 w e1 e2).1
theorem m_minutes {h g : pH} (al : AL h g) (a1 : Int) : P_X11_minutes a1 h ∧ P_X12_minutes a1 g ∧ F_X11_minutes a1 h = F_X12_minutes a1 g ∧ RET h g (H_X11_minutes a1 h) (H_X12_minutes a1 g) := by
  obtain ⟨⟨nm, nw, q, n9⟩, ai, ab, ad⟩ := id al
  have tt := q.2.2.2.2.2.2.2
  have t0 := q.2.2.2.2.2.2.1.2.2.1
  have t1 : h 1 7 = g 249 15 := q.2.2.2.2.2.2.1.1
  have d16 := q.2.2.2.1.2.2.1
  unfold P_X11_minutes P_X12_minutes F_X11_minutes F_X12_minutes H_X11_minutes H_X12_minutes
  rw [t1]
  by_cases c1 : 1 ≤ a1 ∧ a1 ≤ 60
  · rw [if_pos c1, if_pos c1, if_pos c1, if_pos c1]
    by_cases c2 : g 249 15 + a1 ≤ 9999
    · rw [if_pos c2, if_pos c2, if_pos c2, if_pos c2]
      have q' : hl 1 h (g 249) nm nw (g 249 15) := ⟨q.1, q.2.1, q.2.2.1, q.2.2.2.1, q.2.2.2.2.1, q.2.2.2.2.2.1, q.2.2.2.2.2.2.1, Int.le_refl _⟩
      obtain ⟨n, en⟩ : ∃ n : Nat, a1 = n := ⟨a1.toNat, by omega⟩
      have R := fx_rel (σ := Int × Int × pH) (τ := Int × pH) (c := fun s => C_X11_minutes_18 a1 s.1 s.2.1 s.2.2) (f := fun s => B_X11_minutes_18 a1 s.1 s.2.1 s.2.2) (P := fun s => P_X11_minutes_18 a1 s.1 s.2.1 s.2.2) (s0 := (0, 0, h))
        (d := fun s => C_X12_minutes_23 a1 (F_X12_broken g) s.1 s.2) (g := fun s => B_X12_minutes_23 a1 (F_X12_broken g) s.1 s.2) (P' := fun s => P_X12_minutes_23 a1 (F_X12_broken g) s.1 s.2) (t0 := (0, g)) n
        (fun i s t => s.1 = nbr (t.2 249) nw - nbr (g 249) nw ∧ s.2.1 = (i : Int) ∧ t.1 = (i : Int) ∧ hl 1 s.2.2 (t.2 249) nm nw (g 249 15 + i) ∧ IMG s.2.2 t.2 ∧ BOK s.2.2 t.2 ∧ DRL s.2.2 t.2 ∧ (∀ a, (a = 153 ∨ 248 ≤ a) → s.2.2 a = h a) ∧ (∀ a, a < 248 → t.2 a = g a) ∧ (∀ w : Int, 0 ≤ w → w < nw → t.2 249 (328 + w) ≠ 9))
        ⟨by show (0 : Int) = nbr (g 249) nw - nbr (g 249) nw; omega, rfl, rfl, by rw [show g 249 15 + ((0 : Nat) : Int) = g 249 15 by omega]; exact q', ai, ab, ad, fun _ _ => rfl, fun _ _ => rfl, n9⟩
        (by
          rintro i ⟨x, y, hh⟩ ⟨u, gg⟩ hi ⟨e1, e2, e3, e4, e5, e6, e7, e8, e9, e10⟩
          dsimp only at e1 e2 e3 e4 e5 e6 e7 e8 e9 e10
          subst e1 e2 e3
          obtain ⟨⟨o1, o2, o3⟩, ⟨o4, o5⟩, o6, o7, o8, o9, o10, o11, o12, o13, o14⟩ := one_min e4 (by omega) e5 e6 e7
          have b1 := nbr_bd (gg 249) nw
          have b2 := nbr_bd (g 249) nw
          have b3 := nbr_bd (s_X12_minutes_3 gg 249) nw
          refine ⟨⟨fun _ => ⟨o1, by rw [o7]; unfold fx_i; omega, o2, o3, by show fx_i ((i : Int) + 1); unfold fx_i; omega⟩, by show (i : Int) < a1; omega⟩, ⟨fun _ => ⟨o4, o5, by show fx_i ((i : Int) + 1); unfold fx_i; omega⟩, by show (i : Int) < a1; omega⟩, ?_, ?_, ?_, ?_, o9, o10, o11, fun a e => ?_, fun a e => ?_, fun w w1 w2 z => e10 w w1 w2 (o14 w w1 w2 z)⟩
          · show nbr (gg 249) nw - nbr (g 249) nw + F_X4_step 1 hh = nbr (s_X12_minutes_3 gg 249) nw - nbr (g 249) nw
            rw [o7]; omega
          · show (i : Int) + 1 = _
            omega
          · show (i : Int) + 1 = _
            omega
          · rw [show g 249 15 + ((i + 1 : Nat) : Int) = g 249 15 + i + 1 by omega]; exact o6
          · show H_X1_note (F_X0_sum 2 (H_X4_step 1 hh)) (H_X4_step 1 hh) a = _
            rw [o12 a e]; exact e8 a e
          · show s_X12_minutes_3 gg a = _
            rw [o13 a e]; exact e9 a e)
        (by
          rintro ⟨x, y, hh⟩ ⟨u, gg⟩ ⟨e1, e2, e3, e4, e5, e6, e7, e8, e9, e10⟩
          dsimp only at e1 e2 e3 e4
          subst e1 e2 e3
          refine ⟨⟨fun z => by have z' : (n : Int) < a1 := z; omega, ?_⟩, ⟨fun z => by have z' : (n : Int) < a1 := z; omega, ?_⟩⟩
          · show ¬ ((n : Int) < a1)
            omega
          · show ¬ ((n : Int) < a1)
            omega)
      obtain ⟨r1, r2, r3, r4, r5, r6, r7, r8, r9, r10, r11, r12⟩ := R
      have B0 := broken_nbr q
      have B1 : P_X12_broken (s_X12_minutes_5 a1 g) ∧ F_X12_broken (s_X12_minutes_5 a1 g) = nbr (s_X12_minutes_5 a1 g 249) nw := broken_nbr r6
      have b2 := nbr_bd (g 249) nw
      have b3 := nbr_bd (s_X12_minutes_5 a1 g 249) nw
      refine ⟨fun _ => ⟨by unfold fx_i; omega, fun _ => r1⟩, fun _ => ⟨by unfold fx_l; omega, fun _ => ⟨B0.1, r2, B1.1, by rw [B0.2, B1.2]; unfold fx_i; omega⟩⟩, ?_, ⟨⟨nm, nw, ?_, r12⟩, r7, r8, r9⟩, r10, r11⟩
      · rw [B0.2, B1.2]; exact r3
      · have r6' : hl 1 (s_X11_minutes_2 a1 h) (s_X12_minutes_5 a1 g 249) nm nw (g 249 15 + n) := r6
        exact ⟨r6'.1, r6'.2.1, r6'.2.2.1, r6'.2.2.2.1, r6'.2.2.2.2.1, r6'.2.2.2.2.2.1, r6'.2.2.2.2.2.2.1, by have := r6'.2.2.2.2.2.2.2; omega⟩
    · rw [if_neg c2, if_neg c2, if_neg c2, if_neg c2]
      exact ⟨fun _ => ⟨by unfold fx_i; omega, fun z => absurd z c2⟩, fun _ => ⟨by unfold fx_l; omega, fun z => absurd z c2⟩, rfl, RET.refl al⟩
  · rw [if_neg c1, if_neg c1, if_neg c1, if_neg c1]
    exact ⟨fun z => absurd z c1, fun z => absurd z c1, rfl, RET.refl al⟩
