/-! Checks and drills. -/
theorem nbr_cg {z z' : Int → Int} {nw : Nat} (e : ∀ w : Int, 0 ≤ w → w < nw → z' (328 + w) = z (328 + w)) : nbr z' nw = nbr z nw := zs_congr (fun w e1 e2 => by rw [e w e1 e2])
theorem hl_T {b : Int} {h : pH} {z : Int → Int} {nm nw : Nat} {T T' : Int} (q : hl b h z nm nw T) (e : T ≤ T') : hl b h z nm nw T' := ⟨q.1, q.2.1, q.2.2.1, q.2.2.2.1, q.2.2.2.2.1, q.2.2.2.2.2.1, q.2.2.2.2.2.2.1, by have := q.2.2.2.2.2.2.2; omega⟩
/-- the model's row put back -/
theorem back {g g2 : pH} (e : ∀ k : Int, 0 ≤ k → k < 620 → g2 250 k = g 249 k) : P_X12_copy 250 249 g2 ∧ (∀ a, a ≠ 249 → H_X12_copy 250 249 g2 a = g2 a) ∧ ∀ k : Int, 0 ≤ k → k < 620 → H_X12_copy 250 249 g2 249 k = g 249 k := by
  obtain ⟨p1, p2, p3⟩ := copy_M 250 249 g2 (by omega)
  exact ⟨p1, p2, fun k k1 k2 => by rw [p3 k k1 k2]; exact e k k1 k2⟩
theorem check_sim {h g : pH} {nm nw : Nat} {T : Int} (q : hl 47 h (g 249) nm nw T) (hT : T ≤ 50000) (b1 : h 99 3 = g 248 20) (b3 : h 99 3 ≤ 40) (b8 : ∀ i : Int, 0 ≤ i → i < h 99 3 → h 146 i = g 264 i) : ∀ (m : Nat) (i : Nat), h 99 3 - i = m → i ≤ 40 →
    O_X11_check_8 i (xit 47 i h) ∧ O_X12_check_17 (-1) i (mit i g) ∧ ((if (L_X11_check_8 i (xit 47 i h)).1 = 1 then -1 else (L_X11_check_8 i (xit 47 i h)).2.1) = (L_X12_check_17 (-1) i (mit i g)).1) ∧
    ∃ j : Nat, j ≤ 40 ∧ (L_X11_check_8 i (xit 47 i h)).2.2 = xit 47 j h ∧ (L_X12_check_17 (-1) i (mit i g)).2.2 = mit j g
  | m, i, hm, hi => by
    obtain ⟨i1, i2, i3, i4, i5, i6⟩ := its q i (by omega)
    have e99 : xit 47 i h 99 = h 99 := i2 99 (by omega)
    have e20 : mit i g 248 20 = g 248 20 := i4 20 (by omega) (by omega) (by omega) (by omega)
    by_cases c : (i : Int) < h 99 3
    · -- a minute more
      obtain ⟨m', em⟩ : ∃ m', m = m' + 1 := ⟨m - 1, by omega⟩
      obtain ⟨s1, s2, s3⟩ := it_step q i (by omega)
      obtain ⟨n1, n2, n3, n4, n5, n6⟩ := its q (i + 1) (by omega)
      have S := sum_both n1
      have S1 : P_X0_sum 48 (H_X4_step 47 (xit 47 i h)) := S.1
      have S2 : P_X12_allHeat (H_X12_minute (mit i g)) := S.2.1
      have S3 : F_X0_sum 48 (H_X4_step 47 (xit 47 i h)) = F_X12_allHeat (H_X12_minute (mit i g)) := S.2.2
      have e146 : H_X4_step 47 (xit 47 i h) 146 = h 146 := n2 146 (by omega)
      have e264 : H_X12_minute (mit i g) 264 = g 264 := n3 264 (by omega)
      have ee : H_X4_step 47 (xit 47 i h) 146 i = H_X12_minute (mit i g) 264 i := by rw [e146, e264]; exact b8 i (by omega) c
      have PX : P_X11_check_8 i (xit 47 i h) := fun _ => ⟨s1, S1, by omega, fun _ => by unfold fx_i; omega⟩
      have PM : P_X12_check_17 (-1) i (mit i g) := fun _ => ⟨s2, S2, by omega, by unfold fx_i; omega⟩
      by_cases y : F_X0_sum 48 (H_X4_step 47 (xit 47 i h)) = H_X4_step 47 (xit 47 i h) 146 i
      · have eB : B_X11_check_8 i (xit 47 i h) = (0, (i : Int) + 1, xit 47 (i + 1) h) := by
          unfold B_X11_check_8
          rw [e99, if_neg (by omega), if_pos y]
          rfl
        have eM : B_X12_check_17 (-1) i (mit i g) = (-1, (i : Int) + 1, mit (i + 1) g) := by
          unfold B_X12_check_17 s_X12_check_2
          rw [if_pos (by rw [← S3, ← ee]; exact y)]
          rfl
        have ih := check_sim q hT b1 b3 b8 m' (i + 1) (by omega) (by omega)
        rw [show ((i + 1 : Nat) : Int) = (i : Int) + 1 by omega] at ih
        have FX := fx_un_t (σ := Int × Int × pH) (c := fun s => s.1 = 0) (f := fun s => B_X11_check_8 s.2.1 s.2.2) (P := fun s => s.1 = 0 → P_X11_check_8 s.2.1 s.2.2) (s := (0, (i : Int), xit 47 i h)) (fun _ => PX) rfl (by
          show fx_ok _ _ _ (B_X11_check_8 i (xit 47 i h))
          rw [eB]; exact ih.1)
        have FM := fx_un_t (σ := Int × Int × pH) (c := fun s => C_X12_check_17 s.1 s.2.1 s.2.2) (f := fun s => B_X12_check_17 s.1 s.2.1 s.2.2) (P := fun s => P_X12_check_17 s.1 s.2.1 s.2.2) (s := (-1, (i : Int), mit i g)) PM (by
          show (i : Int) < mit i g 248 20 ∧ (-1 : Int) = -1
          rw [e20]; exact ⟨by omega, rfl⟩) (by
          show fx_ok _ _ _ (B_X12_check_17 (-1) i (mit i g))
          rw [eM]; exact ih.2.1)
        have LX : L_X11_check_8 i (xit 47 i h) = L_X11_check_8 ((i : Int) + 1) (xit 47 (i + 1) h) := by
          have := FX.2
          dsimp only at this
          rw [eB] at this; exact this
        have LM : L_X12_check_17 (-1) i (mit i g) = L_X12_check_17 (-1) ((i : Int) + 1) (mit (i + 1) g) := by
          have := FM.2
          dsimp only at this
          rw [eM] at this; exact this
        rw [LX, LM]
        exact ⟨FX.1, FM.1, ih.2.2⟩
      · have eB : B_X11_check_8 i (xit 47 i h) = (2, (i : Int), xit 47 (i + 1) h) := by
          unfold B_X11_check_8
          rw [e99, if_neg (by omega), if_neg y]
          rfl
        have eM : B_X12_check_17 (-1) i (mit i g) = ((i : Int), (i : Int) + 1, mit (i + 1) g) := by
          unfold B_X12_check_17 s_X12_check_2
          rw [if_neg (by rw [← S3, ← ee]; exact y)]
          rfl
        have U1 := fx_un_f (σ := Int × Int × pH) (c := fun s => s.1 = 0) (f := fun s => B_X11_check_8 s.2.1 s.2.2) (P := fun s => s.1 = 0 → P_X11_check_8 s.2.1 s.2.2) (s := (2, (i : Int), xit 47 (i + 1) h)) (fun z => absurd z (show ¬ (2 : Int) = 0 by decide)) (show ¬ (2 : Int) = 0 by decide)
        have U2 := fx_un_f (σ := Int × Int × pH) (c := fun s => C_X12_check_17 s.1 s.2.1 s.2.2) (f := fun s => B_X12_check_17 s.1 s.2.1 s.2.2) (P := fun s => P_X12_check_17 s.1 s.2.1 s.2.2) (s := ((i : Int), (i : Int) + 1, mit (i + 1) g)) (fun z => by have z' : (i : Int) = -1 := z.2; omega) (fun z => by have z' : (i : Int) = -1 := z.2; omega)
        have FX := fx_un_t (σ := Int × Int × pH) (c := fun s => s.1 = 0) (f := fun s => B_X11_check_8 s.2.1 s.2.2) (P := fun s => s.1 = 0 → P_X11_check_8 s.2.1 s.2.2) (s := (0, (i : Int), xit 47 i h)) (fun _ => PX) rfl (by
          show fx_ok _ _ _ (B_X11_check_8 i (xit 47 i h))
          rw [eB]; exact U1.1)
        have FM := fx_un_t (σ := Int × Int × pH) (c := fun s => C_X12_check_17 s.1 s.2.1 s.2.2) (f := fun s => B_X12_check_17 s.1 s.2.1 s.2.2) (P := fun s => P_X12_check_17 s.1 s.2.1 s.2.2) (s := (-1, (i : Int), mit i g)) PM (by
          show (i : Int) < mit i g 248 20 ∧ (-1 : Int) = -1
          rw [e20]; exact ⟨by omega, rfl⟩) (by
          show fx_ok _ _ _ (B_X12_check_17 (-1) i (mit i g))
          rw [eM]; exact U2.1)
        have LX : L_X11_check_8 i (xit 47 i h) = (2, (i : Int), xit 47 (i + 1) h) := by
          have := FX.2
          dsimp only at this
          rw [eB] at this; exact this.trans U1.2
        have LM : L_X12_check_17 (-1) i (mit i g) = ((i : Int), (i : Int) + 1, mit (i + 1) g) := by
          have := FM.2
          dsimp only at this
          rw [eM] at this; exact this.trans U2.2
        rw [LX, LM]
        exact ⟨FX.1, FM.1, if_neg (show ¬ (2 : Int) = 1 by decide), i + 1, by omega, rfl, rfl⟩
    · have eB : B_X11_check_8 i (xit 47 i h) = (1, (i : Int), xit 47 i h) := by
        unfold B_X11_check_8
        rw [e99, if_pos (by omega)]
      have U1 := fx_un_f (σ := Int × Int × pH) (c := fun s => s.1 = 0) (f := fun s => B_X11_check_8 s.2.1 s.2.2) (P := fun s => s.1 = 0 → P_X11_check_8 s.2.1 s.2.2) (s := (1, (i : Int), xit 47 i h)) (fun z => absurd z (show ¬ (1 : Int) = 0 by decide)) (show ¬ (1 : Int) = 0 by decide)
      have FX := fx_un_t (σ := Int × Int × pH) (c := fun s => s.1 = 0) (f := fun s => B_X11_check_8 s.2.1 s.2.2) (P := fun s => s.1 = 0 → P_X11_check_8 s.2.1 s.2.2) (s := (0, (i : Int), xit 47 i h)) (fun _ z => by
        have z' : (i : Int) < xit 47 i h 99 3 := z
        rw [e99] at z'; omega) rfl (by
        show fx_ok _ _ _ (B_X11_check_8 i (xit 47 i h))
        rw [eB]; exact U1.1)
      have FM := fx_un_f (σ := Int × Int × pH) (c := fun s => C_X12_check_17 s.1 s.2.1 s.2.2) (f := fun s => B_X12_check_17 s.1 s.2.1 s.2.2) (P := fun s => P_X12_check_17 s.1 s.2.1 s.2.2) (s := (-1, (i : Int), mit i g)) (fun z => by
        have z' : (i : Int) < mit i g 248 20 := z.1
        rw [e20] at z'; omega) (fun z => by
        have z' : (i : Int) < mit i g 248 20 := z.1
        rw [e20] at z'; omega)
      have LX : L_X11_check_8 i (xit 47 i h) = (1, (i : Int), xit 47 i h) := by
        have := FX.2
        dsimp only at this
        rw [eB] at this; exact this.trans U1.2
      have LM : L_X12_check_17 (-1) i (mit i g) = (-1, (i : Int), mit i g) := FM.2
      rw [LX, LM]
      exact ⟨FX.1, FM.1, if_pos rfl, i, hi, rfl, rfl⟩
theorem m_check {h g : pH} (al : AL h g) : P_X11_check h ∧ P_X12_check g ∧ F_X11_check h = F_X12_check g ∧ RET h g (H_X11_check h) (H_X12_check g) := by
  obtain ⟨a0, ai, ab, ad⟩ := id al
  obtain ⟨b1, b2, b3, b4, b5, b6, b7, b8⟩ := id ab
  obtain ⟨p1, p2, p3⟩ := copy_M 249 250 g (by omega)
  obtain ⟨gk, egk⟩ : ∃ x, x = H_X12_copy 249 250 g := ⟨_, rfl⟩
  rw [← egk] at p2 p3
  have e21 : gk 248 21 = g 248 21 := by rw [p2 248 (by omega)]
  by_cases c : h 99 2 = 1
  · -- a record was begun
    obtain ⟨r1, r2, r3⟩ := copy_M 253 249 gk (by omega)
    obtain ⟨g1, eg1⟩ : ∃ x, x = H_X12_copy 253 249 gk := ⟨_, rfl⟩
    rw [← eg1] at r2 r3
    have es1 : s_X12_check_1 g = g1 := by
      unfold s_X12_check_1
      rw [← egk, e21, if_neg (by omega), eg1]
    obtain ⟨nm, nw, q, -⟩ := b7 c
    obtain ⟨q1, f1⟩ := hl_copy (d := 47) (s := 100) (z' := g1 249) (by omega) q (fun k k1 k2 => by rw [r3 k k1 k2, p2 253 (by omega)])
    obtain ⟨ht, eht⟩ : ∃ x, x = H_X4_copyFrom 47 100 h := ⟨_, rfl⟩
    rw [← eht] at q1 f1
    have e99 : ht 99 = h 99 := f1 99 (by omega)
    have g20 : g1 248 20 = g 248 20 := by rw [r2 248 (by omega), p2 248 (by omega)]
    have SM := check_sim q1 (by omega) (by rw [e99, g20]; exact b1) (by rw [e99]; exact b3) (fun i i1 i2 => by
      rw [e99] at i2
      rw [f1 146 (by omega), r2 264 (by omega), p2 264 (by omega)]; exact b8 i i1 i2) (h 99 3).toNat 0 (by rw [e99]; omega) (by omega)
    obtain ⟨s1, s2, s3, j, j1, s4, s5⟩ := SM
    have s1 : O_X11_check_8 0 ht := s1
    have s2 : O_X12_check_17 (-1) 0 g1 := s2
    have s3 : (if (L_X11_check_8 0 ht).1 = 1 then -1 else (L_X11_check_8 0 ht).2.1) = (L_X12_check_17 (-1) 0 g1).1 := s3
    have s4 : (L_X11_check_8 0 ht).2.2 = xit 47 j ht := s4
    have s5 : (L_X12_check_17 (-1) 0 g1).2.2 = mit j g1 := s5
    obtain ⟨n1, n2, n3, n4, n5, n6⟩ := its q1 j (by omega)
    have e5 : s_X12_check_5 g = mit j g1 := by unfold s_X12_check_5; rw [es1]; exact s5
    obtain ⟨k1, k2, k3⟩ := back (g := g) (g2 := mit j g1) (fun k k1 k2 => by rw [n3 250 (by omega), r2 250 (by omega)]; exact p3 k k1 k2)
    refine ⟨?_, ⟨p1, fun _ => ?_, ?_, ?_⟩, ?_, ?_⟩
    · show O_X11_check_8 0 (H_X4_copyFrom 47 100 h)
      rw [← eht]; exact s1
    · rw [← egk]; exact r1
    · rw [es1]; exact s2
    · rw [e5]; exact k1
    · unfold F_X11_check F_X12_check s_X11_check_1 s_X11_check_3 s_X12_check_3
      rw [← eht, es1]; exact s3
    · unfold H_X11_check s_X11_check_2 H_X12_check
      rw [← eht, e5, s4]
      refine ret_hall al (fun a e => by rw [n2 a (by omega), f1 a (by omega)]) (fun a e => by rw [k2 a (by omega), n3 a (by omega), r2 a (by omega), p2 a (by omega)]) ?_ ?_ (hal_cg a0 (fun a e1 e2 => by rw [n2 a (by omega), f1 a (by omega)]) k3)
      · rw [k2 248 (by omega), n4 20 (by omega) (by omega) (by omega) (by omega)]; exact g20
      · rw [k2 248 (by omega), n4 21 (by omega) (by omega) (by omega) (by omega), r2 248 (by omega), p2 248 (by omega)]
  · -- none was begun
    have c0 : h 99 2 = 0 := by omega
    have m0 : h 99 3 = 0 := b6 c0
    have es1 : s_X12_check_1 g = gk := by
      unfold s_X12_check_1
      rw [← egk, e21, if_pos (by omega)]
    obtain ⟨nm, nw, q, -⟩ := a0
    obtain ⟨ht, eht⟩ : ∃ x, x = H_X4_copyFrom 47 100 h := ⟨_, rfl⟩
    have f1 : ∀ a, (a < 47 ∨ 47 + 46 ≤ a) → ht a = h a := by
      intro a e
      have A := copy0 (47 + 1) (100 + 1) h (by omega)
      have B := copy6 (47 + 7) (100 + 7) (H_X0_copyFrom (47 + 1) (100 + 1) h) (by omega)
      have C := copy8 (47 + 18) (100 + 18) (H_X6_copyFrom (47 + 7) (100 + 7) (H_X0_copyFrom (47 + 1) (100 + 1) h)) (by omega)
      have D := copy10 (47 + 21) (100 + 21) (H_X8_copyFrom (47 + 18) (100 + 18) (H_X6_copyFrom (47 + 7) (100 + 7) (H_X0_copyFrom (47 + 1) (100 + 1) h))) (by omega)
      have E := copy9 (47 + 37) (100 + 37) (H_X10_copyFrom (47 + 21) (100 + 21) (H_X8_copyFrom (47 + 18) (100 + 18) (H_X6_copyFrom (47 + 7) (100 + 7) (H_X0_copyFrom (47 + 1) (100 + 1) h)))) (by omega)
      have F := copy5 (47 + 42) (100 + 42) (H_X9_copyFrom (47 + 37) (100 + 37) (H_X10_copyFrom (47 + 21) (100 + 21) (H_X8_copyFrom (47 + 18) (100 + 18) (H_X6_copyFrom (47 + 7) (100 + 7) (H_X0_copyFrom (47 + 1) (100 + 1) h))))) (by omega)
      have e3 : s_X4_copyFrom_3 47 100 h = H_X5_copyFrom (47 + 42) (100 + 42) (H_X9_copyFrom (47 + 37) (100 + 37) (H_X10_copyFrom (47 + 21) (100 + 21) (H_X8_copyFrom (47 + 18) (100 + 18) (H_X6_copyFrom (47 + 7) (100 + 7) (H_X0_copyFrom (47 + 1) (100 + 1) h))))) := rfl
      have e5 : H_X4_copyFrom 47 100 h = s_X4_copyFrom_5 47 100 h := rfl
      rw [eht, e5]
      unfold s_X4_copyFrom_5 s_X4_copyFrom_4
      rw [e3, up_cell _ (by omega), up_cell _ (by omega), F.1 a (by omega), E.1 a (by omega), D.1 a (by omega), C.1 a (by omega), B.1 a (by omega), A.1 a (by omega)]
    have e99 : ht 99 = h 99 := f1 99 (by omega)
    have eB : B_X11_check_8 0 ht = (1, 0, ht) := by
      unfold B_X11_check_8
      rw [e99, if_pos (by omega)]
    have U1 := fx_un_f (σ := Int × Int × pH) (c := fun s => s.1 = 0) (f := fun s => B_X11_check_8 s.2.1 s.2.2) (P := fun s => s.1 = 0 → P_X11_check_8 s.2.1 s.2.2) (s := (1, 0, ht)) (fun z => absurd z (show ¬ (1 : Int) = 0 by decide)) (show ¬ (1 : Int) = 0 by decide)
    have FX := fx_un_t (σ := Int × Int × pH) (c := fun s => s.1 = 0) (f := fun s => B_X11_check_8 s.2.1 s.2.2) (P := fun s => s.1 = 0 → P_X11_check_8 s.2.1 s.2.2) (s := (0, 0, ht)) (fun _ z => by
      have z' : (0 : Int) < ht 99 3 := z
      rw [e99] at z'; omega) rfl (by
      show fx_ok _ _ _ (B_X11_check_8 0 ht)
      rw [eB]; exact U1.1)
    have g20 : gk 248 20 = g 248 20 := by rw [p2 248 (by omega)]
    have FM := fx_un_f (σ := Int × Int × pH) (c := fun s => C_X12_check_17 s.1 s.2.1 s.2.2) (f := fun s => B_X12_check_17 s.1 s.2.1 s.2.2) (P := fun s => P_X12_check_17 s.1 s.2.1 s.2.2) (s := (-1, 0, gk)) (fun z => by
      have z' : (0 : Int) < gk 248 20 := z.1
      rw [g20] at z'; omega) (fun z => by
      have z' : (0 : Int) < gk 248 20 := z.1
      rw [g20] at z'; omega)
    have LX : L_X11_check_8 0 ht = (1, 0, ht) := by
      have := FX.2
      dsimp only at this
      rw [eB] at this; exact this.trans U1.2
    have LM : L_X12_check_17 (-1) 0 gk = (-1, 0, gk) := FM.2
    obtain ⟨k1, k2, k3⟩ := back (g := g) (g2 := gk) p3
    have e5 : s_X12_check_5 g = gk := by unfold s_X12_check_5; rw [es1, LM]
    refine ⟨?_, ⟨p1, fun z => ?_, ?_, ?_⟩, ?_, ?_⟩
    · show O_X11_check_8 0 (H_X4_copyFrom 47 100 h)
      rw [← eht]; exact FX.1
    · rw [← egk, e21] at z; omega
    · rw [es1]; exact FM.1
    · rw [e5]; exact k1
    · unfold F_X11_check F_X12_check s_X11_check_1 s_X11_check_3 s_X12_check_3
      rw [← eht, es1, LX, LM]; rfl
    · unfold H_X11_check s_X11_check_2 H_X12_check
      rw [← eht, e5, LX]
      refine ret_hall al (fun a e => f1 a (by omega)) (fun a e => by rw [k2 a (by omega), p2 a (by omega)]) ?_ ?_ (hal_cg al.1 (fun a e1 e2 => f1 a (by omega)) k3)
      · rw [k2 248 (by omega)]; exact g20
      · rw [k2 248 (by omega), p2 248 (by omega)]
/-- one drill -/
theorem one_drill {h g hh gg : pH} (al : AL h g) {d : Int} (d1 : 0 ≤ d) (d2 : d < 4) (fh : ∀ a, (a < 47 ∨ 93 ≤ a) → hh a = h a) (fg : ∀ a, (a < 248 ∨ (251 ≤ a ∧ a ≤ 254) ∨ 264 ≤ a) → gg a = g a) (k49 : ∀ k : Int, 0 ≤ k → k < 620 → gg 249 k = g 249 k) (k50 : ∀ k : Int, 0 ≤ k → k < 620 → gg 250 k = g 249 k) (k8 : ∀ k : Int, (k = 20 ∨ k = 21) → gg 248 k = g 248 k) (on : g 270 d = 1) (a1 x2 x3 : Int) :
    P_X11_brokenInDrill d hh ∧ (P_X12_broken gg ∧ (O_X12_worst_50 a1 x2 x3 d (F_X12_broken gg) 0 (s_X12_worst_1 d gg)) ∧ (O_X12_worst_78 a1 x2 x3 d (F_X12_broken gg) 0 (s_X12_worst_5 a1 x2 x3 d gg)) ∧ (P_X12_broken (s_X12_worst_7 a1 x2 x3 d gg)) ∧ (fx_i ((F_X12_broken (s_X12_worst_7 a1 x2 x3 d gg)) - (F_X12_broken gg))) ∧ (P_X12_copy 250 249 (s_X12_worst_7 a1 x2 x3 d gg))) ∧
    F_X11_brokenInDrill d hh = (F_X12_broken (s_X12_worst_7 a1 x2 x3 d gg)) - (F_X12_broken gg) ∧ (∀ a, (a < 47 ∨ 93 ≤ a) → H_X11_brokenInDrill d hh a = h a) ∧ (∀ a, (a < 248 ∨ (251 ≤ a ∧ a ≤ 254) ∨ 264 ≤ a) → H_X12_copy 250 249 (s_X12_worst_7 a1 x2 x3 d gg) a = g a) ∧
    (∀ k : Int, 0 ≤ k → k < 620 → H_X12_copy 250 249 (s_X12_worst_7 a1 x2 x3 d gg) 249 k = g 249 k) ∧ (∀ k : Int, 0 ≤ k → k < 620 → H_X12_copy 250 249 (s_X12_worst_7 a1 x2 x3 d gg) 250 k = g 249 k) ∧ (∀ k : Int, (k = 20 ∨ k = 21) → H_X12_copy 250 249 (s_X12_worst_7 a1 x2 x3 d gg) 248 k = g 248 k) ∧ -16 ≤ F_X11_brokenInDrill d hh := by
  obtain ⟨⟨nm, nw, q, n9⟩, ai, ab, ad⟩ := id al
  have d16 := q.2.2.2.1.2.2.1
  have D := ad d d1 d2
  obtain ⟨w1, w2, w3, w4, w5, w6, w7, w8, w9, w10⟩ : (g 270 d = 1 ∧ h 96 d = g 273 d ∧ h 97 d = g 271 d ∧ h 98 d = g 272 d ∧ 1 ≤ h 96 d ∧ h 96 d ≤ 30 ∧ 0 ≤ h 97 d ∧ h 97 d ≤ 500 ∧ 0 ≤ h 98 d ∧ h 98 d ≤ 100000) := by
    rcases D with D | D
    · omega
    · exact D
  have qq : hl 1 hh (gg 249) nm nw 9999 := hl_cg q (fun a e1 e2 => fh a (by omega)) k49
  obtain ⟨q1, f1⟩ := hl_copy (d := 47) (s := 1) (z' := gg 249) (by omega) qq (fun _ _ _ => rfl)
  obtain ⟨ht, eht⟩ : ∃ x, x = H_X4_copyFrom 47 1 hh := ⟨_, rfl⟩
  rw [← eht] at q1 f1
  have h97 : ht 97 d = gg 271 d := by rw [f1 97 (by omega), fh 97 (by omega), fg 271 (by omega)]; exact w3
  have h98 : ht 98 d = gg 272 d := by rw [f1 98 (by omega), fh 98 (by omega), fg 272 (by omega)]; exact w4
  obtain ⟨h2, eh2⟩ : ∃ x, x = s_X11_brokenInDrill_2 d hh := ⟨_, rfl⟩
  obtain ⟨g2, eg2⟩ : ∃ x, x = s_X12_worst_1 d gg := ⟨_, rfl⟩
  have eh2' : h2 = pm_upd (pm_upd ht (47 + 1) 5 (gg 271 d)) (47 + 18) 2 (gg 272 d) := by
    rw [eh2]; unfold s_X11_brokenInDrill_2 s_X11_brokenInDrill_1
    rw [← eht, h97, up_cell _ (show (98 : Int) ≠ 48 by omega), h98]; rfl
  have eg2' : g2 = pm_upd (pm_upd gg 249 0 (gg 271 d)) 249 3 (gg 272 d) := by
    rw [eg2]; unfold s_X12_worst_1
    rw [up_cell _ (show (272 : Int) ≠ 249 by omega)]
  have r97 : 0 ≤ gg 271 d ∧ gg 271 d ≤ 500 := by rw [fg 271 (by omega), ← w3]; exact ⟨w7, w8⟩
  have r98 : 0 ≤ gg 272 d ∧ gg 272 d ≤ 100000 := by rw [fg 272 (by omega), ← w4]; exact ⟨w9, w10⟩
  have q2 : hl 47 h2 (g2 249) nm nw 9999 := by rw [eh2', eg2']; exact hl_net (hl_out q1 r97) r98
  have f2 : ∀ a, (a < 47 ∨ 93 ≤ a) → h2 a = h a := fun a e => by rw [eh2', up_cell _ (by omega), up_cell _ (by omega), f1 a (by omega), fh a e]
  have fg2 : ∀ a, a ≠ 249 → g2 a = gg a := fun a e => by rw [eg2', up_cell _ e, up_cell _ e]
  have e96 : h2 96 d = h 96 d := by rw [f2 96 (by omega)]
  obtain ⟨n, en⟩ : ∃ n : Nat, h 96 d = n := ⟨(h 96 d).toNat, by omega⟩
  obtain ⟨G1, G2, G3⟩ := go_ok q2 n (h2 96 d) (by omega) (by omega) (by omega)
  obtain ⟨i1, i2, i3, i4, i5, i6⟩ := its q2 n (by omega)
  have e273 : ∀ i : Nat, i ≤ n → mit i g2 273 d = (n : Int) := fun i e => by
    obtain ⟨-, -, y3, -⟩ := its q2 i (by omega)
    rw [y3 273 (by omega), fg2 273 (by omega), fg 273 (by omega), ← w2]; exact en
  -- the loop by its own rule: its bound is in the heap
  have key := fx_rule (σ := Int × pH) (c := fun s => C_X12_worst_50 a1 x2 x3 d (F_X12_broken gg) s.1 s.2) (f := fun s => B_X12_worst_50 a1 x2 x3 d (F_X12_broken gg) s.1 s.2) (P := fun s => P_X12_worst_50 a1 x2 x3 d (F_X12_broken gg) s.1 s.2) (s0 := (0, g2)) n (fun i s => i ≤ n ∧ s = ((i : Int), mit i g2)) ⟨by omega, rfl⟩
    (by
      rintro i s hi ⟨i0, e⟩
      subst e
      obtain ⟨y1, y2, y3⟩ := it_step q2 i (by omega)
      refine ⟨⟨by omega, fun _ => ⟨y2, by show fx_i ((i : Int) + 1); unfold fx_i; omega⟩⟩, ?_, by omega, rfl⟩
      show (i : Int) < mit i g2 273 d
      rw [e273 i (by omega)]; omega)
    (by
      rintro s ⟨i0, e⟩
      subst e
      have z0 : ¬ ((n : Int) < mit n g2 273 d) := by rw [e273 n (by omega)]; omega
      exact ⟨⟨by omega, fun z => absurd z z0⟩, z0⟩)
  have e3 : s_X12_worst_3 a1 x2 x3 d gg = mit n g2 := by
    unfold s_X12_worst_3
    rw [← eg2]
    exact congrArg Prod.snd key.2.2
  obtain ⟨h3, eh3⟩ : ∃ x, x = s_X11_brokenInDrill_3 d hh := ⟨_, rfl⟩
  have eh3' : h3 = xit 47 n h2 := by rw [eh3]; unfold s_X11_brokenInDrill_3; rw [← eh2]; exact G3
  have f3 : ∀ a, (a < 47 ∨ 93 ≤ a) → h3 a = h a := fun a e => by rw [eh3', i2 a (by omega), f2 a e]
  -- as they are again
  have z0 : h 2 5 = g 249 0 := q.1.1.1
  have z3 : h 19 2 = g 249 3 := q.2.2.1.1.1
  have kp : ∀ k : Int, 0 ≤ k → k < 620 → mit n g2 250 k = g 249 k := fun k k1 k2 => by rw [i3 250 (by omega), fg2 250 (by omega)]; exact k50 k k1 k2
  obtain ⟨h5, eh5⟩ : ∃ x, x = s_X11_brokenInDrill_5 d hh := ⟨_, rfl⟩
  obtain ⟨g5, eg5⟩ : ∃ x, x = s_X12_worst_5 a1 x2 x3 d gg := ⟨_, rfl⟩
  have eh5' : h5 = pm_upd (pm_upd (xit 47 n h2) (47 + 1) 5 (g 249 0)) (47 + 18) 2 (g 249 3) := by
    rw [eh5]; unfold s_X11_brokenInDrill_5 s_X11_brokenInDrill_4
    rw [← eh3, up_cell _ (show (19 : Int) ≠ 48 by omega), f3 2 (by omega), f3 19 (by omega), z0, z3, eh3']; rfl
  have eg5' : g5 = pm_upd (pm_upd (mit n g2) 249 0 (g 249 0)) 249 3 (g 249 3) := by
    rw [eg5]; unfold s_X12_worst_5 s_X12_worst_4
    rw [e3, up_cell _ (show (250 : Int) ≠ 249 by omega), kp 0 (by omega) (by omega), kp 3 (by omega) (by omega)]
  have y0 : 0 ≤ g 249 0 ∧ g 249 0 ≤ 500 := ⟨q.1.2.1, q.1.2.2.1⟩
  have y3 : 0 ≤ g 249 3 ∧ g 249 3 ≤ 100000 := ⟨q.2.2.1.2.2.1.1, q.2.2.1.2.2.1.2.1⟩
  have q5 : hl 47 h5 (g5 249) nm nw (9999 + n) := by rw [eh5', eg5']; exact hl_net (hl_out i1 y0) y3
  obtain ⟨J1, J2, J3⟩ := go_ok q5 5 5 rfl (by omega) (by omega)
  obtain ⟨j1, j2, j3, j4, j5, j6⟩ := its q5 5 (by omega)
  have ML2 := mloop (c := fun s => C_X12_worst_78 a1 x2 x3 d (F_X12_broken gg) s.1 s.2) (f := fun s => B_X12_worst_78 a1 x2 x3 d (F_X12_broken gg) s.1 s.2) (P := fun s => P_X12_worst_78 a1 x2 x3 d (F_X12_broken gg) s.1 s.2) 5 5 g5 rfl (fun x y z => z) (fun i hi => by show (i : Int) < 5; omega) (fun i hi => rfl)
    (fun i hi z => by
      have z' : (i : Int) < 5 := z
      obtain ⟨y1, y2, y3⟩ := it_step q5 i (by omega)
      exact ⟨y2, by show fx_i ((i : Int) + 1); unfold fx_i; omega⟩)
  have e7 : s_X12_worst_7 a1 x2 x3 d gg = mit 5 g5 := by
    unfold s_X12_worst_7
    rw [← eg5]
    exact congrArg Prod.snd ML2.2
  have B0 := broken_nbr qq
  have B7 : P_X12_broken (mit 5 g5) ∧ F_X12_broken (mit 5 g5) = nbr (mit 5 g5 249) nw := broken_nbr j1
  have b0 := nbr_bd (gg 249) nw
  have b7 := nbr_bd (mit 5 g5 249) nw
  have c2 : nbr (g2 249) nw = nbr (gg 249) nw := nbr_cg (fun w e1 e2 => by rw [eg2', up_pl _ (by omega), up_pl _ (by omega)])
  have c5 : nbr (g5 249) nw = nbr (mit n g2 249) nw := nbr_cg (fun w e1 e2 => by rw [eg5', up_pl _ (by omega), up_pl _ (by omega)])
  have eF : F_X11_brokenInDrill d hh = nbr (mit 5 g5 249) nw - nbr (gg 249) nw := by
    unfold F_X11_brokenInDrill
    rw [← eh2, ← eh5, G2, J2]; omega
  have f5 : ∀ a, (a < 47 ∨ 93 ≤ a) → h5 a = h a := fun a e => by rw [eh5', up_cell _ (by omega), up_cell _ (by omega), i2 a (by omega), f2 a e]
  have fg5 : ∀ a, a ≠ 249 → g5 a = mit n g2 a := fun a e => by rw [eg5', up_cell _ e, up_cell _ e]
  obtain ⟨k1, k2, k3⟩ := back (g := g) (g2 := mit 5 g5) (fun k k1 k2 => by rw [j3 250 (by omega), fg5 250 (by omega)]; exact kp k k1 k2)
  rw [e7, B7.2, B0.2]
  refine ⟨⟨by omega, ?_, ?_, ?_⟩, ⟨B0.1, ?_, ?_, B7.1, by unfold fx_i; omega, k1⟩, eF, fun a e => ?_, fun a e => ?_, k3, fun k k1' k2' => ?_, fun k e => ?_, by rw [eF]; omega⟩
  · rw [← eh2]; exact G1
  · rw [← eh5]; exact J1
  · have : (F_X4_go 47 ((s_X11_brokenInDrill_2 d hh) 96 d) (s_X11_brokenInDrill_2 d hh)) + (F_X4_go 47 5 (s_X11_brokenInDrill_5 d hh)) = nbr (mit 5 g5 249) nw - nbr (gg 249) nw := eF
    rw [this]; unfold fx_i; omega
  · rw [← B0.2, ← eg2]; exact key.1
  · rw [← B0.2, ← eg5]; exact ML2.1
  · unfold H_X11_brokenInDrill
    rw [← eh5, J3, j2 a (by omega), f5 a e]
  · rw [k2 a (by omega), j3 a (by omega), fg5 a (by omega), i3 a (by omega), fg2 a (by omega), fg a e]
  · rw [k2 250 (by omega), j3 250 (by omega), fg5 250 (by omega)]; exact kp k k1' k2'
  · rw [k2 248 (by omega), j4 k (by omega) (by omega) (by omega) (by omega), fg5 248 (by omega), i4 k (by omega) (by omega) (by omega) (by omega), fg2 248 (by omega)]; exact k8 k e
theorem m_worst {h g : pH} (al : AL h g) (a1 : Int) : P_X11_worst a1 h ∧ P_X12_worst a1 g ∧ F_X11_worst a1 h = F_X12_worst a1 g ∧ RET h g (H_X11_worst a1 h) (H_X12_worst a1 g) := by
  obtain ⟨a0, ai, ab, ad⟩ := id al
  obtain ⟨p1, p2, p3⟩ := copy_M 249 250 g (by omega)
  obtain ⟨gk, egk⟩ : ∃ x, x = H_X12_copy 249 250 g := ⟨_, rfl⟩
  rw [← egk] at p2 p3
  have R := fx_rel (σ := Int × Int × Int × pH) (τ := Int × Int × Int × pH) (c := fun s => C_X11_worst_13 a1 s.1 s.2.1 s.2.2.1 s.2.2.2) (f := fun s => B_X11_worst_13 a1 s.1 s.2.1 s.2.2.1 s.2.2.2) (P := fun s => P_X11_worst_13 a1 s.1 s.2.1 s.2.2.1 s.2.2.2) (s0 := (-1, -1, 0, h))
    (d := fun s => C_X12_worst_19 a1 s.1 s.2.1 s.2.2.1 s.2.2.2) (g := fun s => B_X12_worst_19 a1 s.1 s.2.1 s.2.2.1 s.2.2.2) (P' := fun s => P_X12_worst_19 a1 s.1 s.2.1 s.2.2.1 s.2.2.2) (t0 := (-1, -1, 0, gk)) 4
    (fun i s t => s.1 = t.1 ∧ s.2.1 = t.2.1 ∧ s.2.2.1 = (i : Int) ∧ t.2.2.1 = (i : Int) ∧ -1 ≤ s.2.1 ∧ (∀ a, (a < 47 ∨ 93 ≤ a) → s.2.2.2 a = h a) ∧ (∀ a, (a < 248 ∨ (251 ≤ a ∧ a ≤ 254) ∨ 264 ≤ a) → t.2.2.2 a = g a) ∧ (∀ k : Int, 0 ≤ k → k < 620 → t.2.2.2 249 k = g 249 k) ∧ (∀ k : Int, 0 ≤ k → k < 620 → t.2.2.2 250 k = g 249 k) ∧ (∀ k : Int, (k = 20 ∨ k = 21) → t.2.2.2 248 k = g 248 k))
    ⟨rfl, rfl, rfl, rfl, by show (-1 : Int) ≤ -1; omega, fun _ _ => rfl, fun a e => p2 a (by omega), fun k k1 k2 => by show gk 249 k = _; rw [p2 249 (by omega)], p3, fun k e => by show gk 248 k = _; rw [p2 248 (by omega)]⟩
    (by
      rintro i ⟨x, y, j, hh⟩ ⟨x', y', j', gg⟩ hi ⟨e1, e2, e3, e4, e5, e6, e7, e8, e9, e10⟩
      dsimp only at e1 e2 e3 e4 e5 e6 e7 e8 e9 e10
      subst e1 e2 e3 e4
      have h96 : hh 96 = h 96 := e6 96 (by omega)
      have g270 : gg 270 = g 270 := e7 270 (by omega)
      rcases ad i (by omega) (by omega) with D | D
      · have c1 : hh 96 i ≤ 0 := by rw [h96]; omega
        have c2 : gg 270 i = 0 := by rw [g270]; exact D.1
        have b1 : B_X11_worst_13 a1 x y i hh = (x, y, (i : Int) + 1, hh) := by
          unfold B_X11_worst_13 s_X11_worst_2 s_X11_worst_3 s_X11_worst_1
          rw [if_pos c1, if_pos e5, if_pos e5, if_pos c1]
        have b2 : B_X12_worst_19 a1 x y i gg = (x, y, (i : Int) + 1, gg) := by
          unfold B_X12_worst_19 s_X12_worst_11 s_X12_worst_12 s_X12_worst_10
          rw [if_pos c2, if_pos c2, if_pos c2]
        refine ⟨⟨fun _ => ⟨by show 0 ≤ (i : Int) ∧ (i : Int) < 4; omega, fun z => by have z' : 0 < hh 96 i := z; omega, by show fx_i ((i : Int) + 1); unfold fx_i; omega⟩, by show (i : Int) < 4; omega⟩, ⟨fun _ => ⟨by show 0 ≤ (i : Int) ∧ (i : Int) < 4; omega, fun z => absurd c2 z, by show fx_i ((i : Int) + 1); unfold fx_i; omega⟩, by show (i : Int) < 4; omega⟩, ?_⟩
        dsimp only
        rw [b1, b2]
        exact ⟨rfl, rfl, by show (i : Int) + 1 = _; omega, by show (i : Int) + 1 = _; omega, e5, e6, e7, e8, e9, e10⟩
      · have c1 : ¬ hh 96 i ≤ 0 := by rw [h96]; omega
        have c2 : ¬ gg 270 i = 0 := by rw [g270]; omega
        obtain ⟨o1, o2, o3, o4, o5, o6, o7, o8, o9⟩ := one_drill al (d := i) (by omega) (by omega) e6 e7 e8 e9 e10 D.1 a1 x y
        have b1 : B_X11_worst_13 a1 x y i hh = (if F_X11_brokenInDrill i hh ≤ y then x else (i : Int), if F_X11_brokenInDrill i hh ≤ y then y else F_X11_brokenInDrill i hh, (i : Int) + 1, H_X11_brokenInDrill i hh) := by
          unfold B_X11_worst_13 s_X11_worst_2 s_X11_worst_3 s_X11_worst_1
          rw [if_neg c1, if_neg c1]
        have b2 : B_X12_worst_19 a1 x y i gg = (if F_X11_brokenInDrill i hh ≤ y then x else (i : Int), if F_X11_brokenInDrill i hh ≤ y then y else F_X11_brokenInDrill i hh, (i : Int) + 1, H_X12_copy 250 249 (s_X12_worst_7 a1 x y i gg)) := by
          unfold B_X12_worst_19 s_X12_worst_11 s_X12_worst_12 s_X12_worst_10 s_X12_worst_8 s_X12_worst_9
          rw [if_neg c2, if_neg c2, if_neg c2, ← o3]
        refine ⟨⟨fun _ => ⟨by show 0 ≤ (i : Int) ∧ (i : Int) < 4; omega, fun _ => o1, by show fx_i ((i : Int) + 1); unfold fx_i; omega⟩, by show (i : Int) < 4; omega⟩, ⟨fun _ => ⟨by show 0 ≤ (i : Int) ∧ (i : Int) < 4; omega, fun _ => o2, by show fx_i ((i : Int) + 1); unfold fx_i; omega⟩, by show (i : Int) < 4; omega⟩, ?_⟩
        dsimp only
        rw [b1, b2]
        refine ⟨rfl, rfl, by show (i : Int) + 1 = _; omega, by show (i : Int) + 1 = _; omega, ?_, o4, o5, o6, o7, o8⟩
        show -1 ≤ (if F_X11_brokenInDrill i hh ≤ y then y else F_X11_brokenInDrill i hh)
        split <;> omega)
    (by
      rintro ⟨x, y, j, hh⟩ ⟨x', y', j', gg⟩ ⟨e1, e2, e3, e4, e5, -⟩
      dsimp only at e3 e4
      subst e3 e4
      exact ⟨⟨fun z => by have z' : ((4 : Nat) : Int) < 4 := z; omega, by show ¬ (((4 : Nat) : Int) < 4); omega⟩, ⟨fun z => by have z' : ((4 : Nat) : Int) < 4 := z; omega, by show ¬ (((4 : Nat) : Int) < 4); omega⟩⟩)
  obtain ⟨r1, r2, r3, r4, r5, r6, r7, r8, r9, r10, r11, r12⟩ := R
  refine ⟨fun _ => r1, fun _ => ⟨p1, by rw [← egk]; exact r2⟩, ?_, ?_⟩
  · unfold F_X11_worst F_X12_worst s_X11_worst_8 s_X12_worst_17 s_X11_worst_4 s_X11_worst_5 s_X12_worst_13 s_X12_worst_14
    rw [← egk, show (L_X11_worst_13 a1 (-1) (-1) 0 h).1 = (L_X12_worst_19 a1 (-1) (-1) 0 gk).1 from r3, show (L_X11_worst_13 a1 (-1) (-1) 0 h).2.1 = (L_X12_worst_19 a1 (-1) (-1) 0 gk).2.1 from r4]
  · unfold H_X11_worst H_X12_worst
    by_cases c : 0 ≤ a1 ∧ a1 ≤ 1
    · rw [if_pos c, if_pos c]
      have e1 : s_X12_worst_16 a1 g = (L_X12_worst_19 a1 (-1) (-1) 0 gk).2.2.2 := by unfold s_X12_worst_16; rw [← egk]
      rw [e1]
      exact ret_hall al (fun a e => r8 a (by omega)) (fun a e => r9 a (by omega)) (r12 20 (Or.inl rfl)) (r12 21 (Or.inr rfl)) (hal_cg a0 (fun a e1 e2 => r8 a (by omega)) r10)
    · rw [if_neg c, if_neg c]; exact RET.refl al
