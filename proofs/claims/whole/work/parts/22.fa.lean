/-- Arrays.fill -/
def fx_fill (h : pH) (a n v : Int) : pH := fun a' k => if a' = a ∧ 0 ≤ k ∧ k < n then v else h a' k
theorem fx_fill0 (h : pH) (a v : Int) : fx_fill h a 0 v = h := by
  funext a' k; unfold fx_fill; rw [if_neg (by omega)]
theorem fx_fillS (h : pH) (a v : Int) (n : Nat) : pm_upd (fx_fill h a n v) a n v = fx_fill h a (n + 1 : Nat) v := by
  funext a' k; unfold pm_upd fx_fill
  by_cases c : a' = a ∧ k = n
  · rw [if_pos c, if_pos (by omega)]
  · rw [if_neg c]
    by_cases d : a' = a ∧ 0 ≤ k ∧ k < (n : Int)
    · rw [if_pos d, if_pos (by omega)]
    · rw [if_neg d, if_neg (by omega)]
theorem c_J7_fill_I (t : Nat) (a v : Int) (h : pH) {n : Nat} (hA : pm_isA 0 t) (hl : pm_len t = n) (hn : n < 10000) : CP 2 [(t, a), (0, v)] h (fun r h1 => r = none ∧ h1 = fx_fill h a n v) := by
  have hR : pm_isR t := ⟨by have := hA.1; omega, by have := hA.2.2; omega⟩
  have e0 : pm_in 2 [(t, a), (0, v)] h = (0, [(t, a), (0, v), pU, pU], [], h) := by
    unfold pm_in pm_args
    rw [if_neg (show ¬ (t, a).1 = 1 from fun q => absurd (hA.1) (by rw [show t = 1 from q]; decide))]
    rfl
  show WP 2 (pm_in 2 [(t, a), (0, v)] h) _
  rw [e0]
  refine WP.iconst rfl ?_
  refine WP.istore_n (L' := [(t, a), (0, v), (0, 0), pU]) rfl rfl ?_
  refine WP.aload_n rfl rfl hR ?_
  refine WP.alen rfl ⟨hA.1, hA.2.2⟩ ?_
  rw [hl]
  refine WP.istore_n (L' := [(t, a), (0, v), (0, 0), (0, (n : Int))]) rfl rfl ?_
  have key : ∀ j i : Nat, i + j = n → WP 2 (5, [(t, a), (0, v), (0, (i : Int)), (0, (n : Int))], [], fx_fill h a i v) (fun r h1 => r = none ∧ h1 = fx_fill h a n v) := by
    intro j
    induction j with
    | zero =>
      intro i hi
      refine WP.iload_n rfl rfl ?_
      refine WP.iload_n rfl rfl ?_
      refine WP.ni_ge rfl (fun c => ?_) (fun c => absurd c (by omega))
      refine WP.retv rfl ⟨rfl, ?_⟩
      rw [show i = n by omega]
    | succ j ih =>
      intro i hi
      refine WP.iload_n rfl rfl ?_
      refine WP.iload_n rfl rfl ?_
      refine WP.ni_ge rfl (fun c => absurd c (by omega)) (fun c => ?_)
      refine WP.aload_n rfl rfl hR ?_
      refine WP.iload_n rfl rfl ?_
      refine WP.iload_n rfl rfl ?_
      refine WP.iastore rfl hA ⟨by omega, by rw [hl]; omega⟩ ?_
      refine WP.iincE (L' := [(t, a), (0, v), (0, (i : Int) + 1), (0, (n : Int))]) rfl rfl ⟨by omega, by omega⟩ rfl ?_
      refine WP.goto rfl ?_
      have := ih (i + 1) (by omega)
      rw [← fx_fillS] at this
      exact this
  have := key n 0 (by omega)
  rw [show fx_fill h a ((0 : Nat) : Int) v = h from fx_fill0 h a v] at this
  exact this
theorem c_J7_fill_J (t : Nat) (a v : Int) (h : pH) {n : Nat} (hA : pm_isA 1 t) (hl : pm_len t = n) (hn : n < 10000) : CP 1 [(t, a), (1, v)] h (fun r h1 => r = none ∧ h1 = fx_fill h a n v) := by
  have hR : pm_isR t := ⟨by have := hA.1; omega, by have := hA.2.2; omega⟩
  have e0 : pm_in 1 [(t, a), (1, v)] h = (0, [(t, a), (1, v), pU, pU, pU], [], h) := by
    unfold pm_in pm_args
    rw [if_neg (show ¬ (t, a).1 = 1 from fun q => absurd (hA.1) (by rw [show t = 1 from q]; decide))]
    rfl
  show WP 1 (pm_in 1 [(t, a), (1, v)] h) _
  rw [e0]
  refine WP.iconst rfl ?_
  refine WP.istore_n (L' := [(t, a), (1, v), pU, (0, 0), pU]) rfl rfl ?_
  refine WP.aload_n rfl rfl hR ?_
  refine WP.alen rfl ⟨hA.1, hA.2.2⟩ ?_
  rw [hl]
  refine WP.istore (L' := [(t, a), (1, v), pU, (0, 0), (0, (n : Int))]) rfl rfl ?_
  have key : ∀ j i : Nat, i + j = n → WP 1 (5, [(t, a), (1, v), pU, (0, (i : Int)), (0, (n : Int))], [], fx_fill h a i v) (fun r h1 => r = none ∧ h1 = fx_fill h a n v) := by
    intro j
    induction j with
    | zero =>
      intro i hi
      refine WP.iload_n rfl rfl ?_
      refine WP.iload rfl rfl ?_
      refine WP.ni_ge rfl (fun c => ?_) (fun c => absurd c (by omega))
      refine WP.retv rfl ⟨rfl, ?_⟩
      rw [show i = n by omega]
    | succ j ih =>
      intro i hi
      refine WP.iload_n rfl rfl ?_
      refine WP.iload rfl rfl ?_
      refine WP.ni_ge rfl (fun c => absurd c (by omega)) (fun c => ?_)
      refine WP.aload_n rfl rfl hR ?_
      refine WP.iload_n rfl rfl ?_
      refine WP.lload_n rfl rfl ?_
      refine WP.lastore rfl hA ⟨by omega, by rw [hl]; omega⟩ ?_
      refine WP.iincE (L' := [(t, a), (1, v), pU, (0, (i : Int) + 1), (0, (n : Int))]) rfl rfl ⟨by omega, by omega⟩ rfl ?_
      refine WP.goto rfl ?_
      have := ih (i + 1) (by omega)
      rw [← fx_fillS] at this
      exact this
  have := key n 0 (by omega)
  rw [show fx_fill h a ((0 : Nat) : Int) v = h from fx_fill0 h a v] at this
  exact this

noncomputable def s_J6_bitCount_0f7a4_1 (a0 : Int) : Int := (pm_and (a0 - (pm_and (pm_ushr a0 1) 1431655765)) 858993459) + (pm_and (pm_ushr (a0 - (pm_and (pm_ushr a0 1) 1431655765)) 2) 858993459)
noncomputable def s_J6_bitCount_0f7a4_2 (a0 : Int) : Int := (pm_and ((s_J6_bitCount_0f7a4_1 a0) + (pm_ushr (s_J6_bitCount_0f7a4_1 a0) 4)) 252645135) + (pm_ushr (pm_and ((s_J6_bitCount_0f7a4_1 a0) + (pm_ushr (s_J6_bitCount_0f7a4_1 a0) 4)) 252645135) 8)
noncomputable def F_J6_bitCount_0f7a4 (a0 : Int) (h : pH) : Int := pm_and ((s_J6_bitCount_0f7a4_2 a0) + (pm_ushr (s_J6_bitCount_0f7a4_2 a0) 16)) 63
noncomputable def P_J6_bitCount_0f7a4 (a0 : Int) (h : pH) : Prop := (fx_i (a0 - (pm_and (pm_ushr a0 1) 1431655765))) ∧ (fx_i ((pm_and (a0 - (pm_and (pm_ushr a0 1) 1431655765)) 858993459) + (pm_and (pm_ushr (a0 - (pm_and (pm_ushr a0 1) 1431655765)) 2) 858993459))) ∧ (fx_i ((s_J6_bitCount_0f7a4_1 a0) + (pm_ushr (s_J6_bitCount_0f7a4_1 a0) 4))) ∧ (fx_i ((pm_and ((s_J6_bitCount_0f7a4_1 a0) + (pm_ushr (s_J6_bitCount_0f7a4_1 a0) 4)) 252645135) + (pm_ushr (pm_and ((s_J6_bitCount_0f7a4_1 a0) + (pm_ushr (s_J6_bitCount_0f7a4_1 a0) 4)) 252645135) 8))) ∧ (fx_i ((s_J6_bitCount_0f7a4_2 a0) + (pm_ushr (s_J6_bitCount_0f7a4_2 a0) 16)))
set_option maxHeartbeats 4000000 in
theorem w_J6_bitCount_0f7a4 (a0 : Int) (h : pH) {Q : Option pV → pH → Prop} (hp : P_J6_bitCount_0f7a4 a0 h) (kk : Q (some (0, F_J6_bitCount_0f7a4 a0 h)) (h)) : WP 0 (0, [(0, a0)], [], h) Q := by
  unfold P_J6_bitCount_0f7a4 at hp
  obtain ⟨o1, o2, o3, o4, o5⟩ := hp
  refine WP.iload_n rfl rfl ?_
  refine WP.iload_n rfl rfl ?_
  refine WP.iconst rfl ?_
  refine WP.iushr rfl ?_
  refine WP.ldc_w rfl ?_
  refine WP.iand rfl ?_
  refine WP.isubE rfl o1 ?_
  refine WP.istore_n (L' := [(0, a0 - (pm_and (pm_ushr a0 1) 1431655765))]) rfl rfl ?_
  refine WP.iload_n rfl rfl ?_
  refine WP.ldc_w rfl ?_
  refine WP.iand rfl ?_
  refine WP.iload_n rfl rfl ?_
  refine WP.iconst rfl ?_
  refine WP.iushr rfl ?_
  refine WP.ldc_w rfl ?_
  refine WP.iand rfl ?_
  refine WP.iaddE rfl o2 ?_
  refine WP.istore_n (L' := [(0, (pm_and (a0 - (pm_and (pm_ushr a0 1) 1431655765)) 858993459) + (pm_and (pm_ushr (a0 - (pm_and (pm_ushr a0 1) 1431655765)) 2) 858993459))]) rfl rfl ?_
  show WP 0 (18, [(0, s_J6_bitCount_0f7a4_1 a0)], [], h) Q
  refine WP.iload_n rfl rfl ?_
  refine WP.iload_n rfl rfl ?_
  refine WP.iconst rfl ?_
  refine WP.iushr rfl ?_
  refine WP.iaddE rfl o3 ?_
  refine WP.ldc_w rfl ?_
  refine WP.iand rfl ?_
  refine WP.istore_n (L' := [(0, pm_and ((s_J6_bitCount_0f7a4_1 a0) + (pm_ushr (s_J6_bitCount_0f7a4_1 a0) 4)) 252645135)]) rfl rfl ?_
  refine WP.iload_n rfl rfl ?_
  refine WP.iload_n rfl rfl ?_
  refine WP.bipush rfl ?_
  refine WP.iushr rfl ?_
  refine WP.iaddE rfl o4 ?_
  refine WP.istore_n (L' := [(0, (pm_and ((s_J6_bitCount_0f7a4_1 a0) + (pm_ushr (s_J6_bitCount_0f7a4_1 a0) 4)) 252645135) + (pm_ushr (pm_and ((s_J6_bitCount_0f7a4_1 a0) + (pm_ushr (s_J6_bitCount_0f7a4_1 a0) 4)) 252645135) 8))]) rfl rfl ?_
  show WP 0 (32, [(0, s_J6_bitCount_0f7a4_2 a0)], [], h) Q
  refine WP.iload_n rfl rfl ?_
  refine WP.iload_n rfl rfl ?_
  refine WP.bipush rfl ?_
  refine WP.iushr rfl ?_
  refine WP.iaddE rfl o5 ?_
  refine WP.istore_n (L' := [(0, (s_J6_bitCount_0f7a4_2 a0) + (pm_ushr (s_J6_bitCount_0f7a4_2 a0) 16))]) rfl rfl ?_
  refine WP.iload_n rfl rfl ?_
  refine WP.bipush rfl ?_
  refine WP.iand rfl ?_
  refine WP.reti rfl ?_; exact kk
theorem c_J6_bitCount_0f7a4 (a0 : Int) (h : pH) (hp : P_J6_bitCount_0f7a4 a0 h) : CP 0 [(0, a0)] h (fun r h1 => r = some (0, F_J6_bitCount_0f7a4 a0 h) ∧ h1 = h) := w_J6_bitCount_0f7a4 a0 h hp ⟨rfl, rfl⟩
noncomputable def s_X0_copyFrom_1 (a0 : Int) (a1 : Int) (h : pH) : pH := pm_cpy (pm_cpy h (a1 + 1) 0 (a0 + 1) 0 12) (a1 + 2) 0 (a0 + 2) 0 12
noncomputable def s_X0_copyFrom_2 (a0 : Int) (a1 : Int) (h : pH) : pH := pm_cpy (pm_cpy (s_X0_copyFrom_1 a0 a1 h) (a1 + 3) 0 (a0 + 3) 0 12) (a1 + 4) 0 (a0 + 4) 0 60
noncomputable def s_X0_copyFrom_3 (a0 : Int) (a1 : Int) (h : pH) : pH := pm_upd (s_X0_copyFrom_2 a0 a1 h) a0 5 ((s_X0_copyFrom_2 a0 a1 h) a1 5)
noncomputable def s_X0_copyFrom_4 (a0 : Int) (a1 : Int) (h : pH) : pH := pm_upd (s_X0_copyFrom_3 a0 a1 h) a0 6 ((s_X0_copyFrom_3 a0 a1 h) a1 6)
noncomputable def s_X0_copyFrom_5 (a0 : Int) (a1 : Int) (h : pH) : pH := pm_upd (s_X0_copyFrom_4 a0 a1 h) a0 7 ((s_X0_copyFrom_4 a0 a1 h) a1 7)
noncomputable def s_X0_copyFrom_6 (a0 : Int) (a1 : Int) (h : pH) : pH := pm_upd (s_X0_copyFrom_5 a0 a1 h) a0 8 ((s_X0_copyFrom_5 a0 a1 h) a1 8)
noncomputable def H_X0_copyFrom (a0 : Int) (a1 : Int) (h : pH) : pH := s_X0_copyFrom_6 a0 a1 h
set_option maxHeartbeats 4000000 in
theorem w_X0_copyFrom (a0 : Int) (a1 : Int) (h : pH) {Q : Option pV → pH → Prop} (kk : Q (none) (H_X0_copyFrom a0 a1 h)) : WP 3 (0, [(2, a0), (2, a1)], [], h) Q := by
  refine WP.aload_n rfl rfl ⟨by decide, by decide⟩ ?_
  refine WP.getR rfl rfl ?_
  refine WP.iconst rfl ?_
  refine WP.aload_n rfl rfl ⟨by decide, by decide⟩ ?_
  refine WP.getR rfl rfl ?_
  refine WP.iconst rfl ?_
  refine WP.bipush rfl ?_
  refine WP.acopy rfl rfl ⟨by decide, by decide, by decide⟩ ⟨by decide, by decide, by decide⟩ (by decide) ?_
  refine WP.aload_n rfl rfl ⟨by decide, by decide⟩ ?_
  refine WP.getR rfl rfl ?_
  refine WP.iconst rfl ?_
  refine WP.aload_n rfl rfl ⟨by decide, by decide⟩ ?_
  refine WP.getR rfl rfl ?_
  refine WP.iconst rfl ?_
  refine WP.bipush rfl ?_
  refine WP.acopy rfl rfl ⟨by decide, by decide, by decide⟩ ⟨by decide, by decide, by decide⟩ (by decide) ?_
  show WP 3 (16, [(2, a0), (2, a1)], [], s_X0_copyFrom_1 a0 a1 h) Q
  refine WP.aload_n rfl rfl ⟨by decide, by decide⟩ ?_
  refine WP.getR rfl rfl ?_
  refine WP.iconst rfl ?_
  refine WP.aload_n rfl rfl ⟨by decide, by decide⟩ ?_
  refine WP.getR rfl rfl ?_
  refine WP.iconst rfl ?_
  refine WP.bipush rfl ?_
  refine WP.acopy rfl rfl ⟨by decide, by decide, by decide⟩ ⟨by decide, by decide, by decide⟩ (by decide) ?_
  refine WP.aload_n rfl rfl ⟨by decide, by decide⟩ ?_
  refine WP.getR rfl rfl ?_
  refine WP.iconst rfl ?_
  refine WP.aload_n rfl rfl ⟨by decide, by decide⟩ ?_
  refine WP.getR rfl rfl ?_
  refine WP.iconst rfl ?_
  refine WP.bipush rfl ?_
  refine WP.acopy rfl rfl ⟨by decide, by decide, by decide⟩ ⟨by decide, by decide, by decide⟩ (by decide) ?_
  show WP 3 (32, [(2, a0), (2, a1)], [], s_X0_copyFrom_2 a0 a1 h) Q
  refine WP.aload_n rfl rfl ⟨by decide, by decide⟩ ?_
  refine WP.aload_n rfl rfl ⟨by decide, by decide⟩ ?_
  refine WP.getI rfl rfl ?_
  refine WP.putI rfl rfl ?_
  show WP 3 (36, [(2, a0), (2, a1)], [], s_X0_copyFrom_3 a0 a1 h) Q
  refine WP.aload_n rfl rfl ⟨by decide, by decide⟩ ?_
  refine WP.aload_n rfl rfl ⟨by decide, by decide⟩ ?_
  refine WP.getI rfl rfl ?_
  refine WP.putI rfl rfl ?_
  show WP 3 (40, [(2, a0), (2, a1)], [], s_X0_copyFrom_4 a0 a1 h) Q
  refine WP.aload_n rfl rfl ⟨by decide, by decide⟩ ?_
  refine WP.aload_n rfl rfl ⟨by decide, by decide⟩ ?_
  refine WP.getI rfl rfl ?_
  refine WP.putI rfl rfl ?_
  show WP 3 (44, [(2, a0), (2, a1)], [], s_X0_copyFrom_5 a0 a1 h) Q
  refine WP.aload_n rfl rfl ⟨by decide, by decide⟩ ?_
  refine WP.aload_n rfl rfl ⟨by decide, by decide⟩ ?_
  refine WP.getI rfl rfl ?_
  refine WP.putI rfl rfl ?_
  show WP 3 (48, [(2, a0), (2, a1)], [], s_X0_copyFrom_6 a0 a1 h) Q
  refine WP.retv rfl ?_; exact kk
theorem c_X0_copyFrom (a0 : Int) (a1 : Int) (h : pH) : CP 3 [(2, a0), (2, a1)] h (fun r h1 => r = none ∧ h1 = H_X0_copyFrom a0 a1 h) := w_X0_copyFrom a0 a1 h ⟨rfl, rfl⟩
noncomputable def s_X0_gauge_1 (a0 : Int) (a1 : Int) (h : pH) : Int := if h a0 8 = 0 then h (a0 + 1) a1 else h (a0 + 4) ((((h a0 8) - 1) * 12) + a1)
noncomputable def F_X0_gauge (a0 : Int) (a1 : Int) (h : pH) : Int := s_X0_gauge_1 a0 a1 h
noncomputable def P_X0_gauge (a0 : Int) (a1 : Int) (h : pH) : Prop := ((((h a0 8 = 0) → ((0 ≤ a1 ∧ a1 < 12))) ∧ ((¬ h a0 8 = 0) → ((fx_i ((h a0 8) - 1)) ∧ (fx_i (((h a0 8) - 1) * 12)) ∧ (fx_i ((((h a0 8) - 1) * 12) + a1)) ∧ (0 ≤ (((h a0 8) - 1) * 12) + a1 ∧ (((h a0 8) - 1) * 12) + a1 < 60)))))
set_option maxHeartbeats 4000000 in
theorem w_X0_gauge (a0 : Int) (a1 : Int) (h : pH) {Q : Option pV → pH → Prop} (hp : P_X0_gauge a0 a1 h) (kk : Q (some (0, F_X0_gauge a0 a1 h)) (h)) : WP 4 (0, [(2, a0), (0, a1)], [], h) Q := by
  unfold P_X0_gauge at hp
  have q10 := hp
  refine WP.aload_n rfl rfl ⟨by decide, by decide⟩ ?_
  refine WP.getI rfl rfl ?_
  have k1 : ∀ Q' : Option pV → pH → Prop, (WP 4 (19, [(2, a0), (0, a1)], [(0, s_X0_gauge_1 a0 a1 h)], h) Q') → WP 4 (2, [(2, a0), (0, a1)], [(0, h a0 8)], h) Q' := fun Q' kk => by
    have q8 := q10
    refine WP.nz_ne rfl (fun c2 => ?_) (fun c2 => ?_)
    · obtain ⟨o4, o5, o6, o7⟩ := q8.2 c2
      refine WP.aload_n rfl rfl ⟨by decide, by decide⟩ ?_
      refine WP.getR rfl rfl ?_
      refine WP.aload_n rfl rfl ⟨by decide, by decide⟩ ?_
      refine WP.getI rfl rfl ?_
      refine WP.iconst rfl ?_
      refine WP.isubE rfl o4 ?_
      refine WP.bipush rfl ?_
      refine WP.imulE rfl o5 ?_
      refine WP.iload_n rfl rfl ?_
      refine WP.iaddE rfl o6 ?_
      refine WP.iaload rfl ⟨by decide, by decide, by decide⟩ o7 ?_
      have e := kk; simp only [s_X0_gauge_1, if_neg (c2)] at e ⊢; exact e
    · have o3 := q8.1 c2
      refine WP.aload_n rfl rfl ⟨by decide, by decide⟩ ?_
      refine WP.getR rfl rfl ?_
      refine WP.iload_n rfl rfl ?_
      refine WP.iaload rfl ⟨by decide, by decide, by decide⟩ o3 ?_
      refine WP.goto rfl ?_
      have e := kk; simp only [s_X0_gauge_1, if_pos c2] at e ⊢; exact e
  refine k1 _ ?_
  refine WP.reti rfl ?_; exact kk
theorem c_X0_gauge (a0 : Int) (a1 : Int) (h : pH) (hp : P_X0_gauge a0 a1 h) : CP 4 [(2, a0), (0, a1)] h (fun r h1 => r = some (0, F_X0_gauge a0 a1 h) ∧ h1 = h) := w_X0_gauge a0 a1 h hp ⟨rfl, rfl⟩
def C_X0_sum_4 (a0 : Int) (h : pH) (x1 : Int) (x3 : Int) : Prop := x3 < 12
noncomputable def B_X0_sum_4 (a0 : Int) (h : pH) (x1 : Int) (x3 : Int) : Int × Int := (x1 + (h (a0 + 1) x3), x3 + 1)
noncomputable def P_X0_sum_4 (a0 : Int) (h : pH) (x1 : Int) (x3 : Int) : Prop := ((x3 < 12) → (0 ≤ x3 ∧ x3 < 12) ∧ (fx_l (x1 + (h (a0 + 1) x3))) ∧ (fx_i (x3 + 1)))
noncomputable def L_X0_sum_4 (a0 : Int) (h : pH) (x1 : Int) (x3 : Int) : Int × Int := fx_wh (σ := Int × Int) (fun s => C_X0_sum_4 a0 h s.1 s.2) (fun s => B_X0_sum_4 a0 h s.1 s.2) (x1, x3)
def O_X0_sum_4 (a0 : Int) (h : pH) (x1 : Int) (x3 : Int) : Prop := fx_ok (σ := Int × Int) (fun s => C_X0_sum_4 a0 h s.1 s.2) (fun s => B_X0_sum_4 a0 h s.1 s.2) (fun s => P_X0_sum_4 a0 h s.1 s.2) (x1, x3)
set_option maxHeartbeats 4000000 in
theorem lp_X0_sum_4 (a0 : Int) (h : pH) (x1 : Int) (x3 : Int) {Q : Option pV → pH → Prop} (hp : O_X0_sum_4 a0 h x1 x3) (kk : ∀ us : List pV, WP 6 (17, [(2, a0), (1, (L_X0_sum_4 a0 h x1 x3).1), pU, (0, (L_X0_sum_4 a0 h x1 x3).2)], [], h) Q) : ∀ us : List pV, WP 6 (4, [(2, a0), (1, x1), pU, (0, x3)], [], h) Q := by
  refine WP.wh (σ := Int × Int) (fun s => C_X0_sum_4 a0 h s.1 s.2) (fun s => B_X0_sum_4 a0 h s.1 s.2) (fun s => P_X0_sum_4 a0 h s.1 s.2) (fun s us => (4, [(2, a0), (1, s.1), pU, (0, s.2)], [], h)) (x1, x3) hp ?_ ?_
  · intro s us hP hc kk
    obtain ⟨x1, x3⟩ := s
    change P_X0_sum_4 a0 h x1 x3 at hP
    change x3 < 12 at hc
    replace kk : ∀ (us' : List pV) (s' : Int × Int), s' = B_X0_sum_4 a0 h x1 x3 → WP 6 (4, [(2, a0), (1, s'.1), pU, (0, s'.2)], [], h) Q := fun us' s' e => by subst e; exact kk us'
    unfold P_X0_sum_4 at hP
    obtain ⟨o3, o4, o5⟩ := hP hc
    show WP 6 (4, [(2, a0), (1, x1), pU, (0, x3)], [], h) Q
    refine WP.iload_n rfl rfl ?_
    refine WP.bipush rfl ?_
    refine WP.ni_ge rfl (fun c2 => ?_) (fun c2 => ?_)
    · exact absurd hc (Int.not_lt.mpr c2)
    · refine WP.lload_n rfl rfl ?_
      refine WP.aload_n rfl rfl ⟨by decide, by decide⟩ ?_
      refine WP.getR rfl rfl ?_
      refine WP.iload_n rfl rfl ?_
      refine WP.iaload rfl ⟨by decide, by decide, by decide⟩ o3 ?_
      refine WP.i2l rfl ?_
      refine WP.laddE rfl o4 ?_
      refine WP.lstore_n (L' := [(2, a0), (1, x1 + (h (a0 + 1) x3)), pU, (0, x3)]) rfl rfl ?_
      refine WP.iincE (L' := [(2, a0), (1, x1 + (h (a0 + 1) x3)), pU, (0, x3 + 1)]) rfl rfl o5 rfl ?_
      refine WP.goto rfl ?_
      exact kk [] (x1 + (h (a0 + 1) x3), x3 + 1) (rfl)
  · intro hP hc
    generalize hs : (L_X0_sum_4 a0 h x1 x3 : Int × Int) = s at kk
    change P_X0_sum_4 a0 h (L_X0_sum_4 a0 h x1 x3).1 (L_X0_sum_4 a0 h x1 x3).2 at hP
    change ¬ C_X0_sum_4 a0 h (L_X0_sum_4 a0 h x1 x3).1 (L_X0_sum_4 a0 h x1 x3).2 at hc
    intro us
    show WP 6 (4, [(2, a0), (1, (L_X0_sum_4 a0 h x1 x3).1), pU, (0, (L_X0_sum_4 a0 h x1 x3).2)], [], h) Q
    rw [hs] at hP hc ⊢
    obtain ⟨x1, x3⟩ := s
    change P_X0_sum_4 a0 h x1 x3 at hP
    change ¬ (x3 < 12) at hc
    unfold P_X0_sum_4 at hP
    show WP 6 (4, [(2, a0), (1, x1), pU, (0, x3)], [], h) Q
    refine WP.iload_n rfl rfl ?_
    refine WP.bipush rfl ?_
    refine WP.ni_ge rfl (fun c1 => ?_) (fun c1 => ?_)
    · exact kk []
    · exact absurd (show x3 < 12 from c1) hc
noncomputable def F_X0_sum (a0 : Int) (h : pH) : Int := (L_X0_sum_4 a0 h 0 0).1
noncomputable def P_X0_sum (a0 : Int) (h : pH) : Prop := O_X0_sum_4 a0 h 0 0
set_option maxHeartbeats 4000000 in
theorem w_X0_sum (a0 : Int) (h : pH) {Q : Option pV → pH → Prop} (hp : P_X0_sum a0 h) (kk : Q (some (1, F_X0_sum a0 h)) (h)) : WP 6 (0, [(2, a0), pU, pU, pU], [], h) Q := by
  unfold P_X0_sum at hp
  have o6 := hp
  refine WP.lconst rfl ?_
  refine WP.lstore_n (L' := [(2, a0), (1, 0), pU, pU]) rfl rfl ?_
  refine WP.iconst rfl ?_
  refine WP.istore_n (L' := [(2, a0), (1, 0), pU, (0, 0)]) rfl rfl ?_
  refine lp_X0_sum_4 a0 h 0 0 o6 (fun us7 => ?_) []
  show WP 6 (17, [(2, a0), (1, (L_X0_sum_4 a0 h 0 0).1), pU, (0, (L_X0_sum_4 a0 h 0 0).2)], [], h) Q
  refine WP.lload_n rfl rfl ?_
  refine WP.retl rfl ?_; exact kk
theorem c_X0_sum (a0 : Int) (h : pH) (hp : P_X0_sum a0 h) : CP 6 [(2, a0)] h (fun r h1 => r = some (1, F_X0_sum a0 h) ∧ h1 = h) := w_X0_sum a0 h hp ⟨rfl, rfl⟩
noncomputable def s_X0_remember_1 (a0 : Int) (h : pH) : pH := pm_cpy (pm_cpy h (a0 + 4) 0 (a0 + 4) 12 48) (a0 + 1) 0 (a0 + 4) 0 12
noncomputable def H_X0_remember (a0 : Int) (h : pH) : pH := s_X0_remember_1 a0 h
set_option maxHeartbeats 4000000 in
theorem w_X0_remember (a0 : Int) (h : pH) {Q : Option pV → pH → Prop} (kk : Q (none) (H_X0_remember a0 h)) : WP 8 (0, [(2, a0)], [], h) Q := by
  refine WP.aload_n rfl rfl ⟨by decide, by decide⟩ ?_
  refine WP.getR rfl rfl ?_
  refine WP.iconst rfl ?_
  refine WP.aload_n rfl rfl ⟨by decide, by decide⟩ ?_
  refine WP.getR rfl rfl ?_
  refine WP.bipush rfl ?_
  refine WP.bipush rfl ?_
  refine WP.acopy rfl rfl ⟨by decide, by decide, by decide⟩ ⟨by decide, by decide, by decide⟩ (by decide) ?_
  refine WP.aload_n rfl rfl ⟨by decide, by decide⟩ ?_
  refine WP.getR rfl rfl ?_
  refine WP.iconst rfl ?_
  refine WP.aload_n rfl rfl ⟨by decide, by decide⟩ ?_
  refine WP.getR rfl rfl ?_
  refine WP.iconst rfl ?_
  refine WP.bipush rfl ?_
  refine WP.acopy rfl rfl ⟨by decide, by decide, by decide⟩ ⟨by decide, by decide, by decide⟩ (by decide) ?_
  show WP 8 (16, [(2, a0)], [], s_X0_remember_1 a0 h) Q
  refine WP.retv rfl ?_; exact kk
theorem c_X0_remember (a0 : Int) (h : pH) : CP 8 [(2, a0)] h (fun r h1 => r = none ∧ h1 = H_X0_remember a0 h) := w_X0_remember a0 h ⟨rfl, rfl⟩
noncomputable def F_X0_part (a0 : Int) (a1 : Int) (h : pH) : Int := Int.tdiv (a0 * a1) 1000
noncomputable def P_X0_part (a0 : Int) (a1 : Int) (h : pH) : Prop := (fx_l (a0 * a1)) ∧ (fx_l (Int.tdiv (a0 * a1) 1000)) ∧ (fx_i (Int.tdiv (a0 * a1) 1000))
set_option maxHeartbeats 4000000 in
theorem w_X0_part (a0 : Int) (a1 : Int) (h : pH) {Q : Option pV → pH → Prop} (hp : P_X0_part a0 a1 h) (kk : Q (some (0, F_X0_part a0 a1 h)) (h)) : WP 11 (0, [(0, a0), (0, a1)], [], h) Q := by
  unfold P_X0_part at hp
  obtain ⟨o1, o2, o3⟩ := hp
  refine WP.iload_n rfl rfl ?_
  refine WP.i2l rfl ?_
  refine WP.iload_n rfl rfl ?_
  refine WP.i2l rfl ?_
  refine WP.lmulE rfl o1 ?_
  refine WP.ldc2_w rfl ?_
  refine WP.ldivE rfl (show (1000 : Int) ≠ 0 by decide) o2 ?_
  refine WP.l2iE rfl o3 ?_
  refine WP.reti rfl ?_; exact kk
theorem c_X0_part (a0 : Int) (a1 : Int) (h : pH) (hp : P_X0_part a0 a1 h) : CP 11 [(0, a0), (0, a1)] h (fun r h1 => r = some (0, F_X0_part a0 a1 h) ∧ h1 = h) := w_X0_part a0 a1 h hp ⟨rfl, rfl⟩
noncomputable def s_X1_note_1 (a1 : Int) (h : pH) : pH := pm_upd (pm_upd h 146 (h 99 3) a1) 99 3 (((pm_upd h 146 (h 99 3) a1) 99 3) + 1)
noncomputable def s_X1_note_2 (a1 : Int) (h : pH) : pH := if h 99 2 = 0 then h else if 40 ≤ h 99 3 then h else s_X1_note_1 a1 h
noncomputable def H_X1_note (a1 : Int) (h : pH) : pH := s_X1_note_2 a1 h
noncomputable def P_X1_note (a1 : Int) (h : pH) : Prop := (((¬ h 99 2 = 0) → (((h 99 3 < 40) → ((0 ≤ h 99 3 ∧ h 99 3 < 40) ∧ (fx_i (((pm_upd h 146 (h 99 3) a1) 99 3) + 1)))))))
set_option maxHeartbeats 4000000 in
theorem w_X1_note (a1 : Int) (h : pH) {Q : Option pV → pH → Prop} (hp : P_X1_note a1 h) (kk : Q (none) (H_X1_note a1 h)) : WP 13 (0, [(3, 99), (1, a1), pU], [], h) Q := by
  unfold P_X1_note at hp
  have q9 := hp
  refine WP.aload_n rfl rfl ⟨by decide, by decide⟩ ?_
  refine WP.getZ rfl rfl ?_
  have k1 : ∀ Q' : Option pV → pH → Prop, (WP 13 (19, [(3, 99), (1, a1), pU], [], s_X1_note_2 a1 h) Q') → WP 13 (2, [(3, 99), (1, a1), pU], [(0, h 99 2)], h) Q' := fun Q' kk => by
    have q7 := q9
    refine WP.nz_eq rfl (fun c2 => ?_) (fun c2 => ?_)
    · have e := kk; simp only [s_X1_note_2, if_pos c2] at e ⊢; exact e
    · have q6 := q7 c2
      refine WP.aload_n rfl rfl ⟨by decide, by decide⟩ ?_
      refine WP.getI rfl rfl ?_
      refine WP.bipush rfl ?_
      refine WP.ni_ge rfl (fun c3 => ?_) (fun c3 => ?_)
      · have e := kk; simp only [s_X1_note_2, if_neg (c2), if_pos c3] at e ⊢; exact e
      · obtain ⟨o4, o5⟩ := q6 c3
        refine WP.aload_n rfl rfl ⟨by decide, by decide⟩ ?_
        refine WP.getRF (b := 146) rfl rfl rfl ?_
        refine WP.aload_n rfl rfl ⟨by decide, by decide⟩ ?_
        refine WP.getI rfl rfl ?_
        refine WP.lload_n rfl rfl ?_
        refine WP.lastore rfl ⟨by decide, by decide, by decide⟩ o4 ?_
        refine WP.aload_n rfl rfl ⟨by decide, by decide⟩ ?_
        refine WP.dup rfl (by decide) ?_
        refine WP.getI rfl rfl ?_
        refine WP.iconst rfl ?_
        refine WP.iaddE rfl o5 ?_
        refine WP.putI rfl rfl ?_
        show WP 13 (19, [(3, 99), (1, a1), pU], [], s_X1_note_1 a1 h) Q'
        have e := kk; simp only [s_X1_note_2, if_neg (c2), if_neg (Int.not_le.mpr c3)] at e ⊢; exact e
  refine k1 _ ?_
  refine WP.retv rfl ?_; exact kk
theorem c_X1_note (a1 : Int) (h : pH) (hp : P_X1_note a1 h) : CP 13 [(3, 99), (1, a1)] h (fun r h1 => r = none ∧ h1 = H_X1_note a1 h) := w_X1_note a1 h hp ⟨rfl, rfl⟩
noncomputable def s_X3_multiply_1 (a1 : Int) (x2 : Int) (x4 : Int) (h : pH) : pH := pm_upd h (h 153 1) x4 (pm_landl (((h (h 153 1) x4) * a1) + x2) 1125899906842623)
def C_X3_multiply_4 (a1 : Int) (x2 : Int) (x4 : Int) (h : pH) : Prop := x4 < h 153 2
noncomputable def B_X3_multiply_4 (a1 : Int) (x2 : Int) (x4 : Int) (h : pH) : Int × Int × pH := (pm_lushr (((h (h 153 1) x4) * a1) + x2) 50, x4 + 1, s_X3_multiply_1 a1 x2 x4 h)
noncomputable def P_X3_multiply_4 (a1 : Int) (x2 : Int) (x4 : Int) (h : pH) : Prop := ((x4 < h 153 2) → (0 ≤ x4 ∧ x4 < 13) ∧ (fx_l ((h (h 153 1) x4) * a1)) ∧ (fx_l (((h (h 153 1) x4) * a1) + x2)) ∧ (fx_i (x4 + 1)))
noncomputable def L_X3_multiply_4 (a1 : Int) (x2 : Int) (x4 : Int) (h : pH) : Int × Int × pH := fx_wh (σ := Int × Int × pH) (fun s => C_X3_multiply_4 a1 s.1 s.2.1 s.2.2) (fun s => B_X3_multiply_4 a1 s.1 s.2.1 s.2.2) (x2, x4, h)
def O_X3_multiply_4 (a1 : Int) (x2 : Int) (x4 : Int) (h : pH) : Prop := fx_ok (σ := Int × Int × pH) (fun s => C_X3_multiply_4 a1 s.1 s.2.1 s.2.2) (fun s => B_X3_multiply_4 a1 s.1 s.2.1 s.2.2) (fun s => P_X3_multiply_4 a1 s.1 s.2.1 s.2.2) (x2, x4, h)
set_option maxHeartbeats 4000000 in
theorem lp_X3_multiply_4 (a1 : Int) (x2 : Int) (x4 : Int) (h : pH) {Q : Option pV → pH → Prop} (hp : O_X3_multiply_4 a1 x2 x4 h) (kk : ∀ us : List pV, WP 16 (31, [(5, 153), (0, a1), (1, (L_X3_multiply_4 a1 x2 x4 h).1), pU, (0, (L_X3_multiply_4 a1 x2 x4 h).2.1), us.getD 0 pU, us.getD 1 pU], [], (L_X3_multiply_4 a1 x2 x4 h).2.2) Q) : ∀ us : List pV, WP 16 (4, [(5, 153), (0, a1), (1, x2), pU, (0, x4), us.getD 0 pU, us.getD 1 pU], [], h) Q := by
  refine WP.wh (σ := Int × Int × pH) (fun s => C_X3_multiply_4 a1 s.1 s.2.1 s.2.2) (fun s => B_X3_multiply_4 a1 s.1 s.2.1 s.2.2) (fun s => P_X3_multiply_4 a1 s.1 s.2.1 s.2.2) (fun s us => (4, [(5, 153), (0, a1), (1, s.1), pU, (0, s.2.1), us.getD 0 pU, us.getD 1 pU], [], s.2.2)) (x2, x4, h) hp ?_ ?_
  · intro s us hP hc kk
    obtain ⟨x2, x4, h⟩ := s
    change P_X3_multiply_4 a1 x2 x4 h at hP
    change x4 < h 153 2 at hc
    replace kk : ∀ (us' : List pV) (s' : Int × Int × pH), s' = B_X3_multiply_4 a1 x2 x4 h → WP 16 (4, [(5, 153), (0, a1), (1, s'.1), pU, (0, s'.2.1), us'.getD 0 pU, us'.getD 1 pU], [], s'.2.2) Q := fun us' s' e => by subst e; exact kk us'
    unfold P_X3_multiply_4 at hP
    obtain ⟨o3, o4, o5, o6⟩ := hP hc
    show WP 16 (4, [(5, 153), (0, a1), (1, x2), pU, (0, x4), us.getD 0 pU, us.getD 1 pU], [], h) Q
    refine WP.iload rfl rfl ?_
    refine WP.aload_n rfl rfl ⟨by decide, by decide⟩ ?_
    refine WP.getI rfl rfl ?_
    refine WP.ni_ge rfl (fun c2 => ?_) (fun c2 => ?_)
    · exact absurd hc (Int.not_lt.mpr c2)
    · refine WP.aload_n rfl rfl ⟨by decide, by decide⟩ ?_
      refine WP.getD rfl rfl ?_
      refine WP.iload rfl rfl ?_
      refine WP.laload rfl ⟨by decide, by decide, by decide⟩ o3 ?_
      refine WP.iload_n rfl rfl ?_
      refine WP.i2l rfl ?_
      refine WP.lmulE rfl o4 ?_
      refine WP.lload_n rfl rfl ?_
      refine WP.laddE rfl o5 ?_
      refine WP.lstore (L' := [(5, 153), (0, a1), (1, x2), pU, (0, x4), (1, ((h (h 153 1) x4) * a1) + x2), pU]) rfl rfl ?_
      refine WP.aload_n rfl rfl ⟨by decide, by decide⟩ ?_
      refine WP.getD rfl rfl ?_
      refine WP.iload rfl rfl ?_
      refine WP.lload rfl rfl ?_
      refine WP.ldc2_w rfl ?_
      refine WP.land rfl ?_
      refine WP.lastore rfl ⟨by decide, by decide, by decide⟩ o3 ?_
      show WP 16 (25, [(5, 153), (0, a1), (1, x2), pU, (0, x4), (1, ((h (h 153 1) x4) * a1) + x2), pU], [], s_X3_multiply_1 a1 x2 x4 h) Q
      refine WP.lload rfl rfl ?_
      refine WP.bipush rfl ?_
      refine WP.lushr rfl ?_
      refine WP.lstore_n (L' := [(5, 153), (0, a1), (1, pm_lushr (((h (h 153 1) x4) * a1) + x2) 50), pU, (0, x4), (1, ((h (h 153 1) x4) * a1) + x2), pU]) rfl rfl ?_
      refine WP.iincE (L' := [(5, 153), (0, a1), (1, pm_lushr (((h (h 153 1) x4) * a1) + x2) 50), pU, (0, x4 + 1), (1, ((h (h 153 1) x4) * a1) + x2), pU]) rfl rfl o6 rfl ?_
      refine WP.goto rfl ?_
      exact kk [(1, ((h (h 153 1) x4) * a1) + x2), pU] (pm_lushr (((h (h 153 1) x4) * a1) + x2) 50, x4 + 1, s_X3_multiply_1 a1 x2 x4 h) (rfl)
  · intro hP hc
    generalize hs : (L_X3_multiply_4 a1 x2 x4 h : Int × Int × pH) = s at kk
    change P_X3_multiply_4 a1 (L_X3_multiply_4 a1 x2 x4 h).1 (L_X3_multiply_4 a1 x2 x4 h).2.1 (L_X3_multiply_4 a1 x2 x4 h).2.2 at hP
    change ¬ C_X3_multiply_4 a1 (L_X3_multiply_4 a1 x2 x4 h).1 (L_X3_multiply_4 a1 x2 x4 h).2.1 (L_X3_multiply_4 a1 x2 x4 h).2.2 at hc
    intro us
    show WP 16 (4, [(5, 153), (0, a1), (1, (L_X3_multiply_4 a1 x2 x4 h).1), pU, (0, (L_X3_multiply_4 a1 x2 x4 h).2.1), us.getD 0 pU, us.getD 1 pU], [], (L_X3_multiply_4 a1 x2 x4 h).2.2) Q
    rw [hs] at hP hc ⊢
    obtain ⟨x2, x4, h⟩ := s
    change P_X3_multiply_4 a1 x2 x4 h at hP
    change ¬ (x4 < h 153 2) at hc
    unfold P_X3_multiply_4 at hP
    show WP 16 (4, [(5, 153), (0, a1), (1, x2), pU, (0, x4), us.getD 0 pU, us.getD 1 pU], [], h) Q
    refine WP.iload rfl rfl ?_
    refine WP.aload_n rfl rfl ⟨by decide, by decide⟩ ?_
    refine WP.getI rfl rfl ?_
    refine WP.ni_ge rfl (fun c1 => ?_) (fun c1 => ?_)
    · exact kk [us.getD 0 pU, us.getD 1 pU]
    · exact absurd (show x4 < h 153 2 from c1) hc
noncomputable def s_X3_multiply_2 (a1 : Int) (h : pH) : pH := pm_upd ((L_X3_multiply_4 a1 0 0 h).2.2) (((L_X3_multiply_4 a1 0 0 h).2.2) 153 1) (((L_X3_multiply_4 a1 0 0 h).2.2) 153 2) ((L_X3_multiply_4 a1 0 0 h).1)
noncomputable def s_X3_multiply_3 (a1 : Int) (h : pH) : pH := pm_upd (s_X3_multiply_2 a1 h) 153 2 (((s_X3_multiply_2 a1 h) 153 2) + 1)
noncomputable def s_X3_multiply_4 (a1 : Int) (h : pH) : pH := if (L_X3_multiply_4 a1 0 0 h).1 ≤ 0 then (L_X3_multiply_4 a1 0 0 h).2.2 else if 13 ≤ ((L_X3_multiply_4 a1 0 0 h).2.2) 153 2 then (L_X3_multiply_4 a1 0 0 h).2.2 else s_X3_multiply_3 a1 h
noncomputable def H_X3_multiply (a1 : Int) (h : pH) : pH := s_X3_multiply_4 a1 h
noncomputable def P_X3_multiply (a1 : Int) (h : pH) : Prop := O_X3_multiply_4 a1 0 0 h ∧ (((0 < (L_X3_multiply_4 a1 0 0 h).1) → (((((L_X3_multiply_4 a1 0 0 h).2.2) 153 2 < 13) → ((0 ≤ ((L_X3_multiply_4 a1 0 0 h).2.2) 153 2 ∧ ((L_X3_multiply_4 a1 0 0 h).2.2) 153 2 < 13) ∧ (fx_i (((s_X3_multiply_2 a1 h) 153 2) + 1)))))))
set_option maxHeartbeats 4000000 in
theorem w_X3_multiply (a1 : Int) (h : pH) {Q : Option pV → pH → Prop} (hp : P_X3_multiply a1 h) (kk : Q (none) (H_X3_multiply a1 h)) : WP 16 (0, [(5, 153), (0, a1), pU, pU, pU, pU, pU], [], h) Q := by
  unfold P_X3_multiply at hp
  obtain ⟨o7, q17⟩ := hp
  refine WP.lconst rfl ?_
  refine WP.lstore_n (L' := [(5, 153), (0, a1), (1, 0), pU, pU, pU, pU]) rfl rfl ?_
  refine WP.iconst rfl ?_
  refine WP.istore (L' := [(5, 153), (0, a1), (1, 0), pU, (0, 0), pU, pU]) rfl rfl ?_
  refine lp_X3_multiply_4 a1 0 0 h o7 (fun us8 => ?_) [pU, pU]
  show WP 16 (31, [(5, 153), (0, a1), (1, (L_X3_multiply_4 a1 0 0 h).1), pU, (0, (L_X3_multiply_4 a1 0 0 h).2.1), us8.getD 0 pU, us8.getD 1 pU], [], (L_X3_multiply_4 a1 0 0 h).2.2) Q
  refine WP.lload_n rfl rfl ?_
  refine WP.lconst rfl ?_
  refine WP.lcmp rfl ?_
  have k9 : ∀ Q' : Option pV → pH → Prop, (WP 16 (51, [(5, 153), (0, a1), (1, (L_X3_multiply_4 a1 0 0 h).1), pU, (0, (L_X3_multiply_4 a1 0 0 h).2.1), us8.getD 0 pU, us8.getD 1 pU], [], s_X3_multiply_4 a1 h) Q') → WP 16 (34, [(5, 153), (0, a1), (1, (L_X3_multiply_4 a1 0 0 h).1), pU, (0, (L_X3_multiply_4 a1 0 0 h).2.1), us8.getD 0 pU, us8.getD 1 pU], [(0, pm_lcmp ((L_X3_multiply_4 a1 0 0 h).1) 0)], (L_X3_multiply_4 a1 0 0 h).2.2) Q' := fun Q' kk => by
    have q15 := q17
    refine WP.nl_le rfl (fun c10 => ?_) (fun c10 => ?_)
    · have e := kk; simp only [s_X3_multiply_4, if_pos c10] at e ⊢; exact e
    · have q14 := q15 c10
      refine WP.aload_n rfl rfl ⟨by decide, by decide⟩ ?_
      refine WP.getI rfl rfl ?_
      refine WP.bipush rfl ?_
      refine WP.ni_ge rfl (fun c11 => ?_) (fun c11 => ?_)
      · have e := kk; simp only [s_X3_multiply_4, if_neg (Int.not_le.mpr c10), if_pos c11] at e ⊢; exact e
      · obtain ⟨o12, o13⟩ := q14 c11
        refine WP.aload_n rfl rfl ⟨by decide, by decide⟩ ?_
        refine WP.getD rfl rfl ?_
        refine WP.aload_n rfl rfl ⟨by decide, by decide⟩ ?_
        refine WP.getI rfl rfl ?_
        refine WP.lload_n rfl rfl ?_
        refine WP.lastore rfl ⟨by decide, by decide, by decide⟩ o12 ?_
        show WP 16 (45, [(5, 153), (0, a1), (1, (L_X3_multiply_4 a1 0 0 h).1), pU, (0, (L_X3_multiply_4 a1 0 0 h).2.1), us8.getD 0 pU, us8.getD 1 pU], [], s_X3_multiply_2 a1 h) Q'
        refine WP.aload_n rfl rfl ⟨by decide, by decide⟩ ?_
        refine WP.dup rfl (by decide) ?_
        refine WP.getI rfl rfl ?_
        refine WP.iconst rfl ?_
        refine WP.iaddE rfl o13 ?_
        refine WP.putI rfl rfl ?_
        show WP 16 (51, [(5, 153), (0, a1), (1, (L_X3_multiply_4 a1 0 0 h).1), pU, (0, (L_X3_multiply_4 a1 0 0 h).2.1), us8.getD 0 pU, us8.getD 1 pU], [], s_X3_multiply_3 a1 h) Q'
        have e := kk; simp only [s_X3_multiply_4, if_neg (Int.not_le.mpr c10), if_neg (Int.not_le.mpr c11)] at e ⊢; exact e
  refine k9 _ ?_
  refine WP.retv rfl ?_; exact kk
theorem c_X3_multiply (a1 : Int) (h : pH) (hp : P_X3_multiply a1 h) : CP 16 [(5, 153), (0, a1)] h (fun r h1 => r = none ∧ h1 = H_X3_multiply a1 h) := w_X3_multiply a1 h hp ⟨rfl, rfl⟩
noncomputable def B_X3_isTriedGreater_2 (h : pH) (x1 : Int) : Int × Int := if x1 < 0 then (1, x1) else if h (h 153 1) x1 = h (h 153 0) x1 then (0, x1 + (-1)) else (2, x1)
noncomputable def P_X3_isTriedGreater_2 (h : pH) (x1 : Int) : Prop := ((0 ≤ x1) → ((0 ≤ x1 ∧ x1 < 13) ∧ ((h (h 153 1) x1 = h (h 153 0) x1) → ((fx_i (x1 + (-1)))))))
noncomputable def L_X3_isTriedGreater_2 (h : pH) (x1 : Int) : Int × Int := fx_wh (σ := Int × Int) (fun s => s.1 = 0) (fun s => B_X3_isTriedGreater_2 h s.2) (0, x1)
def O_X3_isTriedGreater_2 (h : pH) (x1 : Int) : Prop := fx_ok (σ := Int × Int) (fun s => s.1 = 0) (fun s => B_X3_isTriedGreater_2 h s.2) (fun s => s.1 = 0 → P_X3_isTriedGreater_2 h s.2) (0, x1)
set_option maxHeartbeats 4000000 in
theorem lp_X3_isTriedGreater_2 (h : pH) (x1 : Int) {Q : Option pV → pH → Prop} (hp : O_X3_isTriedGreater_2 h x1) (kk : (L_X3_isTriedGreater_2 h x1).1 = 1 → ∀ us : List pV, WP 17 (30, [(5, 153), (0, (L_X3_isTriedGreater_2 h x1).2)], [], h) Q) (kk2 : ¬ (L_X3_isTriedGreater_2 h x1).1 = 1 → ∀ us : List pV, WP 17 (14, [(5, 153), (0, (L_X3_isTriedGreater_2 h x1).2)], [], h) Q) : ∀ us : List pV, WP 17 (2, [(5, 153), (0, x1)], [], h) Q := by
  refine WP.wh (σ := Int × Int) (fun s => s.1 = 0) (fun s => B_X3_isTriedGreater_2 h s.2) (fun s => s.1 = 0 → P_X3_isTriedGreater_2 h s.2) (fun s us => if s.1 = 0 then (2, [(5, 153), (0, s.2)], [], h) else if s.1 = 1 then (30, [(5, 153), (0, s.2)], [], h) else (14, [(5, 153), (0, s.2)], [], h)) (0, x1) hp ?_ ?_
  · intro s us hP hc kk
    obtain ⟨fl, x1⟩ := s
    change fl = 0 at hc
    subst hc
    replace hP := hP rfl
    change P_X3_isTriedGreater_2 h x1 at hP
    replace kk : ∀ (us' : List pV) (s' : Int × Int), s' = B_X3_isTriedGreater_2 h x1 → WP 17 ((fun s us => if s.1 = 0 then (2, [(5, 153), (0, s.2)], [], h) else if s.1 = 1 then (30, [(5, 153), (0, s.2)], [], h) else (14, [(5, 153), (0, s.2)], [], h)) s' us') Q := fun us' s' e => by subst e; exact kk us'
    unfold P_X3_isTriedGreater_2 at hP
    have q6 := hP
    show WP 17 (2, [(5, 153), (0, x1)], [], h) Q
    refine WP.iload_n rfl rfl ?_
    refine WP.nz_lt rfl (fun c1 => ?_) (fun c1 => ?_)
    · exact kk [] (1, x1) (by simp only [B_X3_isTriedGreater_2, if_pos c1])
    · obtain ⟨o2, q5⟩ := q6 c1
      refine WP.aload_n rfl rfl ⟨by decide, by decide⟩ ?_
      refine WP.getD rfl rfl ?_
      refine WP.iload_n rfl rfl ?_
      refine WP.laload rfl ⟨by decide, by decide, by decide⟩ o2 ?_
      refine WP.aload_n rfl rfl ⟨by decide, by decide⟩ ?_
      refine WP.getD rfl rfl ?_
      refine WP.iload_n rfl rfl ?_
      refine WP.laload rfl ⟨by decide, by decide, by decide⟩ o2 ?_
      refine WP.lcmp rfl ?_
      refine WP.nl_eq rfl (fun c3 => ?_) (fun c3 => ?_)
      · have o4 := q5 c3
        refine WP.iincE (L' := [(5, 153), (0, x1 + (-1))]) rfl rfl o4 rfl ?_
        refine WP.goto rfl ?_
        exact kk [] (0, x1 + (-1)) (by simp only [B_X3_isTriedGreater_2, if_neg (Int.not_lt.mpr c1), if_pos c3])
      · exact kk [] (2, x1) (by simp only [B_X3_isTriedGreater_2, if_neg (Int.not_lt.mpr c1), if_neg (c3)])
  · intro hP hc
    intro us
    change ¬ (L_X3_isTriedGreater_2 h x1).1 = 0 at hc
    show WP 17 (if (L_X3_isTriedGreater_2 h x1).1 = 0 then (2, [(5, 153), (0, (L_X3_isTriedGreater_2 h x1).2)], [], h) else if (L_X3_isTriedGreater_2 h x1).1 = 1 then (30, [(5, 153), (0, (L_X3_isTriedGreater_2 h x1).2)], [], h) else (14, [(5, 153), (0, (L_X3_isTriedGreater_2 h x1).2)], [], h)) Q
    rw [if_neg hc]
    by_cases e : (L_X3_isTriedGreater_2 h x1).1 = 1
    · rw [if_pos e]; exact kk e us
    · rw [if_neg e]; exact kk2 e us
noncomputable def F_X3_isTriedGreater (h : pH) : Int := if (L_X3_isTriedGreater_2 h 12).1 = 1 then 0 else if h (h 153 0) ((L_X3_isTriedGreater_2 h 12).2) < h (h 153 1) ((L_X3_isTriedGreater_2 h 12).2) then 1 else 0
noncomputable def P_X3_isTriedGreater (h : pH) : Prop := O_X3_isTriedGreater_2 h 12 ∧ ((¬ (L_X3_isTriedGreater_2 h 12).1 = 1) → ((0 ≤ (L_X3_isTriedGreater_2 h 12).2 ∧ (L_X3_isTriedGreater_2 h 12).2 < 13)))
set_option maxHeartbeats 4000000 in
theorem w_X3_isTriedGreater (h : pH) {Q : Option pV → pH → Prop} (hp : P_X3_isTriedGreater h) (kk : Q (some (0, F_X3_isTriedGreater h)) (h)) : WP 17 (0, [(5, 153), pU], [], h) Q := by
  unfold P_X3_isTriedGreater at hp
  obtain ⟨o7, q14⟩ := hp
  refine WP.bipush rfl ?_
  refine WP.istore_n (L' := [(5, 153), (0, 12)]) rfl rfl ?_
  refine lp_X3_isTriedGreater_2 h 12 o7 (fun (c9 : (L_X3_isTriedGreater_2 h 12).1 = 1) us8 => ?_) (fun (c9 : ¬ (L_X3_isTriedGreater_2 h 12).1 = 1) us8 => ?_) []
  · show WP 17 (30, [(5, 153), (0, (L_X3_isTriedGreater_2 h 12).2)], [], h) Q
    refine WP.iconst rfl ?_
    refine WP.retz rfl (by decide) ?_; have e := kk; simp only [F_X3_isTriedGreater, if_pos c9] at e ⊢; exact e
  · have o10 := q14 c9
    show WP 17 (14, [(5, 153), (0, (L_X3_isTriedGreater_2 h 12).2)], [], h) Q
    refine WP.aload_n rfl rfl ⟨by decide, by decide⟩ ?_
    refine WP.getD rfl rfl ?_
    refine WP.iload_n rfl rfl ?_
    refine WP.laload rfl ⟨by decide, by decide, by decide⟩ o10 ?_
    refine WP.aload_n rfl rfl ⟨by decide, by decide⟩ ?_
    refine WP.getD rfl rfl ?_
    refine WP.iload_n rfl rfl ?_
    refine WP.laload rfl ⟨by decide, by decide, by decide⟩ o10 ?_
    refine WP.lcmp rfl ?_
    have k11 : ∀ Q' : Option pV → pH → Prop, (WP 17 (27, [(5, 153), (0, (L_X3_isTriedGreater_2 h 12).2)], [(0, if h (h 153 0) ((L_X3_isTriedGreater_2 h 12).2) < h (h 153 1) ((L_X3_isTriedGreater_2 h 12).2) then 1 else 0)], h) Q') → WP 17 (23, [(5, 153), (0, (L_X3_isTriedGreater_2 h 12).2)], [(0, pm_lcmp (h (h 153 1) ((L_X3_isTriedGreater_2 h 12).2)) (h (h 153 0) ((L_X3_isTriedGreater_2 h 12).2)))], h) Q' := fun Q' kk => by
      refine WP.nl_le rfl (fun c12 => ?_) (fun c12 => ?_)
      · refine WP.iconst rfl ?_
        have e := kk; simp only [if_pos c12, if_neg (show ¬ (h (h 153 0) ((L_X3_isTriedGreater_2 h 12).2) < h (h 153 1) ((L_X3_isTriedGreater_2 h 12).2)) from Int.not_lt.mpr c12)] at e ⊢; exact e
      · refine WP.iconst rfl ?_
        refine WP.goto rfl ?_
        have e := kk; simp only [if_neg (Int.not_le.mpr c12), if_pos (show h (h 153 0) ((L_X3_isTriedGreater_2 h 12).2) < h (h 153 1) ((L_X3_isTriedGreater_2 h 12).2) from c12)] at e ⊢; exact e
    refine k11 _ ?_
    refine WP.retz rfl (fx_01 _) ?_; have e := kk; simp only [F_X3_isTriedGreater, if_neg (c9)] at e ⊢; exact e
theorem c_X3_isTriedGreater (h : pH) (hp : P_X3_isTriedGreater h) : CP 17 [(5, 153)] h (fun r h1 => r = some (0, F_X3_isTriedGreater h) ∧ h1 = h) := w_X3_isTriedGreater h hp ⟨rfl, rfl⟩
noncomputable def s_X4_stop_1 (a0 : Int) (a1 : Int) (a2 : Int) (h : pH) : pH := pm_upd (pm_upd h (a0 + 16) a1 0) (a0 + 34) (h (a0 + 15) a1) a2
noncomputable def s_X4_stop_2 (a0 : Int) (a1 : Int) (a2 : Int) (h : pH) : pH := pm_upd (s_X4_stop_1 a0 a1 a2 h) (a0 + 35) (h (a0 + 15) a1) (-1)
noncomputable def s_X4_stop_3 (a0 : Int) (a1 : Int) (a2 : Int) (h : pH) : pH := if h (a0 + 15) a1 = (-1) then pm_upd h (a0 + 16) a1 0 else s_X4_stop_2 a0 a1 a2 h
noncomputable def H_X4_stop (a0 : Int) (a1 : Int) (a2 : Int) (h : pH) : pH := s_X4_stop_3 a0 a1 a2 h
noncomputable def P_X4_stop (a0 : Int) (a1 : Int) (a2 : Int) (h : pH) : Prop := (0 ≤ a1 ∧ a1 < 10) ∧ (((¬ h (a0 + 15) a1 = (-1)) → ((0 ≤ h (a0 + 15) a1 ∧ h (a0 + 15) a1 < 16))))
set_option maxHeartbeats 4000000 in
theorem w_X4_stop (a0 : Int) (a1 : Int) (a2 : Int) (h : pH) {Q : Option pV → pH → Prop} (hp : P_X4_stop a0 a1 a2 h) (kk : Q (none) (H_X4_stop a0 a1 a2 h)) : WP 26 (0, [(6, a0), (0, a1), (0, a2), pU], [], h) Q := by
  unfold P_X4_stop at hp
  obtain ⟨o1, q7⟩ := hp
  refine WP.aload_n rfl rfl ⟨by decide, by decide⟩ ?_
  refine WP.getR rfl rfl ?_
  refine WP.getRF (b := a0 + 15) rfl rfl (fx_ad rfl) ?_
  refine WP.iload_n rfl rfl ?_
  refine WP.iaload rfl ⟨by decide, by decide, by decide⟩ o1 ?_
  refine WP.istore_n (L' := [(6, a0), (0, a1), (0, a2), (0, h (a0 + 15) a1)]) rfl rfl ?_
  refine WP.aload_n rfl rfl ⟨by decide, by decide⟩ ?_
  refine WP.getR rfl rfl ?_
  refine WP.getRF (b := a0 + 16) rfl rfl (fx_ad rfl) ?_
  refine WP.iload_n rfl rfl ?_
  refine WP.iconst rfl ?_
  refine WP.iastore rfl ⟨by decide, by decide, by decide⟩ o1 ?_
  refine WP.iload_n rfl rfl ?_
  refine WP.iconst rfl ?_
  have k2 : ∀ Q' : Option pV → pH → Prop, (WP 26 (27, [(6, a0), (0, a1), (0, a2), (0, h (a0 + 15) a1)], [], s_X4_stop_3 a0 a1 a2 h) Q') → WP 26 (14, [(6, a0), (0, a1), (0, a2), (0, h (a0 + 15) a1)], [(0, (-1)), (0, h (a0 + 15) a1)], pm_upd h (a0 + 16) a1 0) Q' := fun Q' kk => by
    have q5 := q7
    refine WP.ni_eq rfl (fun c3 => ?_) (fun c3 => ?_)
    · have e := kk; simp only [s_X4_stop_3, if_pos c3] at e ⊢; exact e
    · have o4 := q5 c3
      refine WP.aload_n rfl rfl ⟨by decide, by decide⟩ ?_
      refine WP.getR rfl rfl ?_
      refine WP.getRF (b := a0 + 34) rfl rfl (fx_ad rfl) ?_
      refine WP.iload_n rfl rfl ?_
      refine WP.iload_n rfl rfl ?_
      refine WP.iastore rfl ⟨by decide, by decide, by decide⟩ o4 ?_
      show WP 26 (21, [(6, a0), (0, a1), (0, a2), (0, h (a0 + 15) a1)], [], s_X4_stop_1 a0 a1 a2 h) Q'
      refine WP.aload_n rfl rfl ⟨by decide, by decide⟩ ?_
      refine WP.getR rfl rfl ?_
      refine WP.getRF (b := a0 + 35) rfl rfl (fx_ad rfl) ?_
      refine WP.iload_n rfl rfl ?_
      refine WP.iconst rfl ?_
      refine WP.iastore rfl ⟨by decide, by decide, by decide⟩ o4 ?_
      show WP 26 (27, [(6, a0), (0, a1), (0, a2), (0, h (a0 + 15) a1)], [], s_X4_stop_2 a0 a1 a2 h) Q'
      have e := kk; simp only [s_X4_stop_3, if_neg (c3)] at e ⊢; exact e
  refine k2 _ ?_
  refine WP.retv rfl ?_; exact kk
theorem c_X4_stop (a0 : Int) (a1 : Int) (a2 : Int) (h : pH) (hp : P_X4_stop a0 a1 a2 h) : CP 26 [(6, a0), (0, a1), (0, a2)] h (fun r h1 => r = none ∧ h1 = H_X4_stop a0 a1 a2 h) := w_X4_stop a0 a1 a2 h hp ⟨rfl, rfl⟩
noncomputable def s_X5_copyFrom_1 (a0 : Int) (a1 : Int) (h : pH) : pH := pm_cpy (pm_cpy h (a1 + 1) 0 (a0 + 1) 0 10) (a1 + 2) 0 (a0 + 2) 0 10
noncomputable def s_X5_copyFrom_2 (a0 : Int) (a1 : Int) (h : pH) : pH := pm_upd (s_X5_copyFrom_1 a0 a1 h) a0 0 ((s_X5_copyFrom_1 a0 a1 h) a1 0)
noncomputable def s_X5_copyFrom_3 (a0 : Int) (a1 : Int) (h : pH) : pH := pm_upd (s_X5_copyFrom_2 a0 a1 h) a0 1 ((s_X5_copyFrom_2 a0 a1 h) a1 1)
noncomputable def s_X5_copyFrom_4 (a0 : Int) (a1 : Int) (h : pH) : pH := pm_upd (s_X5_copyFrom_3 a0 a1 h) a0 2 ((s_X5_copyFrom_3 a0 a1 h) a1 2)
noncomputable def s_X5_copyFrom_5 (a0 : Int) (a1 : Int) (h : pH) : pH := pm_upd (s_X5_copyFrom_4 a0 a1 h) a0 3 ((s_X5_copyFrom_4 a0 a1 h) a1 3)
noncomputable def H_X5_copyFrom (a0 : Int) (a1 : Int) (h : pH) : pH := s_X5_copyFrom_5 a0 a1 h
set_option maxHeartbeats 4000000 in
theorem w_X5_copyFrom (a0 : Int) (a1 : Int) (h : pH) {Q : Option pV → pH → Prop} (kk : Q (none) (H_X5_copyFrom a0 a1 h)) : WP 32 (0, [(7, a0), (7, a1)], [], h) Q := by
  refine WP.aload_n rfl rfl ⟨by decide, by decide⟩ ?_
  refine WP.getR rfl rfl ?_
  refine WP.iconst rfl ?_
  refine WP.aload_n rfl rfl ⟨by decide, by decide⟩ ?_
  refine WP.getR rfl rfl ?_
  refine WP.iconst rfl ?_
  refine WP.bipush rfl ?_
  refine WP.acopy rfl rfl ⟨by decide, by decide, by decide⟩ ⟨by decide, by decide, by decide⟩ (by decide) ?_
  refine WP.aload_n rfl rfl ⟨by decide, by decide⟩ ?_
  refine WP.getR rfl rfl ?_
  refine WP.iconst rfl ?_
  refine WP.aload_n rfl rfl ⟨by decide, by decide⟩ ?_
  refine WP.getR rfl rfl ?_
  refine WP.iconst rfl ?_
  refine WP.bipush rfl ?_
  refine WP.acopy rfl rfl ⟨by decide, by decide, by decide⟩ ⟨by decide, by decide, by decide⟩ (by decide) ?_
  show WP 32 (16, [(7, a0), (7, a1)], [], s_X5_copyFrom_1 a0 a1 h) Q
  refine WP.aload_n rfl rfl ⟨by decide, by decide⟩ ?_
  refine WP.aload_n rfl rfl ⟨by decide, by decide⟩ ?_
  refine WP.getI rfl rfl ?_
  refine WP.putI rfl rfl ?_
  show WP 32 (20, [(7, a0), (7, a1)], [], s_X5_copyFrom_2 a0 a1 h) Q
  refine WP.aload_n rfl rfl ⟨by decide, by decide⟩ ?_
  refine WP.aload_n rfl rfl ⟨by decide, by decide⟩ ?_
  refine WP.getI rfl rfl ?_
  refine WP.putI rfl rfl ?_
  show WP 32 (24, [(7, a0), (7, a1)], [], s_X5_copyFrom_3 a0 a1 h) Q
  refine WP.aload_n rfl rfl ⟨by decide, by decide⟩ ?_
  refine WP.aload_n rfl rfl ⟨by decide, by decide⟩ ?_
  refine WP.getI rfl rfl ?_
  refine WP.putI rfl rfl ?_
  show WP 32 (28, [(7, a0), (7, a1)], [], s_X5_copyFrom_4 a0 a1 h) Q
  refine WP.aload_n rfl rfl ⟨by decide, by decide⟩ ?_
  refine WP.aload_n rfl rfl ⟨by decide, by decide⟩ ?_
  refine WP.getI rfl rfl ?_
  refine WP.putI rfl rfl ?_
  show WP 32 (32, [(7, a0), (7, a1)], [], s_X5_copyFrom_5 a0 a1 h) Q
  refine WP.retv rfl ?_; exact kk
theorem c_X5_copyFrom (a0 : Int) (a1 : Int) (h : pH) : CP 32 [(7, a0), (7, a1)] h (fun r h1 => r = none ∧ h1 = H_X5_copyFrom a0 a1 h) := w_X5_copyFrom a0 a1 h ⟨rfl, rfl⟩
noncomputable def s_X6_copyFrom_1 (a0 : Int) (a1 : Int) (h : pH) : pH := pm_cpy (pm_cpy h (a1 + 1) 0 (a0 + 1) 0 10) (a1 + 2) 0 (a0 + 2) 0 10
noncomputable def s_X6_copyFrom_2 (a0 : Int) (a1 : Int) (h : pH) : pH := pm_cpy (pm_cpy (s_X6_copyFrom_1 a0 a1 h) (a1 + 3) 0 (a0 + 3) 0 10) (a1 + 4) 0 (a0 + 4) 0 10
noncomputable def s_X6_copyFrom_3 (a0 : Int) (a1 : Int) (h : pH) : pH := pm_cpy (pm_cpy (s_X6_copyFrom_2 a0 a1 h) (a1 + 5) 0 (a0 + 5) 0 10) (a1 + 6) 0 (a0 + 6) 0 10
noncomputable def s_X6_copyFrom_4 (a0 : Int) (a1 : Int) (h : pH) : pH := pm_cpy (pm_cpy (s_X6_copyFrom_3 a0 a1 h) (a1 + 7) 0 (a0 + 7) 0 10) (a1 + 8) 0 (a0 + 8) 0 10
noncomputable def s_X6_copyFrom_5 (a0 : Int) (a1 : Int) (h : pH) : pH := pm_upd (pm_cpy (s_X6_copyFrom_4 a0 a1 h) (a1 + 9) 0 (a0 + 9) 0 10) a0 10 ((pm_cpy (s_X6_copyFrom_4 a0 a1 h) (a1 + 9) 0 (a0 + 9) 0 10) a1 10)
noncomputable def H_X6_copyFrom (a0 : Int) (a1 : Int) (h : pH) : pH := s_X6_copyFrom_5 a0 a1 h
set_option maxHeartbeats 4000000 in
theorem w_X6_copyFrom (a0 : Int) (a1 : Int) (h : pH) {Q : Option pV → pH → Prop} (kk : Q (none) (H_X6_copyFrom a0 a1 h)) : WP 34 (0, [(8, a0), (8, a1)], [], h) Q := by
  refine WP.aload_n rfl rfl ⟨by decide, by decide⟩ ?_
  refine WP.getR rfl rfl ?_
  refine WP.iconst rfl ?_
  refine WP.aload_n rfl rfl ⟨by decide, by decide⟩ ?_
  refine WP.getR rfl rfl ?_
  refine WP.iconst rfl ?_
  refine WP.bipush rfl ?_
  refine WP.acopy rfl rfl ⟨by decide, by decide, by decide⟩ ⟨by decide, by decide, by decide⟩ (by decide) ?_
  refine WP.aload_n rfl rfl ⟨by decide, by decide⟩ ?_
  refine WP.getR rfl rfl ?_
  refine WP.iconst rfl ?_
  refine WP.aload_n rfl rfl ⟨by decide, by decide⟩ ?_
  refine WP.getR rfl rfl ?_
  refine WP.iconst rfl ?_
  refine WP.bipush rfl ?_
  refine WP.acopy rfl rfl ⟨by decide, by decide, by decide⟩ ⟨by decide, by decide, by decide⟩ (by decide) ?_
  show WP 34 (16, [(8, a0), (8, a1)], [], s_X6_copyFrom_1 a0 a1 h) Q
  refine WP.aload_n rfl rfl ⟨by decide, by decide⟩ ?_
  refine WP.getR rfl rfl ?_
  refine WP.iconst rfl ?_
  refine WP.aload_n rfl rfl ⟨by decide, by decide⟩ ?_
  refine WP.getR rfl rfl ?_
  refine WP.iconst rfl ?_
  refine WP.bipush rfl ?_
  refine WP.acopy rfl rfl ⟨by decide, by decide, by decide⟩ ⟨by decide, by decide, by decide⟩ (by decide) ?_
  refine WP.aload_n rfl rfl ⟨by decide, by decide⟩ ?_
  refine WP.getR rfl rfl ?_
  refine WP.iconst rfl ?_
  refine WP.aload_n rfl rfl ⟨by decide, by decide⟩ ?_
  refine WP.getR rfl rfl ?_
  refine WP.iconst rfl ?_
  refine WP.bipush rfl ?_
  refine WP.acopy rfl rfl ⟨by decide, by decide, by decide⟩ ⟨by decide, by decide, by decide⟩ (by decide) ?_
  show WP 34 (32, [(8, a0), (8, a1)], [], s_X6_copyFrom_2 a0 a1 h) Q
  refine WP.aload_n rfl rfl ⟨by decide, by decide⟩ ?_
  refine WP.getR rfl rfl ?_
  refine WP.iconst rfl ?_
  refine WP.aload_n rfl rfl ⟨by decide, by decide⟩ ?_
  refine WP.getR rfl rfl ?_
  refine WP.iconst rfl ?_
  refine WP.bipush rfl ?_
  refine WP.acopy rfl rfl ⟨by decide, by decide, by decide⟩ ⟨by decide, by decide, by decide⟩ (by decide) ?_
  refine WP.aload_n rfl rfl ⟨by decide, by decide⟩ ?_
  refine WP.getR rfl rfl ?_
  refine WP.iconst rfl ?_
  refine WP.aload_n rfl rfl ⟨by decide, by decide⟩ ?_
  refine WP.getR rfl rfl ?_
  refine WP.iconst rfl ?_
  refine WP.bipush rfl ?_
  refine WP.acopy rfl rfl ⟨by decide, by decide, by decide⟩ ⟨by decide, by decide, by decide⟩ (by decide) ?_
  show WP 34 (48, [(8, a0), (8, a1)], [], s_X6_copyFrom_3 a0 a1 h) Q
  refine WP.aload_n rfl rfl ⟨by decide, by decide⟩ ?_
  refine WP.getR rfl rfl ?_
  refine WP.iconst rfl ?_
  refine WP.aload_n rfl rfl ⟨by decide, by decide⟩ ?_
  refine WP.getR rfl rfl ?_
  refine WP.iconst rfl ?_
  refine WP.bipush rfl ?_
  refine WP.acopy rfl rfl ⟨by decide, by decide, by decide⟩ ⟨by decide, by decide, by decide⟩ (by decide) ?_
  refine WP.aload_n rfl rfl ⟨by decide, by decide⟩ ?_
  refine WP.getR rfl rfl ?_
  refine WP.iconst rfl ?_
  refine WP.aload_n rfl rfl ⟨by decide, by decide⟩ ?_
  refine WP.getR rfl rfl ?_
  refine WP.iconst rfl ?_
  refine WP.bipush rfl ?_
  refine WP.acopy rfl rfl ⟨by decide, by decide, by decide⟩ ⟨by decide, by decide, by decide⟩ (by decide) ?_
  show WP 34 (64, [(8, a0), (8, a1)], [], s_X6_copyFrom_4 a0 a1 h) Q
  refine WP.aload_n rfl rfl ⟨by decide, by decide⟩ ?_
  refine WP.getR rfl rfl ?_
  refine WP.iconst rfl ?_
  refine WP.aload_n rfl rfl ⟨by decide, by decide⟩ ?_
  refine WP.getR rfl rfl ?_
  refine WP.iconst rfl ?_
  refine WP.bipush rfl ?_
  refine WP.acopy rfl rfl ⟨by decide, by decide, by decide⟩ ⟨by decide, by decide, by decide⟩ (by decide) ?_
  refine WP.aload_n rfl rfl ⟨by decide, by decide⟩ ?_
  refine WP.aload_n rfl rfl ⟨by decide, by decide⟩ ?_
  refine WP.getI rfl rfl ?_
  refine WP.putI rfl rfl ?_
  show WP 34 (76, [(8, a0), (8, a1)], [], s_X6_copyFrom_5 a0 a1 h) Q
  refine WP.retv rfl ?_; exact kk
theorem c_X6_copyFrom (a0 : Int) (a1 : Int) (h : pH) : CP 34 [(8, a0), (8, a1)] h (fun r h1 => r = none ∧ h1 = H_X6_copyFrom a0 a1 h) := w_X6_copyFrom a0 a1 h ⟨rfl, rfl⟩
noncomputable def s_X6_add_1 (a0 : Int) (a1 : Int) (a2 : Int) (h : pH) : pH := pm_upd (pm_upd h (a0 + 1) (h a0 10) a1) (a0 + 2) ((pm_upd h (a0 + 1) (h a0 10) a1) a0 10) a2
noncomputable def s_X6_add_2 (a0 : Int) (a1 : Int) (a2 : Int) (a3 : Int) (h : pH) : pH := pm_upd (s_X6_add_1 a0 a1 a2 h) (a0 + 3) ((s_X6_add_1 a0 a1 a2 h) a0 10) a3
noncomputable def s_X6_add_3 (a0 : Int) (a1 : Int) (a2 : Int) (a3 : Int) (a4 : Int) (h : pH) : pH := pm_upd (s_X6_add_2 a0 a1 a2 a3 h) (a0 + 4) ((s_X6_add_2 a0 a1 a2 a3 h) a0 10) a4
noncomputable def s_X6_add_4 (a0 : Int) (a1 : Int) (a2 : Int) (a3 : Int) (a4 : Int) (a5 : Int) (h : pH) : pH := pm_upd (s_X6_add_3 a0 a1 a2 a3 a4 h) (a0 + 5) ((s_X6_add_3 a0 a1 a2 a3 a4 h) a0 10) a5
noncomputable def s_X6_add_5 (a0 : Int) (a1 : Int) (a2 : Int) (a3 : Int) (a4 : Int) (a5 : Int) (h : pH) : pH := pm_upd (s_X6_add_4 a0 a1 a2 a3 a4 a5 h) (a0 + 6) ((s_X6_add_4 a0 a1 a2 a3 a4 a5 h) a0 10) 0
noncomputable def s_X6_add_6 (a0 : Int) (a1 : Int) (a2 : Int) (a3 : Int) (a4 : Int) (a5 : Int) (h : pH) : pH := pm_upd (s_X6_add_5 a0 a1 a2 a3 a4 a5 h) (a0 + 7) ((s_X6_add_5 a0 a1 a2 a3 a4 a5 h) a0 10) 0
noncomputable def s_X6_add_7 (a0 : Int) (a1 : Int) (a2 : Int) (a3 : Int) (a4 : Int) (a5 : Int) (h : pH) : pH := pm_upd (s_X6_add_6 a0 a1 a2 a3 a4 a5 h) (a0 + 8) ((s_X6_add_6 a0 a1 a2 a3 a4 a5 h) a0 10) (-1)
noncomputable def s_X6_add_8 (a0 : Int) (a1 : Int) (a2 : Int) (a3 : Int) (a4 : Int) (a5 : Int) (h : pH) : pH := pm_upd (s_X6_add_7 a0 a1 a2 a3 a4 a5 h) (a0 + 9) ((s_X6_add_7 a0 a1 a2 a3 a4 a5 h) a0 10) 0
noncomputable def s_X6_add_9 (a0 : Int) (a1 : Int) (a2 : Int) (a3 : Int) (a4 : Int) (a5 : Int) (h : pH) : pH := pm_upd (s_X6_add_8 a0 a1 a2 a3 a4 a5 h) a0 10 (((s_X6_add_8 a0 a1 a2 a3 a4 a5 h) a0 10) + 1)
noncomputable def F_X6_add (a0 : Int) (a1 : Int) (a2 : Int) (a3 : Int) (a4 : Int) (a5 : Int) (h : pH) : Int := if h a0 10 < 10 then ((s_X6_add_9 a0 a1 a2 a3 a4 a5 h) a0 10) - 1 else (-4)
noncomputable def H_X6_add (a0 : Int) (a1 : Int) (a2 : Int) (a3 : Int) (a4 : Int) (a5 : Int) (h : pH) : pH := if h a0 10 < 10 then s_X6_add_9 a0 a1 a2 a3 a4 a5 h else h
noncomputable def P_X6_add (a0 : Int) (a1 : Int) (a2 : Int) (a3 : Int) (a4 : Int) (a5 : Int) (h : pH) : Prop := ((h a0 10 < 10) → ((0 ≤ h a0 10 ∧ h a0 10 < 10) ∧ (0 ≤ (pm_upd h (a0 + 1) (h a0 10) a1) a0 10 ∧ (pm_upd h (a0 + 1) (h a0 10) a1) a0 10 < 10) ∧ (0 ≤ (s_X6_add_1 a0 a1 a2 h) a0 10 ∧ (s_X6_add_1 a0 a1 a2 h) a0 10 < 10) ∧ (0 ≤ (s_X6_add_2 a0 a1 a2 a3 h) a0 10 ∧ (s_X6_add_2 a0 a1 a2 a3 h) a0 10 < 10) ∧ (0 ≤ (s_X6_add_3 a0 a1 a2 a3 a4 h) a0 10 ∧ (s_X6_add_3 a0 a1 a2 a3 a4 h) a0 10 < 10) ∧ (0 ≤ (s_X6_add_4 a0 a1 a2 a3 a4 a5 h) a0 10 ∧ (s_X6_add_4 a0 a1 a2 a3 a4 a5 h) a0 10 < 10) ∧ (0 ≤ (s_X6_add_5 a0 a1 a2 a3 a4 a5 h) a0 10 ∧ (s_X6_add_5 a0 a1 a2 a3 a4 a5 h) a0 10 < 10) ∧ (0 ≤ (s_X6_add_6 a0 a1 a2 a3 a4 a5 h) a0 10 ∧ (s_X6_add_6 a0 a1 a2 a3 a4 a5 h) a0 10 < 10) ∧ (0 ≤ (s_X6_add_7 a0 a1 a2 a3 a4 a5 h) a0 10 ∧ (s_X6_add_7 a0 a1 a2 a3 a4 a5 h) a0 10 < 10) ∧ (fx_i (((s_X6_add_8 a0 a1 a2 a3 a4 a5 h) a0 10) + 1)) ∧ (fx_i (((s_X6_add_9 a0 a1 a2 a3 a4 a5 h) a0 10) - 1))))
set_option maxHeartbeats 4000000 in
theorem w_X6_add (a0 : Int) (a1 : Int) (a2 : Int) (a3 : Int) (a4 : Int) (a5 : Int) (h : pH) {Q : Option pV → pH → Prop} (hp : P_X6_add a0 a1 a2 a3 a4 a5 h) (kk : Q (some (0, F_X6_add a0 a1 a2 a3 a4 a5 h)) (H_X6_add a0 a1 a2 a3 a4 a5 h)) : WP 35 (0, [(8, a0), (0, a1), (0, a2), (0, a3), (0, a4), (0, a5)], [], h) Q := by
  unfold P_X6_add at hp
  have q13 := hp
  refine WP.aload_n rfl rfl ⟨by decide, by decide⟩ ?_
  refine WP.getI rfl rfl ?_
  refine WP.bipush rfl ?_
  refine WP.ni_lt rfl (fun c1 => ?_) (fun c1 => ?_)
  · obtain ⟨o2, o3, o4, o5, o6, o7, o8, o9, o10, o11, o12⟩ := q13 c1
    refine WP.aload_n rfl rfl ⟨by decide, by decide⟩ ?_
    refine WP.getR rfl rfl ?_
    refine WP.aload_n rfl rfl ⟨by decide, by decide⟩ ?_
    refine WP.getI rfl rfl ?_
    refine WP.iload_n rfl rfl ?_
    refine WP.iastore rfl ⟨by decide, by decide, by decide⟩ o2 ?_
    refine WP.aload_n rfl rfl ⟨by decide, by decide⟩ ?_
    refine WP.getR rfl rfl ?_
    refine WP.aload_n rfl rfl ⟨by decide, by decide⟩ ?_
    refine WP.getI rfl rfl ?_
    refine WP.iload_n rfl rfl ?_
    refine WP.iastore rfl ⟨by decide, by decide, by decide⟩ o3 ?_
    show WP 35 (18, [(8, a0), (0, a1), (0, a2), (0, a3), (0, a4), (0, a5)], [], s_X6_add_1 a0 a1 a2 h) Q
    refine WP.aload_n rfl rfl ⟨by decide, by decide⟩ ?_
    refine WP.getR rfl rfl ?_
    refine WP.aload_n rfl rfl ⟨by decide, by decide⟩ ?_
    refine WP.getI rfl rfl ?_
    refine WP.iload_n rfl rfl ?_
    refine WP.iastore rfl ⟨by decide, by decide, by decide⟩ o4 ?_
    show WP 35 (24, [(8, a0), (0, a1), (0, a2), (0, a3), (0, a4), (0, a5)], [], s_X6_add_2 a0 a1 a2 a3 h) Q
    refine WP.aload_n rfl rfl ⟨by decide, by decide⟩ ?_
    refine WP.getR rfl rfl ?_
    refine WP.aload_n rfl rfl ⟨by decide, by decide⟩ ?_
    refine WP.getI rfl rfl ?_
    refine WP.iload rfl rfl ?_
    refine WP.iastore rfl ⟨by decide, by decide, by decide⟩ o5 ?_
    show WP 35 (30, [(8, a0), (0, a1), (0, a2), (0, a3), (0, a4), (0, a5)], [], s_X6_add_3 a0 a1 a2 a3 a4 h) Q
    refine WP.aload_n rfl rfl ⟨by decide, by decide⟩ ?_
    refine WP.getR rfl rfl ?_
    refine WP.aload_n rfl rfl ⟨by decide, by decide⟩ ?_
    refine WP.getI rfl rfl ?_
    refine WP.iload rfl rfl ?_
    refine WP.iastore rfl ⟨by decide, by decide, by decide⟩ o6 ?_
    show WP 35 (36, [(8, a0), (0, a1), (0, a2), (0, a3), (0, a4), (0, a5)], [], s_X6_add_4 a0 a1 a2 a3 a4 a5 h) Q
    refine WP.aload_n rfl rfl ⟨by decide, by decide⟩ ?_
    refine WP.getR rfl rfl ?_
    refine WP.aload_n rfl rfl ⟨by decide, by decide⟩ ?_
    refine WP.getI rfl rfl ?_
    refine WP.iconst rfl ?_
    refine WP.iastore rfl ⟨by decide, by decide, by decide⟩ o7 ?_
    show WP 35 (42, [(8, a0), (0, a1), (0, a2), (0, a3), (0, a4), (0, a5)], [], s_X6_add_5 a0 a1 a2 a3 a4 a5 h) Q
    refine WP.aload_n rfl rfl ⟨by decide, by decide⟩ ?_
    refine WP.getR rfl rfl ?_
    refine WP.aload_n rfl rfl ⟨by decide, by decide⟩ ?_
    refine WP.getI rfl rfl ?_
    refine WP.iconst rfl ?_
    refine WP.iastore rfl ⟨by decide, by decide, by decide⟩ o8 ?_
    show WP 35 (48, [(8, a0), (0, a1), (0, a2), (0, a3), (0, a4), (0, a5)], [], s_X6_add_6 a0 a1 a2 a3 a4 a5 h) Q
    refine WP.aload_n rfl rfl ⟨by decide, by decide⟩ ?_
    refine WP.getR rfl rfl ?_
    refine WP.aload_n rfl rfl ⟨by decide, by decide⟩ ?_
    refine WP.getI rfl rfl ?_
    refine WP.iconst rfl ?_
    refine WP.iastore rfl ⟨by decide, by decide, by decide⟩ o9 ?_
    show WP 35 (54, [(8, a0), (0, a1), (0, a2), (0, a3), (0, a4), (0, a5)], [], s_X6_add_7 a0 a1 a2 a3 a4 a5 h) Q
    refine WP.aload_n rfl rfl ⟨by decide, by decide⟩ ?_
    refine WP.getR rfl rfl ?_
    refine WP.aload_n rfl rfl ⟨by decide, by decide⟩ ?_
    refine WP.getI rfl rfl ?_
    refine WP.iconst rfl ?_
    refine WP.iastore rfl ⟨by decide, by decide, by decide⟩ o10 ?_
    show WP 35 (60, [(8, a0), (0, a1), (0, a2), (0, a3), (0, a4), (0, a5)], [], s_X6_add_8 a0 a1 a2 a3 a4 a5 h) Q
    refine WP.aload_n rfl rfl ⟨by decide, by decide⟩ ?_
    refine WP.dup rfl (by decide) ?_
    refine WP.getI rfl rfl ?_
    refine WP.iconst rfl ?_
    refine WP.iaddE rfl o11 ?_
    refine WP.putI rfl rfl ?_
    show WP 35 (66, [(8, a0), (0, a1), (0, a2), (0, a3), (0, a4), (0, a5)], [], s_X6_add_9 a0 a1 a2 a3 a4 a5 h) Q
    refine WP.aload_n rfl rfl ⟨by decide, by decide⟩ ?_
    refine WP.getI rfl rfl ?_
    refine WP.iconst rfl ?_
    refine WP.isubE rfl o12 ?_
    refine WP.reti rfl ?_; have e := kk; simp only [F_X6_add, H_X6_add, if_pos c1] at e ⊢; exact e
  · refine WP.bipush rfl ?_
    refine WP.reti rfl ?_; have e := kk; simp only [F_X6_add, H_X6_add, if_neg (Int.not_lt.mpr c1)] at e ⊢; exact e
theorem c_X6_add (a0 : Int) (a1 : Int) (a2 : Int) (a3 : Int) (a4 : Int) (a5 : Int) (h : pH) (hp : P_X6_add a0 a1 a2 a3 a4 a5 h) : CP 35 [(8, a0), (0, a1), (0, a2), (0, a3), (0, a4), (0, a5)] h (fun r h1 => r = some (0, F_X6_add a0 a1 a2 a3 a4 a5 h) ∧ h1 = H_X6_add a0 a1 a2 a3 a4 a5 h) := w_X6_add a0 a1 a2 a3 a4 a5 h hp ⟨rfl, rfl⟩
def C_X6_countFailed_4 (a0 : Int) (h : pH) (x1 : Int) (x2 : Int) : Prop := x2 < h a0 10
noncomputable def B_X6_countFailed_4 (a0 : Int) (h : pH) (x1 : Int) (x2 : Int) : Int × Int := (x1 + (h (a0 + 7) x2), x2 + 1)
noncomputable def P_X6_countFailed_4 (a0 : Int) (h : pH) (x1 : Int) (x2 : Int) : Prop := ((x2 < h a0 10) → (0 ≤ x2 ∧ x2 < 10) ∧ (fx_i (x1 + (h (a0 + 7) x2))) ∧ (fx_i (x2 + 1)))
noncomputable def L_X6_countFailed_4 (a0 : Int) (h : pH) (x1 : Int) (x2 : Int) : Int × Int := fx_wh (σ := Int × Int) (fun s => C_X6_countFailed_4 a0 h s.1 s.2) (fun s => B_X6_countFailed_4 a0 h s.1 s.2) (x1, x2)
def O_X6_countFailed_4 (a0 : Int) (h : pH) (x1 : Int) (x2 : Int) : Prop := fx_ok (σ := Int × Int) (fun s => C_X6_countFailed_4 a0 h s.1 s.2) (fun s => B_X6_countFailed_4 a0 h s.1 s.2) (fun s => P_X6_countFailed_4 a0 h s.1 s.2) (x1, x2)
set_option maxHeartbeats 4000000 in
theorem lp_X6_countFailed_4 (a0 : Int) (h : pH) (x1 : Int) (x2 : Int) {Q : Option pV → pH → Prop} (hp : O_X6_countFailed_4 a0 h x1 x2) (kk : ∀ us : List pV, WP 38 (17, [(8, a0), (0, (L_X6_countFailed_4 a0 h x1 x2).1), (0, (L_X6_countFailed_4 a0 h x1 x2).2)], [], h) Q) : ∀ us : List pV, WP 38 (4, [(8, a0), (0, x1), (0, x2)], [], h) Q := by
  refine WP.wh (σ := Int × Int) (fun s => C_X6_countFailed_4 a0 h s.1 s.2) (fun s => B_X6_countFailed_4 a0 h s.1 s.2) (fun s => P_X6_countFailed_4 a0 h s.1 s.2) (fun s us => (4, [(8, a0), (0, s.1), (0, s.2)], [], h)) (x1, x2) hp ?_ ?_
  · intro s us hP hc kk
    obtain ⟨x1, x2⟩ := s
    change P_X6_countFailed_4 a0 h x1 x2 at hP
    change x2 < h a0 10 at hc
    replace kk : ∀ (us' : List pV) (s' : Int × Int), s' = B_X6_countFailed_4 a0 h x1 x2 → WP 38 (4, [(8, a0), (0, s'.1), (0, s'.2)], [], h) Q := fun us' s' e => by subst e; exact kk us'
    unfold P_X6_countFailed_4 at hP
    obtain ⟨o3, o4, o5⟩ := hP hc
    show WP 38 (4, [(8, a0), (0, x1), (0, x2)], [], h) Q
    refine WP.iload_n rfl rfl ?_
    refine WP.aload_n rfl rfl ⟨by decide, by decide⟩ ?_
    refine WP.getI rfl rfl ?_
    refine WP.ni_ge rfl (fun c2 => ?_) (fun c2 => ?_)
    · exact absurd hc (Int.not_lt.mpr c2)
    · refine WP.iload_n rfl rfl ?_
      refine WP.aload_n rfl rfl ⟨by decide, by decide⟩ ?_
      refine WP.getR rfl rfl ?_
      refine WP.iload_n rfl rfl ?_
      refine WP.iaload rfl ⟨by decide, by decide, by decide⟩ o3 ?_
      refine WP.iaddE rfl o4 ?_
      refine WP.istore_n (L' := [(8, a0), (0, x1 + (h (a0 + 7) x2)), (0, x2)]) rfl rfl ?_
      refine WP.iincE (L' := [(8, a0), (0, x1 + (h (a0 + 7) x2)), (0, x2 + 1)]) rfl rfl o5 rfl ?_
      refine WP.goto rfl ?_
      exact kk [] (x1 + (h (a0 + 7) x2), x2 + 1) (rfl)
  · intro hP hc
    generalize hs : (L_X6_countFailed_4 a0 h x1 x2 : Int × Int) = s at kk
    change P_X6_countFailed_4 a0 h (L_X6_countFailed_4 a0 h x1 x2).1 (L_X6_countFailed_4 a0 h x1 x2).2 at hP
    change ¬ C_X6_countFailed_4 a0 h (L_X6_countFailed_4 a0 h x1 x2).1 (L_X6_countFailed_4 a0 h x1 x2).2 at hc
    intro us
    show WP 38 (4, [(8, a0), (0, (L_X6_countFailed_4 a0 h x1 x2).1), (0, (L_X6_countFailed_4 a0 h x1 x2).2)], [], h) Q
    rw [hs] at hP hc ⊢
    obtain ⟨x1, x2⟩ := s
    change P_X6_countFailed_4 a0 h x1 x2 at hP
    change ¬ (x2 < h a0 10) at hc
    unfold P_X6_countFailed_4 at hP
    show WP 38 (4, [(8, a0), (0, x1), (0, x2)], [], h) Q
    refine WP.iload_n rfl rfl ?_
    refine WP.aload_n rfl rfl ⟨by decide, by decide⟩ ?_
    refine WP.getI rfl rfl ?_
    refine WP.ni_ge rfl (fun c1 => ?_) (fun c1 => ?_)
    · exact kk []
    · exact absurd (show x2 < h a0 10 from c1) hc
noncomputable def s_X6_countFailed_1 (a0 : Int) (h : pH) : Int := (L_X6_countFailed_4 a0 h 0 0).1
noncomputable def s_X6_countFailed_2 (a0 : Int) (h : pH) : Int := (L_X6_countFailed_4 a0 h 0 0).2
noncomputable def F_X6_countFailed (a0 : Int) (h : pH) : Int := s_X6_countFailed_1 a0 h
noncomputable def P_X6_countFailed (a0 : Int) (h : pH) : Prop := O_X6_countFailed_4 a0 h 0 0
set_option maxHeartbeats 4000000 in
theorem w_X6_countFailed (a0 : Int) (h : pH) {Q : Option pV → pH → Prop} (hp : P_X6_countFailed a0 h) (kk : Q (some (0, F_X6_countFailed a0 h)) (h)) : WP 38 (0, [(8, a0), pU, pU], [], h) Q := by
  unfold P_X6_countFailed at hp
  have o6 := hp
  refine WP.iconst rfl ?_
  refine WP.istore_n (L' := [(8, a0), (0, 0), pU]) rfl rfl ?_
  refine WP.iconst rfl ?_
  refine WP.istore_n (L' := [(8, a0), (0, 0), (0, 0)]) rfl rfl ?_
  refine lp_X6_countFailed_4 a0 h 0 0 o6 (fun us7 => ?_) []
  show WP 38 (17, [(8, a0), (0, s_X6_countFailed_1 a0 h), (0, s_X6_countFailed_2 a0 h)], [], h) Q
  refine WP.iload_n rfl rfl ?_
  refine WP.reti rfl ?_; exact kk
theorem c_X6_countFailed (a0 : Int) (h : pH) (hp : P_X6_countFailed a0 h) : CP 38 [(8, a0)] h (fun r h1 => r = some (0, F_X6_countFailed a0 h) ∧ h1 = h) := w_X6_countFailed a0 h hp ⟨rfl, rfl⟩
noncomputable def F_X6_isFit (a0 : Int) (a1 : Int) (h : pH) : Int := if h (a0 + 6) a1 = 0 ∧ h (a0 + 7) a1 = 0 then 1 else 0
noncomputable def P_X6_isFit (a0 : Int) (a1 : Int) (h : pH) : Prop := (0 ≤ a1 ∧ a1 < 10)
set_option maxHeartbeats 4000000 in
theorem w_X6_isFit (a0 : Int) (a1 : Int) (h : pH) {Q : Option pV → pH → Prop} (hp : P_X6_isFit a0 a1 h) (kk : Q (some (0, F_X6_isFit a0 a1 h)) (h)) : WP 39 (0, [(8, a0), (0, a1)], [], h) Q := by
  unfold P_X6_isFit at hp
  have o1 := hp
  refine WP.aload_n rfl rfl ⟨by decide, by decide⟩ ?_
  refine WP.getR rfl rfl ?_
  refine WP.iload_n rfl rfl ?_
  refine WP.iaload rfl ⟨by decide, by decide, by decide⟩ o1 ?_
  have k2 : ∀ Q' : Option pV → pH → Prop, (WP 39 (13, [(8, a0), (0, a1)], [(0, if h (a0 + 6) a1 = 0 ∧ h (a0 + 7) a1 = 0 then 1 else 0)], h) Q') → WP 39 (4, [(8, a0), (0, a1)], [(0, h (a0 + 6) a1)], h) Q' := fun Q' kk => by
    refine WP.nz_ne rfl (fun c3 => ?_) (fun c3 => ?_)
    · refine WP.iconst rfl ?_
      have e := kk; simp only [if_neg (c3), if_neg (show ¬ (h (a0 + 6) a1 = 0 ∧ h (a0 + 7) a1 = 0) from fun q => (c3) q.1)] at e ⊢; exact e
    · refine WP.aload_n rfl rfl ⟨by decide, by decide⟩ ?_
      refine WP.getR rfl rfl ?_
      refine WP.iload_n rfl rfl ?_
      refine WP.iaload rfl ⟨by decide, by decide, by decide⟩ o1 ?_
      refine WP.nz_ne rfl (fun c4 => ?_) (fun c4 => ?_)
      · refine WP.iconst rfl ?_
        have e := kk; simp only [if_pos c3, if_neg (c4), if_neg (show ¬ (h (a0 + 6) a1 = 0 ∧ h (a0 + 7) a1 = 0) from fun q => (c4) q.2)] at e ⊢; exact e
      · refine WP.iconst rfl ?_
        refine WP.goto rfl ?_
        have e := kk; simp only [if_pos c3, if_pos c4, if_pos (show h (a0 + 6) a1 = 0 ∧ h (a0 + 7) a1 = 0 from ⟨c3, c4⟩)] at e ⊢; exact e
  refine k2 _ ?_
  refine WP.retz rfl (fx_01 _) ?_; exact kk
theorem c_X6_isFit (a0 : Int) (a1 : Int) (h : pH) (hp : P_X6_isFit a0 a1 h) : CP 39 [(8, a0), (0, a1)] h (fun r h1 => r = some (0, F_X6_isFit a0 a1 h) ∧ h1 = h) := w_X6_isFit a0 a1 h hp ⟨rfl, rfl⟩
noncomputable def F_X6_drawOf (a0 : Int) (a1 : Int) (h : pH) : Int := (h (a0 + 9) a1) * (h (a0 + 3) a1)
noncomputable def P_X6_drawOf (a0 : Int) (a1 : Int) (h : pH) : Prop := (0 ≤ a1 ∧ a1 < 10) ∧ (fx_i ((h (a0 + 9) a1) * (h (a0 + 3) a1)))
set_option maxHeartbeats 4000000 in
theorem w_X6_drawOf (a0 : Int) (a1 : Int) (h : pH) {Q : Option pV → pH → Prop} (hp : P_X6_drawOf a0 a1 h) (kk : Q (some (0, F_X6_drawOf a0 a1 h)) (h)) : WP 41 (0, [(8, a0), (0, a1)], [], h) Q := by
  unfold P_X6_drawOf at hp
  obtain ⟨o1, o2⟩ := hp
  refine WP.aload_n rfl rfl ⟨by decide, by decide⟩ ?_
  refine WP.getR rfl rfl ?_
  refine WP.iload_n rfl rfl ?_
  refine WP.iaload rfl ⟨by decide, by decide, by decide⟩ o1 ?_
  refine WP.aload_n rfl rfl ⟨by decide, by decide⟩ ?_
  refine WP.getR rfl rfl ?_
  refine WP.iload_n rfl rfl ?_
  refine WP.iaload rfl ⟨by decide, by decide, by decide⟩ o1 ?_
  refine WP.imulE rfl o2 ?_
  refine WP.reti rfl ?_; exact kk
theorem c_X6_drawOf (a0 : Int) (a1 : Int) (h : pH) (hp : P_X6_drawOf a0 a1 h) : CP 41 [(8, a0), (0, a1)] h (fun r h1 => r = some (0, F_X6_drawOf a0 a1 h) ∧ h1 = h) := w_X6_drawOf a0 a1 h hp ⟨rfl, rfl⟩
noncomputable def s_X6_warm_1 (a0 : Int) (a1 : Int) (x2 : Int) (h : pH) : pH := pm_upd h (a1 + 1) (h (a0 + 1) x2) ((h (a1 + 1) (h (a0 + 1) x2)) + ((h (a0 + 9) x2) * (h (a0 + 2) x2)))
def C_X6_warm_2 (a0 : Int) (a1 : Int) (x2 : Int) (h : pH) : Prop := x2 < h a0 10
noncomputable def B_X6_warm_2 (a0 : Int) (a1 : Int) (x2 : Int) (h : pH) : Int × pH := (x2 + 1, s_X6_warm_1 a0 a1 x2 h)
noncomputable def P_X6_warm_2 (a0 : Int) (a1 : Int) (x2 : Int) (h : pH) : Prop := ((x2 < h a0 10) → (0 ≤ x2 ∧ x2 < 10) ∧ (0 ≤ h (a0 + 1) x2 ∧ h (a0 + 1) x2 < 12) ∧ (fx_i ((h (a0 + 9) x2) * (h (a0 + 2) x2))) ∧ (fx_i ((h (a1 + 1) (h (a0 + 1) x2)) + ((h (a0 + 9) x2) * (h (a0 + 2) x2)))) ∧ (fx_i (x2 + 1)))
noncomputable def L_X6_warm_2 (a0 : Int) (a1 : Int) (x2 : Int) (h : pH) : Int × pH := fx_wh (σ := Int × pH) (fun s => C_X6_warm_2 a0 a1 s.1 s.2) (fun s => B_X6_warm_2 a0 a1 s.1 s.2) (x2, h)
def O_X6_warm_2 (a0 : Int) (a1 : Int) (x2 : Int) (h : pH) : Prop := fx_ok (σ := Int × pH) (fun s => C_X6_warm_2 a0 a1 s.1 s.2) (fun s => B_X6_warm_2 a0 a1 s.1 s.2) (fun s => P_X6_warm_2 a0 a1 s.1 s.2) (x2, h)
set_option maxHeartbeats 4000000 in
theorem lp_X6_warm_2 (a0 : Int) (a1 : Int) (x2 : Int) (h : pH) {Q : Option pV → pH → Prop} (hp : O_X6_warm_2 a0 a1 x2 h) (kk : ∀ us : List pV, WP 44 (27, [(8, a0), (2, a1), (0, (L_X6_warm_2 a0 a1 x2 h).1)], [], (L_X6_warm_2 a0 a1 x2 h).2) Q) : ∀ us : List pV, WP 44 (2, [(8, a0), (2, a1), (0, x2)], [], h) Q := by
  refine WP.wh (σ := Int × pH) (fun s => C_X6_warm_2 a0 a1 s.1 s.2) (fun s => B_X6_warm_2 a0 a1 s.1 s.2) (fun s => P_X6_warm_2 a0 a1 s.1 s.2) (fun s us => (2, [(8, a0), (2, a1), (0, s.1)], [], s.2)) (x2, h) hp ?_ ?_
  · intro s us hP hc kk
    obtain ⟨x2, h⟩ := s
    change P_X6_warm_2 a0 a1 x2 h at hP
    change x2 < h a0 10 at hc
    replace kk : ∀ (us' : List pV) (s' : Int × pH), s' = B_X6_warm_2 a0 a1 x2 h → WP 44 (2, [(8, a0), (2, a1), (0, s'.1)], [], s'.2) Q := fun us' s' e => by subst e; exact kk us'
    unfold P_X6_warm_2 at hP
    obtain ⟨o3, o4, o5, o6, o7⟩ := hP hc
    show WP 44 (2, [(8, a0), (2, a1), (0, x2)], [], h) Q
    refine WP.iload_n rfl rfl ?_
    refine WP.aload_n rfl rfl ⟨by decide, by decide⟩ ?_
    refine WP.getI rfl rfl ?_
    refine WP.ni_ge rfl (fun c2 => ?_) (fun c2 => ?_)
    · exact absurd hc (Int.not_lt.mpr c2)
    · refine WP.aload_n rfl rfl ⟨by decide, by decide⟩ ?_
      refine WP.getR rfl rfl ?_
      refine WP.aload_n rfl rfl ⟨by decide, by decide⟩ ?_
      refine WP.getR rfl rfl ?_
      refine WP.iload_n rfl rfl ?_
      refine WP.iaload rfl ⟨by decide, by decide, by decide⟩ o3 ?_
      refine WP.dup2 rfl (by decide) (by decide) ?_
      refine WP.iaload rfl ⟨by decide, by decide, by decide⟩ o4 ?_
      refine WP.aload_n rfl rfl ⟨by decide, by decide⟩ ?_
      refine WP.getR rfl rfl ?_
      refine WP.iload_n rfl rfl ?_
      refine WP.iaload rfl ⟨by decide, by decide, by decide⟩ o3 ?_
      refine WP.aload_n rfl rfl ⟨by decide, by decide⟩ ?_
      refine WP.getR rfl rfl ?_
      refine WP.iload_n rfl rfl ?_
      refine WP.iaload rfl ⟨by decide, by decide, by decide⟩ o3 ?_
      refine WP.imulE rfl o5 ?_
      refine WP.iaddE rfl o6 ?_
      refine WP.iastore rfl ⟨by decide, by decide, by decide⟩ o4 ?_
      show WP 44 (25, [(8, a0), (2, a1), (0, x2)], [], s_X6_warm_1 a0 a1 x2 h) Q
      refine WP.iincE (L' := [(8, a0), (2, a1), (0, x2 + 1)]) rfl rfl o7 rfl ?_
      refine WP.goto rfl ?_
      exact kk [] (x2 + 1, s_X6_warm_1 a0 a1 x2 h) (rfl)
  · intro hP hc
    generalize hs : (L_X6_warm_2 a0 a1 x2 h : Int × pH) = s at kk
    change P_X6_warm_2 a0 a1 (L_X6_warm_2 a0 a1 x2 h).1 (L_X6_warm_2 a0 a1 x2 h).2 at hP
    change ¬ C_X6_warm_2 a0 a1 (L_X6_warm_2 a0 a1 x2 h).1 (L_X6_warm_2 a0 a1 x2 h).2 at hc
    intro us
    show WP 44 (2, [(8, a0), (2, a1), (0, (L_X6_warm_2 a0 a1 x2 h).1)], [], (L_X6_warm_2 a0 a1 x2 h).2) Q
    rw [hs] at hP hc ⊢
    obtain ⟨x2, h⟩ := s
    change P_X6_warm_2 a0 a1 x2 h at hP
    change ¬ (x2 < h a0 10) at hc
    unfold P_X6_warm_2 at hP
    show WP 44 (2, [(8, a0), (2, a1), (0, x2)], [], h) Q
    refine WP.iload_n rfl rfl ?_
    refine WP.aload_n rfl rfl ⟨by decide, by decide⟩ ?_
    refine WP.getI rfl rfl ?_
    refine WP.ni_ge rfl (fun c1 => ?_) (fun c1 => ?_)
    · exact kk []
    · exact absurd (show x2 < h a0 10 from c1) hc
noncomputable def H_X6_warm (a0 : Int) (a1 : Int) (h : pH) : pH := (L_X6_warm_2 a0 a1 0 h).2
noncomputable def P_X6_warm (a0 : Int) (a1 : Int) (h : pH) : Prop := O_X6_warm_2 a0 a1 0 h
set_option maxHeartbeats 4000000 in
theorem w_X6_warm (a0 : Int) (a1 : Int) (h : pH) {Q : Option pV → pH → Prop} (hp : P_X6_warm a0 a1 h) (kk : Q (none) (H_X6_warm a0 a1 h)) : WP 44 (0, [(8, a0), (2, a1), pU], [], h) Q := by
  unfold P_X6_warm at hp
  have o8 := hp
  refine WP.iconst rfl ?_
  refine WP.istore_n (L' := [(8, a0), (2, a1), (0, 0)]) rfl rfl ?_
  refine lp_X6_warm_2 a0 a1 0 h o8 (fun us9 => ?_) []
  show WP 44 (27, [(8, a0), (2, a1), (0, (L_X6_warm_2 a0 a1 0 h).1)], [], (L_X6_warm_2 a0 a1 0 h).2) Q
  refine WP.retv rfl ?_; exact kk
theorem c_X6_warm (a0 : Int) (a1 : Int) (h : pH) (hp : P_X6_warm a0 a1 h) : CP 44 [(8, a0), (2, a1)] h (fun r h1 => r = none ∧ h1 = H_X6_warm a0 a1 h) := w_X6_warm a0 a1 h hp ⟨rfl, rfl⟩
def C_X6_endTrips_2 (a0 : Int) (x1 : Int) (h : pH) : Prop := x1 < h a0 10
noncomputable def B_X6_endTrips_2 (a0 : Int) (x1 : Int) (h : pH) : Int × pH := (x1 + 1, pm_upd h (a0 + 6) x1 (fx_max 0 ((h (a0 + 6) x1) - 1)))
noncomputable def P_X6_endTrips_2 (a0 : Int) (x1 : Int) (h : pH) : Prop := ((x1 < h a0 10) → (0 ≤ x1 ∧ x1 < 10) ∧ (fx_i ((h (a0 + 6) x1) - 1)) ∧ (fx_i (x1 + 1)))
noncomputable def L_X6_endTrips_2 (a0 : Int) (x1 : Int) (h : pH) : Int × pH := fx_wh (σ := Int × pH) (fun s => C_X6_endTrips_2 a0 s.1 s.2) (fun s => B_X6_endTrips_2 a0 s.1 s.2) (x1, h)
def O_X6_endTrips_2 (a0 : Int) (x1 : Int) (h : pH) : Prop := fx_ok (σ := Int × pH) (fun s => C_X6_endTrips_2 a0 s.1 s.2) (fun s => B_X6_endTrips_2 a0 s.1 s.2) (fun s => P_X6_endTrips_2 a0 s.1 s.2) (x1, h)
set_option maxHeartbeats 4000000 in
theorem lp_X6_endTrips_2 (a0 : Int) (x1 : Int) (h : pH) {Q : Option pV → pH → Prop} (hp : O_X6_endTrips_2 a0 x1 h) (kk : ∀ us : List pV, WP 45 (20, [(8, a0), (0, (L_X6_endTrips_2 a0 x1 h).1)], [], (L_X6_endTrips_2 a0 x1 h).2) Q) : ∀ us : List pV, WP 45 (2, [(8, a0), (0, x1)], [], h) Q := by
  refine WP.wh (σ := Int × pH) (fun s => C_X6_endTrips_2 a0 s.1 s.2) (fun s => B_X6_endTrips_2 a0 s.1 s.2) (fun s => P_X6_endTrips_2 a0 s.1 s.2) (fun s us => (2, [(8, a0), (0, s.1)], [], s.2)) (x1, h) hp ?_ ?_
  · intro s us hP hc kk
    obtain ⟨x1, h⟩ := s
    change P_X6_endTrips_2 a0 x1 h at hP
    change x1 < h a0 10 at hc
    replace kk : ∀ (us' : List pV) (s' : Int × pH), s' = B_X6_endTrips_2 a0 x1 h → WP 45 (2, [(8, a0), (0, s'.1)], [], s'.2) Q := fun us' s' e => by subst e; exact kk us'
    unfold P_X6_endTrips_2 at hP
    obtain ⟨o3, o4, o5⟩ := hP hc
    show WP 45 (2, [(8, a0), (0, x1)], [], h) Q
    refine WP.iload_n rfl rfl ?_
    refine WP.aload_n rfl rfl ⟨by decide, by decide⟩ ?_
    refine WP.getI rfl rfl ?_
    refine WP.ni_ge rfl (fun c2 => ?_) (fun c2 => ?_)
    · exact absurd hc (Int.not_lt.mpr c2)
    · refine WP.aload_n rfl rfl ⟨by decide, by decide⟩ ?_
      refine WP.getR rfl rfl ?_
      refine WP.iload_n rfl rfl ?_
      refine WP.iconst rfl ?_
      refine WP.aload_n rfl rfl ⟨by decide, by decide⟩ ?_
      refine WP.getR rfl rfl ?_
      refine WP.iload_n rfl rfl ?_
      refine WP.iaload rfl ⟨by decide, by decide, by decide⟩ o3 ?_
      refine WP.iconst rfl ?_
      refine WP.isubE rfl o4 ?_
      refine WP.maxIF rfl rfl ?_
      refine WP.iastore rfl ⟨by decide, by decide, by decide⟩ o3 ?_
      refine WP.iincE (L' := [(8, a0), (0, x1 + 1)]) rfl rfl o5 rfl ?_
      refine WP.goto rfl ?_
      exact kk [] (x1 + 1, pm_upd h (a0 + 6) x1 (fx_max 0 ((h (a0 + 6) x1) - 1))) (rfl)
  · intro hP hc
    generalize hs : (L_X6_endTrips_2 a0 x1 h : Int × pH) = s at kk
    change P_X6_endTrips_2 a0 (L_X6_endTrips_2 a0 x1 h).1 (L_X6_endTrips_2 a0 x1 h).2 at hP
    change ¬ C_X6_endTrips_2 a0 (L_X6_endTrips_2 a0 x1 h).1 (L_X6_endTrips_2 a0 x1 h).2 at hc
    intro us
    show WP 45 (2, [(8, a0), (0, (L_X6_endTrips_2 a0 x1 h).1)], [], (L_X6_endTrips_2 a0 x1 h).2) Q
    rw [hs] at hP hc ⊢
    obtain ⟨x1, h⟩ := s
    change P_X6_endTrips_2 a0 x1 h at hP
    change ¬ (x1 < h a0 10) at hc
    unfold P_X6_endTrips_2 at hP
    show WP 45 (2, [(8, a0), (0, x1)], [], h) Q
    refine WP.iload_n rfl rfl ?_
    refine WP.aload_n rfl rfl ⟨by decide, by decide⟩ ?_
    refine WP.getI rfl rfl ?_
    refine WP.ni_ge rfl (fun c1 => ?_) (fun c1 => ?_)
    · exact kk []
    · exact absurd (show x1 < h a0 10 from c1) hc
noncomputable def H_X6_endTrips (a0 : Int) (h : pH) : pH := (L_X6_endTrips_2 a0 0 h).2
noncomputable def P_X6_endTrips (a0 : Int) (h : pH) : Prop := O_X6_endTrips_2 a0 0 h
set_option maxHeartbeats 4000000 in
theorem w_X6_endTrips (a0 : Int) (h : pH) {Q : Option pV → pH → Prop} (hp : P_X6_endTrips a0 h) (kk : Q (none) (H_X6_endTrips a0 h)) : WP 45 (0, [(8, a0), pU], [], h) Q := by
  unfold P_X6_endTrips at hp
  have o6 := hp
  refine WP.iconst rfl ?_
  refine WP.istore_n (L' := [(8, a0), (0, 0)]) rfl rfl ?_
  refine lp_X6_endTrips_2 a0 0 h o6 (fun us7 => ?_) []
  show WP 45 (20, [(8, a0), (0, (L_X6_endTrips_2 a0 0 h).1)], [], (L_X6_endTrips_2 a0 0 h).2) Q
  refine WP.retv rfl ?_; exact kk
theorem c_X6_endTrips (a0 : Int) (h : pH) (hp : P_X6_endTrips a0 h) : CP 45 [(8, a0)] h (fun r h1 => r = none ∧ h1 = H_X6_endTrips a0 h) := w_X6_endTrips a0 h hp ⟨rfl, rfl⟩
noncomputable def s_X7_takeWorks_1 (a1 : Int) (x2 : Int) (h : pH) : pH := pm_upd (pm_upd h 148 (h 147 5) x2) 149 ((pm_upd h 148 (h 147 5) x2) 147 5) ((pm_upd h 148 (h 147 5) x2) (a1 + 9) x2)
noncomputable def s_X7_takeWorks_2 (a1 : Int) (x2 : Int) (h : pH) : pH := pm_upd (s_X7_takeWorks_1 a1 x2 h) 147 5 (((s_X7_takeWorks_1 a1 x2 h) 147 5) + 1)
def C_X7_takeWorks_5 (a1 : Int) (x2 : Int) (h : pH) : Prop := x2 < h a1 15 ∧ h 147 5 < 8
noncomputable def B_X7_takeWorks_5 (a1 : Int) (x2 : Int) (h : pH) : Int × pH := (x2 + 1, if h (a1 + 11) x2 = 1 then s_X7_takeWorks_2 a1 x2 h else h)
noncomputable def P_X7_takeWorks_5 (a1 : Int) (x2 : Int) (h : pH) : Prop := ((x2 < h a1 15 ∧ h 147 5 < 8) → (0 ≤ x2 ∧ x2 < 16) ∧ (((h (a1 + 11) x2 = 1) → ((0 ≤ h 147 5 ∧ h 147 5 < 8) ∧ (0 ≤ (pm_upd h 148 (h 147 5) x2) 147 5 ∧ (pm_upd h 148 (h 147 5) x2) 147 5 < 8) ∧ (fx_i (((s_X7_takeWorks_1 a1 x2 h) 147 5) + 1))))) ∧ (fx_i (x2 + 1)))
noncomputable def L_X7_takeWorks_5 (a1 : Int) (x2 : Int) (h : pH) : Int × pH := fx_wh (σ := Int × pH) (fun s => C_X7_takeWorks_5 a1 s.1 s.2) (fun s => B_X7_takeWorks_5 a1 s.1 s.2) (x2, h)
def O_X7_takeWorks_5 (a1 : Int) (x2 : Int) (h : pH) : Prop := fx_ok (σ := Int × pH) (fun s => C_X7_takeWorks_5 a1 s.1 s.2) (fun s => B_X7_takeWorks_5 a1 s.1 s.2) (fun s => P_X7_takeWorks_5 a1 s.1 s.2) (x2, h)
set_option maxHeartbeats 4000000 in
theorem lp_X7_takeWorks_5 (a1 : Int) (x2 : Int) (h : pH) {Q : Option pV → pH → Prop} (hp : O_X7_takeWorks_5 a1 x2 h) (kk : ∀ us : List pV, WP 47 (42, [(9, 147), (12, a1), (0, (L_X7_takeWorks_5 a1 x2 h).1)], [], (L_X7_takeWorks_5 a1 x2 h).2) Q) : ∀ us : List pV, WP 47 (5, [(9, 147), (12, a1), (0, x2)], [], h) Q := by
  refine WP.wh (σ := Int × pH) (fun s => C_X7_takeWorks_5 a1 s.1 s.2) (fun s => B_X7_takeWorks_5 a1 s.1 s.2) (fun s => P_X7_takeWorks_5 a1 s.1 s.2) (fun s us => (5, [(9, 147), (12, a1), (0, s.1)], [], s.2)) (x2, h) hp ?_ ?_
  · intro s us hP hc kk
    obtain ⟨x2, h⟩ := s
    change P_X7_takeWorks_5 a1 x2 h at hP
    change x2 < h a1 15 ∧ h 147 5 < 8 at hc
    replace kk : ∀ (us' : List pV) (s' : Int × pH), s' = B_X7_takeWorks_5 a1 x2 h → WP 47 (5, [(9, 147), (12, a1), (0, s'.1)], [], s'.2) Q := fun us' s' e => by subst e; exact kk us'
    unfold P_X7_takeWorks_5 at hP
    obtain ⟨o5, q13, o14⟩ := hP hc
    show WP 47 (5, [(9, 147), (12, a1), (0, x2)], [], h) Q
    refine WP.iload_n rfl rfl ?_
    refine WP.aload_n rfl rfl ⟨by decide, by decide⟩ ?_
    refine WP.getI rfl rfl ?_
    refine WP.ni_ge rfl (fun c3 => ?_) (fun c3 => ?_)
    · exact absurd hc (fun q => (Int.not_lt.mpr c3) q.1)
    · refine WP.aload_n rfl rfl ⟨by decide, by decide⟩ ?_
      refine WP.getI rfl rfl ?_
      refine WP.bipush rfl ?_
      refine WP.ni_ge rfl (fun c4 => ?_) (fun c4 => ?_)
      · exact absurd hc (fun q => (Int.not_lt.mpr c4) q.2)
      · refine WP.aload_n rfl rfl ⟨by decide, by decide⟩ ?_
        refine WP.getR rfl rfl ?_
        refine WP.iload_n rfl rfl ?_
        refine WP.iaload rfl ⟨by decide, by decide, by decide⟩ o5 ?_
        refine WP.iconst rfl ?_
        have k6 : ∀ Q' : Option pV → pH → Prop, (WP 47 (40, [(9, 147), (12, a1), (0, x2)], [], if h (a1 + 11) x2 = 1 then s_X7_takeWorks_2 a1 x2 h else h) Q') → WP 47 (18, [(9, 147), (12, a1), (0, x2)], [(0, 1), (0, h (a1 + 11) x2)], h) Q' := fun Q' kk => by
          have q11 := q13
          refine WP.ni_ne rfl (fun c7 => ?_) (fun c7 => ?_)
          · have e := kk; simp only [if_neg (c7)] at e ⊢; exact e
          · obtain ⟨o8, o9, o10⟩ := q11 c7
            refine WP.aload_n rfl rfl ⟨by decide, by decide⟩ ?_
            refine WP.getRF (b := 148) rfl rfl rfl ?_
            refine WP.aload_n rfl rfl ⟨by decide, by decide⟩ ?_
            refine WP.getI rfl rfl ?_
            refine WP.iload_n rfl rfl ?_
            refine WP.iastore rfl ⟨by decide, by decide, by decide⟩ o8 ?_
            refine WP.aload_n rfl rfl ⟨by decide, by decide⟩ ?_
            refine WP.getRF (b := 149) rfl rfl rfl ?_
            refine WP.aload_n rfl rfl ⟨by decide, by decide⟩ ?_
            refine WP.getI rfl rfl ?_
            refine WP.aload_n rfl rfl ⟨by decide, by decide⟩ ?_
            refine WP.getR rfl rfl ?_
            refine WP.iload_n rfl rfl ?_
            refine WP.iaload rfl ⟨by decide, by decide, by decide⟩ o5 ?_
            refine WP.iastore rfl ⟨by decide, by decide, by decide⟩ o9 ?_
            show WP 47 (34, [(9, 147), (12, a1), (0, x2)], [], s_X7_takeWorks_1 a1 x2 h) Q'
            refine WP.aload_n rfl rfl ⟨by decide, by decide⟩ ?_
            refine WP.dup rfl (by decide) ?_
            refine WP.getI rfl rfl ?_
            refine WP.iconst rfl ?_
            refine WP.iaddE rfl o10 ?_
            refine WP.putI rfl rfl ?_
            show WP 47 (40, [(9, 147), (12, a1), (0, x2)], [], s_X7_takeWorks_2 a1 x2 h) Q'
            have e := kk; simp only [if_pos c7] at e ⊢; exact e
        refine k6 _ ?_
        refine WP.iincE (L' := [(9, 147), (12, a1), (0, x2 + 1)]) rfl rfl o14 rfl ?_
        refine WP.goto rfl ?_
        exact kk [] (x2 + 1, if h (a1 + 11) x2 = 1 then s_X7_takeWorks_2 a1 x2 h else h) (rfl)
  · intro hP hc
    generalize hs : (L_X7_takeWorks_5 a1 x2 h : Int × pH) = s at kk
    change P_X7_takeWorks_5 a1 (L_X7_takeWorks_5 a1 x2 h).1 (L_X7_takeWorks_5 a1 x2 h).2 at hP
    change ¬ C_X7_takeWorks_5 a1 (L_X7_takeWorks_5 a1 x2 h).1 (L_X7_takeWorks_5 a1 x2 h).2 at hc
    intro us
    show WP 47 (5, [(9, 147), (12, a1), (0, (L_X7_takeWorks_5 a1 x2 h).1)], [], (L_X7_takeWorks_5 a1 x2 h).2) Q
    rw [hs] at hP hc ⊢
    obtain ⟨x2, h⟩ := s
    change P_X7_takeWorks_5 a1 x2 h at hP
    change ¬ (x2 < h a1 15 ∧ h 147 5 < 8) at hc
    unfold P_X7_takeWorks_5 at hP
    show WP 47 (5, [(9, 147), (12, a1), (0, x2)], [], h) Q
    refine WP.iload_n rfl rfl ?_
    refine WP.aload_n rfl rfl ⟨by decide, by decide⟩ ?_
    refine WP.getI rfl rfl ?_
    refine WP.ni_ge rfl (fun c1 => ?_) (fun c1 => ?_)
    · exact kk []
    · refine WP.aload_n rfl rfl ⟨by decide, by decide⟩ ?_
      refine WP.getI rfl rfl ?_
      refine WP.bipush rfl ?_
      refine WP.ni_ge rfl (fun c2 => ?_) (fun c2 => ?_)
      · exact kk []
      · exact absurd (show x2 < h a1 15 ∧ h 147 5 < 8 from ⟨c1, c2⟩) hc
noncomputable def s_X7_takeWorks_3 (a1 : Int) (h : pH) : Int := (L_X7_takeWorks_5 a1 0 (pm_upd h 147 5 0)).1
noncomputable def s_X7_takeWorks_4 (a1 : Int) (h : pH) : pH := (L_X7_takeWorks_5 a1 0 (pm_upd h 147 5 0)).2
noncomputable def H_X7_takeWorks (a1 : Int) (h : pH) : pH := s_X7_takeWorks_4 a1 h
noncomputable def P_X7_takeWorks (a1 : Int) (h : pH) : Prop := (O_X7_takeWorks_5 a1 0 (pm_upd h 147 5 0))
set_option maxHeartbeats 4000000 in
theorem w_X7_takeWorks (a1 : Int) (h : pH) {Q : Option pV → pH → Prop} (hp : P_X7_takeWorks a1 h) (kk : Q (none) (H_X7_takeWorks a1 h)) : WP 47 (0, [(9, 147), (12, a1), pU], [], h) Q := by
  unfold P_X7_takeWorks at hp
  have o15 := hp
  refine WP.aload_n rfl rfl ⟨by decide, by decide⟩ ?_
  refine WP.iconst rfl ?_
  refine WP.putI rfl rfl ?_
  refine WP.iconst rfl ?_
  refine WP.istore_n (L' := [(9, 147), (12, a1), (0, 0)]) rfl rfl ?_
  refine lp_X7_takeWorks_5 a1 0 (pm_upd h 147 5 0) o15 (fun us16 => ?_) []
  show WP 47 (42, [(9, 147), (12, a1), (0, s_X7_takeWorks_3 a1 h)], [], s_X7_takeWorks_4 a1 h) Q
  refine WP.retv rfl ?_; exact kk
theorem c_X7_takeWorks (a1 : Int) (h : pH) (hp : P_X7_takeWorks a1 h) : CP 47 [(9, 147), (12, a1)] h (fun r h1 => r = none ∧ h1 = H_X7_takeWorks a1 h) := w_X7_takeWorks a1 h hp ⟨rfl, rfl⟩
noncomputable def F_X7_worth (a1 : Int) (h : pH) : Int := 1099511627776 - (h 151 a1)
noncomputable def P_X7_worth (a1 : Int) (h : pH) : Prop := (0 ≤ a1 ∧ a1 < 10) ∧ (fx_l (1099511627776 - (h 151 a1)))
set_option maxHeartbeats 4000000 in
theorem w_X7_worth (a1 : Int) (h : pH) {Q : Option pV → pH → Prop} (hp : P_X7_worth a1 h) (kk : Q (some (1, F_X7_worth a1 h)) (h)) : WP 49 (0, [(9, 147), (0, a1)], [], h) Q := by
  unfold P_X7_worth at hp
  obtain ⟨o1, o2⟩ := hp
  refine WP.ldc2_w rfl ?_
  refine WP.aload_n rfl rfl ⟨by decide, by decide⟩ ?_
  refine WP.getRF (b := 151) rfl rfl rfl ?_
  refine WP.iload_n rfl rfl ?_
  refine WP.iaload rfl ⟨by decide, by decide, by decide⟩ o1 ?_
  refine WP.i2l rfl ?_
  refine WP.lsubE rfl o2 ?_
  refine WP.retl rfl ?_; exact kk
theorem c_X7_worth (a1 : Int) (h : pH) (hp : P_X7_worth a1 h) : CP 49 [(9, 147), (0, a1)] h (fun r h1 => r = some (1, F_X7_worth a1 h) ∧ h1 = h) := w_X7_worth a1 h hp ⟨rfl, rfl⟩
noncomputable def s_X7_sum_1 (x1 : Int) (x2 : Int) (h : pH) : Int := if h 150 x2 = (-1) then x1 else x1 + (h 151 (h 150 x2))
def C_X7_sum_4 (h : pH) (x1 : Int) (x2 : Int) : Prop := x2 < h 147 5
noncomputable def B_X7_sum_4 (h : pH) (x1 : Int) (x2 : Int) : Int × Int := (s_X7_sum_1 x1 x2 h, x2 + 1)
noncomputable def P_X7_sum_4 (h : pH) (x1 : Int) (x2 : Int) : Prop := ((x2 < h 147 5) → (0 ≤ x2 ∧ x2 < 8) ∧ (((¬ h 150 x2 = (-1)) → ((0 ≤ h 150 x2 ∧ h 150 x2 < 10) ∧ (fx_i (x1 + (h 151 (h 150 x2))))))) ∧ (fx_i (x2 + 1)))
noncomputable def L_X7_sum_4 (h : pH) (x1 : Int) (x2 : Int) : Int × Int := fx_wh (σ := Int × Int) (fun s => C_X7_sum_4 h s.1 s.2) (fun s => B_X7_sum_4 h s.1 s.2) (x1, x2)
def O_X7_sum_4 (h : pH) (x1 : Int) (x2 : Int) : Prop := fx_ok (σ := Int × Int) (fun s => C_X7_sum_4 h s.1 s.2) (fun s => B_X7_sum_4 h s.1 s.2) (fun s => P_X7_sum_4 h s.1 s.2) (x1, x2)
set_option maxHeartbeats 4000000 in
theorem lp_X7_sum_4 (h : pH) (x1 : Int) (x2 : Int) {Q : Option pV → pH → Prop} (hp : O_X7_sum_4 h x1 x2) (kk : ∀ us : List pV, WP 52 (26, [(9, 147), (0, (L_X7_sum_4 h x1 x2).1), (0, (L_X7_sum_4 h x1 x2).2)], [], h) Q) : ∀ us : List pV, WP 52 (4, [(9, 147), (0, x1), (0, x2)], [], h) Q := by
  refine WP.wh (σ := Int × Int) (fun s => C_X7_sum_4 h s.1 s.2) (fun s => B_X7_sum_4 h s.1 s.2) (fun s => P_X7_sum_4 h s.1 s.2) (fun s us => (4, [(9, 147), (0, s.1), (0, s.2)], [], h)) (x1, x2) hp ?_ ?_
  · intro s us hP hc kk
    obtain ⟨x1, x2⟩ := s
    change P_X7_sum_4 h x1 x2 at hP
    change x2 < h 147 5 at hc
    replace kk : ∀ (us' : List pV) (s' : Int × Int), s' = B_X7_sum_4 h x1 x2 → WP 52 (4, [(9, 147), (0, s'.1), (0, s'.2)], [], h) Q := fun us' s' e => by subst e; exact kk us'
    unfold P_X7_sum_4 at hP
    obtain ⟨o3, q10, o11⟩ := hP hc
    show WP 52 (4, [(9, 147), (0, x1), (0, x2)], [], h) Q
    refine WP.iload_n rfl rfl ?_
    refine WP.aload_n rfl rfl ⟨by decide, by decide⟩ ?_
    refine WP.getI rfl rfl ?_
    refine WP.ni_ge rfl (fun c2 => ?_) (fun c2 => ?_)
    · exact absurd hc (Int.not_lt.mpr c2)
    · refine WP.aload_n rfl rfl ⟨by decide, by decide⟩ ?_
      refine WP.getRF (b := 150) rfl rfl rfl ?_
      refine WP.iload_n rfl rfl ?_
      refine WP.iaload rfl ⟨by decide, by decide, by decide⟩ o3 ?_
      refine WP.iconst rfl ?_
      have k4 : ∀ Q' : Option pV → pH → Prop, (WP 52 (24, [(9, 147), (0, s_X7_sum_1 x1 x2 h), (0, x2)], [], h) Q') → WP 52 (13, [(9, 147), (0, x1), (0, x2)], [(0, (-1)), (0, h 150 x2)], h) Q' := fun Q' kk => by
        have q8 := q10
        refine WP.ni_eq rfl (fun c5 => ?_) (fun c5 => ?_)
        · have e := kk; simp only [s_X7_sum_1, if_pos c5] at e ⊢; exact e
        · obtain ⟨o6, o7⟩ := q8 c5
          refine WP.iload_n rfl rfl ?_
          refine WP.aload_n rfl rfl ⟨by decide, by decide⟩ ?_
          refine WP.getRF (b := 151) rfl rfl rfl ?_
          refine WP.aload_n rfl rfl ⟨by decide, by decide⟩ ?_
          refine WP.getRF (b := 150) rfl rfl rfl ?_
          refine WP.iload_n rfl rfl ?_
          refine WP.iaload rfl ⟨by decide, by decide, by decide⟩ o3 ?_
          refine WP.iaload rfl ⟨by decide, by decide, by decide⟩ o6 ?_
          refine WP.iaddE rfl o7 ?_
          refine WP.istore_n (L' := [(9, 147), (0, x1 + (h 151 (h 150 x2))), (0, x2)]) rfl rfl ?_
          have e := kk; simp only [s_X7_sum_1, if_neg (c5)] at e ⊢; exact e
      refine k4 _ ?_
      refine WP.iincE (L' := [(9, 147), (0, s_X7_sum_1 x1 x2 h), (0, x2 + 1)]) rfl rfl o11 rfl ?_
      refine WP.goto rfl ?_
      exact kk [] (s_X7_sum_1 x1 x2 h, x2 + 1) (rfl)
  · intro hP hc
    generalize hs : (L_X7_sum_4 h x1 x2 : Int × Int) = s at kk
    change P_X7_sum_4 h (L_X7_sum_4 h x1 x2).1 (L_X7_sum_4 h x1 x2).2 at hP
    change ¬ C_X7_sum_4 h (L_X7_sum_4 h x1 x2).1 (L_X7_sum_4 h x1 x2).2 at hc
    intro us
    show WP 52 (4, [(9, 147), (0, (L_X7_sum_4 h x1 x2).1), (0, (L_X7_sum_4 h x1 x2).2)], [], h) Q
    rw [hs] at hP hc ⊢
    obtain ⟨x1, x2⟩ := s
    change P_X7_sum_4 h x1 x2 at hP
    change ¬ (x2 < h 147 5) at hc
    unfold P_X7_sum_4 at hP
    show WP 52 (4, [(9, 147), (0, x1), (0, x2)], [], h) Q
    refine WP.iload_n rfl rfl ?_
    refine WP.aload_n rfl rfl ⟨by decide, by decide⟩ ?_
    refine WP.getI rfl rfl ?_
    refine WP.ni_ge rfl (fun c1 => ?_) (fun c1 => ?_)
    · exact kk []
    · exact absurd (show x2 < h 147 5 from c1) hc
noncomputable def F_X7_sum (h : pH) : Int := (L_X7_sum_4 h 0 0).1
noncomputable def P_X7_sum (h : pH) : Prop := O_X7_sum_4 h 0 0
set_option maxHeartbeats 4000000 in
theorem w_X7_sum (h : pH) {Q : Option pV → pH → Prop} (hp : P_X7_sum h) (kk : Q (some (0, F_X7_sum h)) (h)) : WP 52 (0, [(9, 147), pU, pU], [], h) Q := by
  unfold P_X7_sum at hp
  have o12 := hp
  refine WP.iconst rfl ?_
  refine WP.istore_n (L' := [(9, 147), (0, 0), pU]) rfl rfl ?_
  refine WP.iconst rfl ?_
  refine WP.istore_n (L' := [(9, 147), (0, 0), (0, 0)]) rfl rfl ?_
  refine lp_X7_sum_4 h 0 0 o12 (fun us13 => ?_) []
  show WP 52 (26, [(9, 147), (0, (L_X7_sum_4 h 0 0).1), (0, (L_X7_sum_4 h 0 0).2)], [], h) Q
  refine WP.iload_n rfl rfl ?_
  refine WP.reti rfl ?_; exact kk
theorem c_X7_sum (h : pH) (hp : P_X7_sum h) : CP 52 [(9, 147)] h (fun r h1 => r = some (0, F_X7_sum h) ∧ h1 = h) := w_X7_sum h hp ⟨rfl, rfl⟩
noncomputable def B_X7_machineFor_2 (a1 : Int) (h : pH) (x2 : Int) : Int × Int := if h 147 5 ≤ x2 then (1, x2) else if h 148 x2 = a1 then (2, x2) else (0, x2 + 1)
noncomputable def P_X7_machineFor_2 (a1 : Int) (h : pH) (x2 : Int) : Prop := ((x2 < h 147 5) → ((0 ≤ x2 ∧ x2 < 8) ∧ ((¬ h 148 x2 = a1) → ((fx_i (x2 + 1))))))
noncomputable def L_X7_machineFor_2 (a1 : Int) (h : pH) (x2 : Int) : Int × Int := fx_wh (σ := Int × Int) (fun s => s.1 = 0) (fun s => B_X7_machineFor_2 a1 h s.2) (0, x2)
def O_X7_machineFor_2 (a1 : Int) (h : pH) (x2 : Int) : Prop := fx_ok (σ := Int × Int) (fun s => s.1 = 0) (fun s => B_X7_machineFor_2 a1 h s.2) (fun s => s.1 = 0 → P_X7_machineFor_2 a1 h s.2) (0, x2)
set_option maxHeartbeats 4000000 in
theorem lp_X7_machineFor_2 (a1 : Int) (h : pH) (x2 : Int) {Q : Option pV → pH → Prop} (hp : O_X7_machineFor_2 a1 h x2) (kk : (L_X7_machineFor_2 a1 h x2).1 = 1 → ∀ us : List pV, WP 53 (19, [(9, 147), (0, a1), (0, (L_X7_machineFor_2 a1 h x2).2)], [], h) Q) (kk2 : ¬ (L_X7_machineFor_2 a1 h x2).1 = 1 → ∀ us : List pV, WP 53 (12, [(9, 147), (0, a1), (0, (L_X7_machineFor_2 a1 h x2).2)], [], h) Q) : ∀ us : List pV, WP 53 (2, [(9, 147), (0, a1), (0, x2)], [], h) Q := by
  refine WP.wh (σ := Int × Int) (fun s => s.1 = 0) (fun s => B_X7_machineFor_2 a1 h s.2) (fun s => s.1 = 0 → P_X7_machineFor_2 a1 h s.2) (fun s us => if s.1 = 0 then (2, [(9, 147), (0, a1), (0, s.2)], [], h) else if s.1 = 1 then (19, [(9, 147), (0, a1), (0, s.2)], [], h) else (12, [(9, 147), (0, a1), (0, s.2)], [], h)) (0, x2) hp ?_ ?_
  · intro s us hP hc kk
    obtain ⟨fl, x2⟩ := s
    change fl = 0 at hc
    subst hc
    replace hP := hP rfl
    change P_X7_machineFor_2 a1 h x2 at hP
    replace kk : ∀ (us' : List pV) (s' : Int × Int), s' = B_X7_machineFor_2 a1 h x2 → WP 53 ((fun s us => if s.1 = 0 then (2, [(9, 147), (0, a1), (0, s.2)], [], h) else if s.1 = 1 then (19, [(9, 147), (0, a1), (0, s.2)], [], h) else (12, [(9, 147), (0, a1), (0, s.2)], [], h)) s' us') Q := fun us' s' e => by subst e; exact kk us'
    unfold P_X7_machineFor_2 at hP
    have q6 := hP
    show WP 53 (2, [(9, 147), (0, a1), (0, x2)], [], h) Q
    refine WP.iload_n rfl rfl ?_
    refine WP.aload_n rfl rfl ⟨by decide, by decide⟩ ?_
    refine WP.getI rfl rfl ?_
    refine WP.ni_ge rfl (fun c1 => ?_) (fun c1 => ?_)
    · exact kk [] (1, x2) (by simp only [B_X7_machineFor_2, if_pos c1])
    · obtain ⟨o2, q5⟩ := q6 c1
      refine WP.aload_n rfl rfl ⟨by decide, by decide⟩ ?_
      refine WP.getRF (b := 148) rfl rfl rfl ?_
      refine WP.iload_n rfl rfl ?_
      refine WP.iaload rfl ⟨by decide, by decide, by decide⟩ o2 ?_
      refine WP.iload_n rfl rfl ?_
      refine WP.ni_ne rfl (fun c3 => ?_) (fun c3 => ?_)
      · have o4 := q5 c3
        refine WP.iincE (L' := [(9, 147), (0, a1), (0, x2 + 1)]) rfl rfl o4 rfl ?_
        refine WP.goto rfl ?_
        exact kk [] (0, x2 + 1) (by simp only [B_X7_machineFor_2, if_neg (Int.not_le.mpr c1), if_neg (c3)])
      · exact kk [] (2, x2) (by simp only [B_X7_machineFor_2, if_neg (Int.not_le.mpr c1), if_pos c3])
  · intro hP hc
    intro us
    change ¬ (L_X7_machineFor_2 a1 h x2).1 = 0 at hc
    show WP 53 (if (L_X7_machineFor_2 a1 h x2).1 = 0 then (2, [(9, 147), (0, a1), (0, (L_X7_machineFor_2 a1 h x2).2)], [], h) else if (L_X7_machineFor_2 a1 h x2).1 = 1 then (19, [(9, 147), (0, a1), (0, (L_X7_machineFor_2 a1 h x2).2)], [], h) else (12, [(9, 147), (0, a1), (0, (L_X7_machineFor_2 a1 h x2).2)], [], h)) Q
    rw [if_neg hc]
    by_cases e : (L_X7_machineFor_2 a1 h x2).1 = 1
    · rw [if_pos e]; exact kk e us
    · rw [if_neg e]; exact kk2 e us
noncomputable def F_X7_machineFor (a1 : Int) (h : pH) : Int := if (L_X7_machineFor_2 a1 h 0).1 = 1 then (-1) else h 150 ((L_X7_machineFor_2 a1 h 0).2)
noncomputable def P_X7_machineFor (a1 : Int) (h : pH) : Prop := O_X7_machineFor_2 a1 h 0 ∧ ((¬ (L_X7_machineFor_2 a1 h 0).1 = 1) → ((0 ≤ (L_X7_machineFor_2 a1 h 0).2 ∧ (L_X7_machineFor_2 a1 h 0).2 < 8)))
set_option maxHeartbeats 4000000 in
theorem w_X7_machineFor (a1 : Int) (h : pH) {Q : Option pV → pH → Prop} (hp : P_X7_machineFor a1 h) (kk : Q (some (0, F_X7_machineFor a1 h)) (h)) : WP 53 (0, [(9, 147), (0, a1), pU], [], h) Q := by
  unfold P_X7_machineFor at hp
  obtain ⟨o7, q11⟩ := hp
  refine WP.iconst rfl ?_
  refine WP.istore_n (L' := [(9, 147), (0, a1), (0, 0)]) rfl rfl ?_
  refine lp_X7_machineFor_2 a1 h 0 o7 (fun (c9 : (L_X7_machineFor_2 a1 h 0).1 = 1) us8 => ?_) (fun (c9 : ¬ (L_X7_machineFor_2 a1 h 0).1 = 1) us8 => ?_) []
  · show WP 53 (19, [(9, 147), (0, a1), (0, (L_X7_machineFor_2 a1 h 0).2)], [], h) Q
    refine WP.iconst rfl ?_
    refine WP.reti rfl ?_; have e := kk; simp only [F_X7_machineFor, if_pos c9] at e ⊢; exact e
  · have o10 := q11 c9
    show WP 53 (12, [(9, 147), (0, a1), (0, (L_X7_machineFor_2 a1 h 0).2)], [], h) Q
    refine WP.aload_n rfl rfl ⟨by decide, by decide⟩ ?_
    refine WP.getRF (b := 150) rfl rfl rfl ?_
    refine WP.iload_n rfl rfl ?_
    refine WP.iaload rfl ⟨by decide, by decide, by decide⟩ o10 ?_
    refine WP.reti rfl ?_; have e := kk; simp only [F_X7_machineFor, if_neg (c9)] at e ⊢; exact e
theorem c_X7_machineFor (a1 : Int) (h : pH) (hp : P_X7_machineFor a1 h) : CP 53 [(9, 147), (0, a1)] h (fun r h1 => r = some (0, F_X7_machineFor a1 h) ∧ h1 = h) := w_X7_machineFor a1 h hp ⟨rfl, rfl⟩
noncomputable def s_X8_copyFrom_1 (a0 : Int) (a1 : Int) (h : pH) : pH := pm_cpy (pm_cpy h (a1 + 1) 0 (a0 + 1) 0 4) (a1 + 2) 0 (a0 + 2) 0 24
noncomputable def s_X8_copyFrom_2 (a0 : Int) (a1 : Int) (h : pH) : pH := pm_upd (s_X8_copyFrom_1 a0 a1 h) a0 2 ((s_X8_copyFrom_1 a0 a1 h) a1 2)
noncomputable def s_X8_copyFrom_3 (a0 : Int) (a1 : Int) (h : pH) : pH := pm_upd (s_X8_copyFrom_2 a0 a1 h) a0 3 ((s_X8_copyFrom_2 a0 a1 h) a1 3)
noncomputable def s_X8_copyFrom_4 (a0 : Int) (a1 : Int) (h : pH) : pH := pm_upd (s_X8_copyFrom_3 a0 a1 h) a0 4 ((s_X8_copyFrom_3 a0 a1 h) a1 4)
noncomputable def s_X8_copyFrom_5 (a0 : Int) (a1 : Int) (h : pH) : pH := pm_upd (s_X8_copyFrom_4 a0 a1 h) a0 5 ((s_X8_copyFrom_4 a0 a1 h) a1 5)
noncomputable def s_X8_copyFrom_6 (a0 : Int) (a1 : Int) (h : pH) : pH := pm_upd (s_X8_copyFrom_5 a0 a1 h) a0 6 ((s_X8_copyFrom_5 a0 a1 h) a1 6)
noncomputable def s_X8_copyFrom_7 (a0 : Int) (a1 : Int) (h : pH) : pH := pm_upd (s_X8_copyFrom_6 a0 a1 h) a0 7 ((s_X8_copyFrom_6 a0 a1 h) a1 7)
noncomputable def s_X8_copyFrom_8 (a0 : Int) (a1 : Int) (h : pH) : pH := pm_upd (s_X8_copyFrom_7 a0 a1 h) a0 8 ((s_X8_copyFrom_7 a0 a1 h) a1 8)
noncomputable def H_X8_copyFrom (a0 : Int) (a1 : Int) (h : pH) : pH := s_X8_copyFrom_8 a0 a1 h
set_option maxHeartbeats 4000000 in
theorem w_X8_copyFrom (a0 : Int) (a1 : Int) (h : pH) {Q : Option pV → pH → Prop} (kk : Q (none) (H_X8_copyFrom a0 a1 h)) : WP 54 (0, [(10, a0), (10, a1)], [], h) Q := by
  refine WP.aload_n rfl rfl ⟨by decide, by decide⟩ ?_
  refine WP.getR rfl rfl ?_
  refine WP.iconst rfl ?_
  refine WP.aload_n rfl rfl ⟨by decide, by decide⟩ ?_
  refine WP.getR rfl rfl ?_
  refine WP.iconst rfl ?_
  refine WP.iconst rfl ?_
  refine WP.acopy rfl rfl ⟨by decide, by decide, by decide⟩ ⟨by decide, by decide, by decide⟩ (by decide) ?_
  refine WP.aload_n rfl rfl ⟨by decide, by decide⟩ ?_
  refine WP.getR rfl rfl ?_
  refine WP.iconst rfl ?_
  refine WP.aload_n rfl rfl ⟨by decide, by decide⟩ ?_
  refine WP.getR rfl rfl ?_
  refine WP.iconst rfl ?_
  refine WP.bipush rfl ?_
  refine WP.acopy rfl rfl ⟨by decide, by decide, by decide⟩ ⟨by decide, by decide, by decide⟩ (by decide) ?_
  show WP 54 (16, [(10, a0), (10, a1)], [], s_X8_copyFrom_1 a0 a1 h) Q
  refine WP.aload_n rfl rfl ⟨by decide, by decide⟩ ?_
  refine WP.aload_n rfl rfl ⟨by decide, by decide⟩ ?_
  refine WP.getI rfl rfl ?_
  refine WP.putI rfl rfl ?_
  show WP 54 (20, [(10, a0), (10, a1)], [], s_X8_copyFrom_2 a0 a1 h) Q
  refine WP.aload_n rfl rfl ⟨by decide, by decide⟩ ?_
  refine WP.aload_n rfl rfl ⟨by decide, by decide⟩ ?_
  refine WP.getI rfl rfl ?_
  refine WP.putI rfl rfl ?_
  show WP 54 (24, [(10, a0), (10, a1)], [], s_X8_copyFrom_3 a0 a1 h) Q
  refine WP.aload_n rfl rfl ⟨by decide, by decide⟩ ?_
  refine WP.aload_n rfl rfl ⟨by decide, by decide⟩ ?_
  refine WP.getI rfl rfl ?_
  refine WP.putI rfl rfl ?_
  show WP 54 (28, [(10, a0), (10, a1)], [], s_X8_copyFrom_4 a0 a1 h) Q
  refine WP.aload_n rfl rfl ⟨by decide, by decide⟩ ?_
  refine WP.aload_n rfl rfl ⟨by decide, by decide⟩ ?_
  refine WP.getI rfl rfl ?_
  refine WP.putI rfl rfl ?_
  show WP 54 (32, [(10, a0), (10, a1)], [], s_X8_copyFrom_5 a0 a1 h) Q
  refine WP.aload_n rfl rfl ⟨by decide, by decide⟩ ?_
  refine WP.aload_n rfl rfl ⟨by decide, by decide⟩ ?_
  refine WP.getI rfl rfl ?_
  refine WP.putI rfl rfl ?_
  show WP 54 (36, [(10, a0), (10, a1)], [], s_X8_copyFrom_6 a0 a1 h) Q
  refine WP.aload_n rfl rfl ⟨by decide, by decide⟩ ?_
  refine WP.aload_n rfl rfl ⟨by decide, by decide⟩ ?_
  refine WP.getI rfl rfl ?_
  refine WP.putI rfl rfl ?_
  show WP 54 (40, [(10, a0), (10, a1)], [], s_X8_copyFrom_7 a0 a1 h) Q
  refine WP.aload_n rfl rfl ⟨by decide, by decide⟩ ?_
  refine WP.aload_n rfl rfl ⟨by decide, by decide⟩ ?_
  refine WP.getJ rfl rfl ?_
  refine WP.putJ rfl rfl ?_
  show WP 54 (44, [(10, a0), (10, a1)], [], s_X8_copyFrom_8 a0 a1 h) Q
  refine WP.retv rfl ?_; exact kk
theorem c_X8_copyFrom (a0 : Int) (a1 : Int) (h : pH) : CP 54 [(10, a0), (10, a1)] h (fun r h1 => r = none ∧ h1 = H_X8_copyFrom a0 a1 h) := w_X8_copyFrom a0 a1 h ⟨rfl, rfl⟩
noncomputable def F_X8_priceAt (a0 : Int) (a1 : Int) (h : pH) : Int := h (a0 + 2) (Int.fmod a1 24)
noncomputable def P_X8_priceAt (a0 : Int) (a1 : Int) (h : pH) : Prop := (0 ≤ Int.fmod a1 24 ∧ Int.fmod a1 24 < 24)
set_option maxHeartbeats 4000000 in
theorem w_X8_priceAt (a0 : Int) (a1 : Int) (h : pH) {Q : Option pV → pH → Prop} (hp : P_X8_priceAt a0 a1 h) (kk : Q (some (0, F_X8_priceAt a0 a1 h)) (h)) : WP 55 (0, [(10, a0), (0, a1)], [], h) Q := by
  unfold P_X8_priceAt at hp
  have o1 := hp
  refine WP.aload_n rfl rfl ⟨by decide, by decide⟩ ?_
  refine WP.getR rfl rfl ?_
  refine WP.iload_n rfl rfl ?_
  refine WP.bipush rfl ?_
  refine WP.fmod rfl rfl (show (24 : Int) ≠ 0 by decide) ?_
  refine WP.iaload rfl ⟨by decide, by decide, by decide⟩ o1 ?_
  refine WP.reti rfl ?_; exact kk
theorem c_X8_priceAt (a0 : Int) (a1 : Int) (h : pH) (hp : P_X8_priceAt a0 a1 h) : CP 55 [(10, a0), (0, a1)] h (fun r h1 => r = some (0, F_X8_priceAt a0 a1 h) ∧ h1 = h) := w_X8_priceAt a0 a1 h hp ⟨rfl, rfl⟩
noncomputable def F_X8_canGive (a0 : Int) (h : pH) : Int := fx_min (h a0 4) (h a0 6)
set_option maxHeartbeats 4000000 in
theorem w_X8_canGive (a0 : Int) (h : pH) {Q : Option pV → pH → Prop} (kk : Q (some (0, F_X8_canGive a0 h)) (h)) : WP 56 (0, [(10, a0)], [], h) Q := by
  refine WP.aload_n rfl rfl ⟨by decide, by decide⟩ ?_
  refine WP.getI rfl rfl ?_
  refine WP.aload_n rfl rfl ⟨by decide, by decide⟩ ?_
  refine WP.getI rfl rfl ?_
  refine WP.minIF rfl rfl ?_
  refine WP.reti rfl ?_; exact kk
theorem c_X8_canGive (a0 : Int) (h : pH) : CP 56 [(10, a0)] h (fun r h1 => r = some (0, F_X8_canGive a0 h) ∧ h1 = h) := w_X8_canGive a0 h ⟨rfl, rfl⟩
noncomputable def s_X9_copyFrom_1 (a0 : Int) (a1 : Int) (h : pH) : pH := pm_cpy (pm_cpy h (a1 + 1) 0 (a0 + 1) 0 60) (a1 + 2) 0 (a0 + 2) 0 60
noncomputable def s_X9_copyFrom_2 (a0 : Int) (a1 : Int) (h : pH) : pH := pm_upd (s_X9_copyFrom_1 a0 a1 h) a0 4 ((s_X9_copyFrom_1 a0 a1 h) a1 4)
noncomputable def s_X9_copyFrom_3 (a0 : Int) (a1 : Int) (h : pH) : pH := pm_upd (s_X9_copyFrom_2 a0 a1 h) a0 5 ((s_X9_copyFrom_2 a0 a1 h) a1 5)
noncomputable def s_X9_copyFrom_4 (a0 : Int) (a1 : Int) (h : pH) : pH := pm_upd (s_X9_copyFrom_3 a0 a1 h) a0 6 ((s_X9_copyFrom_3 a0 a1 h) a1 6)
noncomputable def H_X9_copyFrom (a0 : Int) (a1 : Int) (h : pH) : pH := s_X9_copyFrom_4 a0 a1 h
set_option maxHeartbeats 4000000 in
theorem w_X9_copyFrom (a0 : Int) (a1 : Int) (h : pH) {Q : Option pV → pH → Prop} (kk : Q (none) (H_X9_copyFrom a0 a1 h)) : WP 58 (0, [(11, a0), (11, a1)], [], h) Q := by
  refine WP.aload_n rfl rfl ⟨by decide, by decide⟩ ?_
  refine WP.getR rfl rfl ?_
  refine WP.iconst rfl ?_
  refine WP.aload_n rfl rfl ⟨by decide, by decide⟩ ?_
  refine WP.getR rfl rfl ?_
  refine WP.iconst rfl ?_
  refine WP.bipush rfl ?_
  refine WP.acopy rfl rfl ⟨by decide, by decide, by decide⟩ ⟨by decide, by decide, by decide⟩ (by decide) ?_
  refine WP.aload_n rfl rfl ⟨by decide, by decide⟩ ?_
  refine WP.getR rfl rfl ?_
  refine WP.iconst rfl ?_
  refine WP.aload_n rfl rfl ⟨by decide, by decide⟩ ?_
  refine WP.getR rfl rfl ?_
  refine WP.iconst rfl ?_
  refine WP.bipush rfl ?_
  refine WP.acopy rfl rfl ⟨by decide, by decide, by decide⟩ ⟨by decide, by decide, by decide⟩ (by decide) ?_
  show WP 58 (16, [(11, a0), (11, a1)], [], s_X9_copyFrom_1 a0 a1 h) Q
  refine WP.aload_n rfl rfl ⟨by decide, by decide⟩ ?_
  refine WP.aload_n rfl rfl ⟨by decide, by decide⟩ ?_
  refine WP.getI rfl rfl ?_
  refine WP.putI rfl rfl ?_
  show WP 58 (20, [(11, a0), (11, a1)], [], s_X9_copyFrom_2 a0 a1 h) Q
  refine WP.aload_n rfl rfl ⟨by decide, by decide⟩ ?_
  refine WP.aload_n rfl rfl ⟨by decide, by decide⟩ ?_
  refine WP.getI rfl rfl ?_
  refine WP.putI rfl rfl ?_
  show WP 58 (24, [(11, a0), (11, a1)], [], s_X9_copyFrom_3 a0 a1 h) Q
  refine WP.aload_n rfl rfl ⟨by decide, by decide⟩ ?_
  refine WP.aload_n rfl rfl ⟨by decide, by decide⟩ ?_
  refine WP.getI rfl rfl ?_
  refine WP.putI rfl rfl ?_
  show WP 58 (28, [(11, a0), (11, a1)], [], s_X9_copyFrom_4 a0 a1 h) Q
  refine WP.retv rfl ?_; exact kk
theorem c_X9_copyFrom (a0 : Int) (a1 : Int) (h : pH) : CP 58 [(11, a0), (11, a1)] h (fun r h1 => r = none ∧ h1 = H_X9_copyFrom a0 a1 h) := w_X9_copyFrom a0 a1 h ⟨rfl, rfl⟩
noncomputable def H_X9_refuse (a0 : Int) (a1 : Int) (a2 : Int) (h : pH) : pH := pm_upd h a0 5 ((10 * a1) + a2)
noncomputable def P_X9_refuse (a0 : Int) (a1 : Int) (a2 : Int) (h : pH) : Prop := (fx_i (10 * a1)) ∧ (fx_i ((10 * a1) + a2))
set_option maxHeartbeats 4000000 in
theorem w_X9_refuse (a0 : Int) (a1 : Int) (a2 : Int) (h : pH) {Q : Option pV → pH → Prop} (hp : P_X9_refuse a0 a1 a2 h) (kk : Q (none) (H_X9_refuse a0 a1 a2 h)) : WP 62 (0, [(11, a0), (0, a1), (0, a2)], [], h) Q := by
  unfold P_X9_refuse at hp
  obtain ⟨o1, o2⟩ := hp
  refine WP.aload_n rfl rfl ⟨by decide, by decide⟩ ?_
  refine WP.bipush rfl ?_
  refine WP.iload_n rfl rfl ?_
  refine WP.imulE rfl o1 ?_
  refine WP.iload_n rfl rfl ?_
  refine WP.iaddE rfl o2 ?_
  refine WP.putI rfl rfl ?_
  refine WP.retv rfl ?_; exact kk
theorem c_X9_refuse (a0 : Int) (a1 : Int) (a2 : Int) (h : pH) (hp : P_X9_refuse a0 a1 a2 h) : CP 62 [(11, a0), (0, a1), (0, a2)] h (fun r h1 => r = none ∧ h1 = H_X9_refuse a0 a1 a2 h) := w_X9_refuse a0 a1 a2 h hp ⟨rfl, rfl⟩
noncomputable def F_X9_binding (a0 : Int) (h : pH) : Int := if a0 = 33 then 6 else if a0 = 38 then 2 else if a0 = 42 then 5 else if a0 = 43 then 4 else if a0 = 45 then 4 else if a0 = 47 then 5 else if a0 = 60 then 3 else if a0 = 61 then 3 else if a0 = 62 then 3 else if a0 = 124 then 1 else if a0 = 126 then 6 else 0
set_option maxHeartbeats 4000000 in
theorem w_X9_binding (a0 : Int) (h : pH) {Q : Option pV → pH → Prop} (kk : Q (some (0, F_X9_binding a0 h)) (h)) : WP 68 (0, [(0, a0)], [], h) Q := by
  refine WP.iload_n rfl rfl ?_
  refine WP.lsw rfl ?_
  show WP 68 (pm_look [(33, 12), (38, 4), (42, 10), (43, 8), (45, 8), (47, 10), (60, 6), (61, 6), (62, 6), (124, 2), (126, 12)] 14 a0, [(0, a0)], [], h) Q
  refine WP.lk (fun (c1 : a0 = 33) => ?_) (fun (c1 : ¬ a0 = 33) => ?_)
  · show WP 68 (12, [(0, a0)], [], h) Q
    refine WP.bipush rfl ?_
    refine WP.reti rfl ?_; have e := kk; simp only [F_X9_binding, if_pos c1] at e ⊢; exact e
  · refine WP.lk (fun (c2 : a0 = 38) => ?_) (fun (c2 : ¬ a0 = 38) => ?_)
    · show WP 68 (4, [(0, a0)], [], h) Q
      refine WP.iconst rfl ?_
      refine WP.reti rfl ?_; have e := kk; simp only [F_X9_binding, if_neg (c1), if_pos c2] at e ⊢; exact e
    · refine WP.lk (fun (c3 : a0 = 42) => ?_) (fun (c3 : ¬ a0 = 42) => ?_)
      · show WP 68 (10, [(0, a0)], [], h) Q
        refine WP.iconst rfl ?_
        refine WP.reti rfl ?_; have e := kk; simp only [F_X9_binding, if_neg (c1), if_neg (c2), if_pos c3] at e ⊢; exact e
      · refine WP.lk (fun (c4 : a0 = 43) => ?_) (fun (c4 : ¬ a0 = 43) => ?_)
        · show WP 68 (8, [(0, a0)], [], h) Q
          refine WP.iconst rfl ?_
          refine WP.reti rfl ?_; have e := kk; simp only [F_X9_binding, if_neg (c1), if_neg (c2), if_neg (c3), if_pos c4] at e ⊢; exact e
        · refine WP.lk (fun (c5 : a0 = 45) => ?_) (fun (c5 : ¬ a0 = 45) => ?_)
          · show WP 68 (8, [(0, a0)], [], h) Q
            refine WP.iconst rfl ?_
            refine WP.reti rfl ?_; have e := kk; simp only [F_X9_binding, if_neg (c1), if_neg (c2), if_neg (c3), if_neg (c4), if_pos c5] at e ⊢; exact e
          · refine WP.lk (fun (c6 : a0 = 47) => ?_) (fun (c6 : ¬ a0 = 47) => ?_)
            · show WP 68 (10, [(0, a0)], [], h) Q
              refine WP.iconst rfl ?_
              refine WP.reti rfl ?_; have e := kk; simp only [F_X9_binding, if_neg (c1), if_neg (c2), if_neg (c3), if_neg (c4), if_neg (c5), if_pos c6] at e ⊢; exact e
            · refine WP.lk (fun (c7 : a0 = 60) => ?_) (fun (c7 : ¬ a0 = 60) => ?_)
              · show WP 68 (6, [(0, a0)], [], h) Q
                refine WP.iconst rfl ?_
                refine WP.reti rfl ?_; have e := kk; simp only [F_X9_binding, if_neg (c1), if_neg (c2), if_neg (c3), if_neg (c4), if_neg (c5), if_neg (c6), if_pos c7] at e ⊢; exact e
              · refine WP.lk (fun (c8 : a0 = 61) => ?_) (fun (c8 : ¬ a0 = 61) => ?_)
                · show WP 68 (6, [(0, a0)], [], h) Q
                  refine WP.iconst rfl ?_
                  refine WP.reti rfl ?_; have e := kk; simp only [F_X9_binding, if_neg (c1), if_neg (c2), if_neg (c3), if_neg (c4), if_neg (c5), if_neg (c6), if_neg (c7), if_pos c8] at e ⊢; exact e
                · refine WP.lk (fun (c9 : a0 = 62) => ?_) (fun (c9 : ¬ a0 = 62) => ?_)
                  · show WP 68 (6, [(0, a0)], [], h) Q
                    refine WP.iconst rfl ?_
                    refine WP.reti rfl ?_; have e := kk; simp only [F_X9_binding, if_neg (c1), if_neg (c2), if_neg (c3), if_neg (c4), if_neg (c5), if_neg (c6), if_neg (c7), if_neg (c8), if_pos c9] at e ⊢; exact e
                  · refine WP.lk (fun (c10 : a0 = 124) => ?_) (fun (c10 : ¬ a0 = 124) => ?_)
                    · show WP 68 (2, [(0, a0)], [], h) Q
                      refine WP.iconst rfl ?_
                      refine WP.reti rfl ?_; have e := kk; simp only [F_X9_binding, if_neg (c1), if_neg (c2), if_neg (c3), if_neg (c4), if_neg (c5), if_neg (c6), if_neg (c7), if_neg (c8), if_neg (c9), if_pos c10] at e ⊢; exact e
                    · refine WP.lk (fun (c11 : a0 = 126) => ?_) (fun (c11 : ¬ a0 = 126) => ?_)
                      · show WP 68 (12, [(0, a0)], [], h) Q
                        refine WP.bipush rfl ?_
                        refine WP.reti rfl ?_; have e := kk; simp only [F_X9_binding, if_neg (c1), if_neg (c2), if_neg (c3), if_neg (c4), if_neg (c5), if_neg (c6), if_neg (c7), if_neg (c8), if_neg (c9), if_neg (c10), if_pos c11] at e ⊢; exact e
                      · show WP 68 (14, [(0, a0)], [], h) Q
                        refine WP.iconst rfl ?_
                        refine WP.reti rfl ?_; have e := kk; simp only [F_X9_binding, if_neg (c1), if_neg (c2), if_neg (c3), if_neg (c4), if_neg (c5), if_neg (c6), if_neg (c7), if_neg (c8), if_neg (c9), if_neg (c10), if_neg (c11)] at e ⊢; exact e
theorem c_X9_binding (a0 : Int) (h : pH) : CP 68 [(0, a0)] h (fun r h1 => r = some (0, F_X9_binding a0 h) ∧ h1 = h) := w_X9_binding a0 h ⟨rfl, rfl⟩
noncomputable def s_X9_put_1 (a0 : Int) (a1 : Int) (h : pH) : pH := pm_upd (pm_upd h (a0 + 2) (h a0 6) a1) a0 6 (((pm_upd h (a0 + 2) (h a0 6) a1) a0 6) + 1)
noncomputable def H_X9_put (a0 : Int) (a1 : Int) (h : pH) : pH := if 60 ≤ h a0 6 then h else s_X9_put_1 a0 a1 h
noncomputable def P_X9_put (a0 : Int) (a1 : Int) (h : pH) : Prop := (((h a0 6 < 60) → ((0 ≤ h a0 6 ∧ h a0 6 < 60) ∧ (fx_i (((pm_upd h (a0 + 2) (h a0 6) a1) a0 6) + 1)))))
set_option maxHeartbeats 4000000 in
theorem w_X9_put (a0 : Int) (a1 : Int) (h : pH) {Q : Option pV → pH → Prop} (hp : P_X9_put a0 a1 h) (kk : Q (none) (H_X9_put a0 a1 h)) : WP 70 (0, [(11, a0), (0, a1)], [], h) Q := by
  unfold P_X9_put at hp
  have q7 := hp
  refine WP.aload_n rfl rfl ⟨by decide, by decide⟩ ?_
  refine WP.getI rfl rfl ?_
  refine WP.bipush rfl ?_
  have k1 : ∀ Q' : Option pV → pH → Prop, (WP 70 (16, [(11, a0), (0, a1)], [], if 60 ≤ h a0 6 then h else s_X9_put_1 a0 a1 h) Q') → WP 70 (3, [(11, a0), (0, a1)], [(0, 60), (0, h a0 6)], h) Q' := fun Q' kk => by
    have q5 := q7
    refine WP.ni_ge rfl (fun c2 => ?_) (fun c2 => ?_)
    · have e := kk; simp only [if_pos c2] at e ⊢; exact e
    · obtain ⟨o3, o4⟩ := q5 c2
      refine WP.aload_n rfl rfl ⟨by decide, by decide⟩ ?_
      refine WP.getR rfl rfl ?_
      refine WP.aload_n rfl rfl ⟨by decide, by decide⟩ ?_
      refine WP.getI rfl rfl ?_
      refine WP.iload_n rfl rfl ?_
      refine WP.iastore rfl ⟨by decide, by decide, by decide⟩ o3 ?_
      refine WP.aload_n rfl rfl ⟨by decide, by decide⟩ ?_
      refine WP.dup rfl (by decide) ?_
      refine WP.getI rfl rfl ?_
      refine WP.iconst rfl ?_
      refine WP.iaddE rfl o4 ?_
      refine WP.putI rfl rfl ?_
      show WP 70 (16, [(11, a0), (0, a1)], [], s_X9_put_1 a0 a1 h) Q'
      have e := kk; simp only [if_neg (Int.not_le.mpr c2)] at e ⊢; exact e
  refine k1 _ ?_
  refine WP.retv rfl ?_; exact kk
theorem c_X9_put (a0 : Int) (a1 : Int) (h : pH) (hp : P_X9_put a0 a1 h) : CP 70 [(11, a0), (0, a1)] h (fun r h1 => r = none ∧ h1 = H_X9_put a0 a1 h) := w_X9_put a0 a1 h hp ⟨rfl, rfl⟩
noncomputable def s_X9_await_1 (a0 : Int) (a1 : Int) (h : pH) : pH := pm_upd (pm_upd h (a0 + 3) (h a0 7) a1) a0 7 (((pm_upd h (a0 + 3) (h a0 7) a1) a0 7) + 1)
noncomputable def H_X9_await (a0 : Int) (a1 : Int) (h : pH) : pH := if 60 ≤ h a0 7 then h else s_X9_await_1 a0 a1 h
noncomputable def P_X9_await (a0 : Int) (a1 : Int) (h : pH) : Prop := (((h a0 7 < 60) → ((0 ≤ h a0 7 ∧ h a0 7 < 60) ∧ (fx_i (((pm_upd h (a0 + 3) (h a0 7) a1) a0 7) + 1)))))
set_option maxHeartbeats 4000000 in
theorem w_X9_await (a0 : Int) (a1 : Int) (h : pH) {Q : Option pV → pH → Prop} (hp : P_X9_await a0 a1 h) (kk : Q (none) (H_X9_await a0 a1 h)) : WP 71 (0, [(11, a0), (0, a1)], [], h) Q := by
  unfold P_X9_await at hp
  have q7 := hp
  refine WP.aload_n rfl rfl ⟨by decide, by decide⟩ ?_
  refine WP.getI rfl rfl ?_
  refine WP.bipush rfl ?_
  have k1 : ∀ Q' : Option pV → pH → Prop, (WP 71 (16, [(11, a0), (0, a1)], [], if 60 ≤ h a0 7 then h else s_X9_await_1 a0 a1 h) Q') → WP 71 (3, [(11, a0), (0, a1)], [(0, 60), (0, h a0 7)], h) Q' := fun Q' kk => by
    have q5 := q7
    refine WP.ni_ge rfl (fun c2 => ?_) (fun c2 => ?_)
    · have e := kk; simp only [if_pos c2] at e ⊢; exact e
    · obtain ⟨o3, o4⟩ := q5 c2
      refine WP.aload_n rfl rfl ⟨by decide, by decide⟩ ?_
      refine WP.getR rfl rfl ?_
      refine WP.aload_n rfl rfl ⟨by decide, by decide⟩ ?_
      refine WP.getI rfl rfl ?_
      refine WP.iload_n rfl rfl ?_
      refine WP.iastore rfl ⟨by decide, by decide, by decide⟩ o3 ?_
      refine WP.aload_n rfl rfl ⟨by decide, by decide⟩ ?_
      refine WP.dup rfl (by decide) ?_
      refine WP.getI rfl rfl ?_
      refine WP.iconst rfl ?_
      refine WP.iaddE rfl o4 ?_
      refine WP.putI rfl rfl ?_
      show WP 71 (16, [(11, a0), (0, a1)], [], s_X9_await_1 a0 a1 h) Q'
      have e := kk; simp only [if_neg (Int.not_le.mpr c2)] at e ⊢; exact e
  refine k1 _ ?_
  refine WP.retv rfl ?_; exact kk
theorem c_X9_await (a0 : Int) (a1 : Int) (h : pH) (hp : P_X9_await a0 a1 h) : CP 71 [(11, a0), (0, a1)] h (fun r h1 => r = none ∧ h1 = H_X9_await a0 a1 h) := w_X9_await a0 a1 h hp ⟨rfl, rfl⟩
noncomputable def s_X9_joined_1 (a1 : Int) (a2 : Int) : Int := if a1 = 0 then 0 else if a2 = 0 then 0 else 1
noncomputable def s_X9_joined_2 (a1 : Int) (a2 : Int) : Int := if a2 = 0 then 0 else pm_wl (Int.tdiv a1 a2)
noncomputable def s_X9_joined_3 (a1 : Int) (a2 : Int) : Int := if a2 ≤ a1 then 0 else 1
noncomputable def s_X9_joined_4 (a1 : Int) (a2 : Int) : Int := if a1 = a2 then 1 else 0
noncomputable def s_X9_joined_5 (a1 : Int) (a2 : Int) : Int := if a1 ≤ a2 then 0 else 1
noncomputable def s_X9_joined_6 (a1 : Int) (a2 : Int) : Int := if a1 = 0 then if a2 = 0 then 0 else 1 else 1
noncomputable def F_X9_joined (a0 : Int) (a1 : Int) (a2 : Int) (h : pH) : Int := if a0 = 38 then s_X9_joined_1 a1 a2 else if a0 = 42 then pm_wl (a1 * a2) else if a0 = 43 then pm_wl (a1 + a2) else if a0 = 45 then pm_wl (a1 - a2) else if a0 = 47 then s_X9_joined_2 a1 a2 else if a0 = 60 then s_X9_joined_3 a1 a2 else if a0 = 61 then s_X9_joined_4 a1 a2 else if a0 = 62 then s_X9_joined_5 a1 a2 else if a0 = 124 then s_X9_joined_6 a1 a2 else 0
noncomputable def P_X9_joined (a0 : Int) (a1 : Int) (a2 : Int) (h : pH) : Prop := ((¬ a0 = 38) → (((¬ a0 = 42) → (((¬ a0 = 43) → (((¬ a0 = 45) → (((a0 = 47) → ((((¬ a2 = 0) → ((a2 ≠ 0))))))))))))))
set_option maxHeartbeats 4000000 in
theorem w_X9_joined (a0 : Int) (a1 : Int) (a2 : Int) (h : pH) {Q : Option pV → pH → Prop} (hp : P_X9_joined a0 a1 a2 h) (kk : Q (some (1, F_X9_joined a0 a1 a2 h)) (h)) : WP 74 (0, [(0, a0), (1, a1), pU, (1, a2), pU], [], h) Q := by
  unfold P_X9_joined at hp
  have q37 := hp
  refine WP.iload_n rfl rfl ?_
  refine WP.lsw rfl ?_
  show WP 74 (pm_look [(38, 14), (42, 58), (43, 50), (45, 54), (47, 62), (60, 26), (61, 42), (62, 34), (124, 2)] 72 a0, [(0, a0), (1, a1), pU, (1, a2), pU], [], h) Q
  refine WP.lk (fun (c1 : a0 = 38) => ?_) (fun (c1 : ¬ a0 = 38) => ?_)
  · show WP 74 (14, [(0, a0), (1, a1), pU, (1, a2), pU], [], h) Q
    refine WP.lload_n rfl rfl ?_
    refine WP.lconst rfl ?_
    refine WP.lcmp rfl ?_
    have k2 : ∀ Q' : Option pV → pH → Prop, (WP 74 (25, [(0, a0), (1, a1), pU, (1, a2), pU], [(1, s_X9_joined_1 a1 a2)], h) Q') → WP 74 (17, [(0, a0), (1, a1), pU, (1, a2), pU], [(0, pm_lcmp a1 0)], h) Q' := fun Q' kk => by
      refine WP.nl_eq rfl (fun c3 => ?_) (fun c3 => ?_)
      · refine WP.lconst rfl ?_
        have e := kk; simp only [s_X9_joined_1, if_pos c3] at e ⊢; exact e
      · refine WP.lload_n rfl rfl ?_
        refine WP.lconst rfl ?_
        refine WP.lcmp rfl ?_
        refine WP.nl_eq rfl (fun c4 => ?_) (fun c4 => ?_)
        · refine WP.lconst rfl ?_
          have e := kk; simp only [s_X9_joined_1, if_neg (c3), if_pos c4] at e ⊢; exact e
        · refine WP.lconst rfl ?_
          refine WP.goto rfl ?_
          have e := kk; simp only [s_X9_joined_1, if_neg (c3), if_neg (c4)] at e ⊢; exact e
    refine k2 _ ?_
    refine WP.retl rfl ?_; have e := kk; simp only [F_X9_joined, if_pos c1] at e ⊢; exact e
  · have q36 := q37 c1
    refine WP.lk (fun (c6 : a0 = 42) => ?_) (fun (c6 : ¬ a0 = 42) => ?_)
    · show WP 74 (58, [(0, a0), (1, a1), pU, (1, a2), pU], [], h) Q
      refine WP.lload_n rfl rfl ?_
      refine WP.lload_n rfl rfl ?_
      refine WP.lmul rfl ?_
      refine WP.retl rfl ?_; have e := kk; simp only [F_X9_joined, if_neg (c1), if_pos c6] at e ⊢; exact e
    · have q35 := q36 c6
      refine WP.lk (fun (c7 : a0 = 43) => ?_) (fun (c7 : ¬ a0 = 43) => ?_)
      · show WP 74 (50, [(0, a0), (1, a1), pU, (1, a2), pU], [], h) Q
        refine WP.lload_n rfl rfl ?_
        refine WP.lload_n rfl rfl ?_
        refine WP.ladd rfl ?_
        refine WP.retl rfl ?_; have e := kk; simp only [F_X9_joined, if_neg (c1), if_neg (c6), if_pos c7] at e ⊢; exact e
      · have q34 := q35 c7
        refine WP.lk (fun (c8 : a0 = 45) => ?_) (fun (c8 : ¬ a0 = 45) => ?_)
        · show WP 74 (54, [(0, a0), (1, a1), pU, (1, a2), pU], [], h) Q
          refine WP.lload_n rfl rfl ?_
          refine WP.lload_n rfl rfl ?_
          refine WP.lsub rfl ?_
          refine WP.retl rfl ?_; have e := kk; simp only [F_X9_joined, if_neg (c1), if_neg (c6), if_neg (c7), if_pos c8] at e ⊢; exact e
        · have q33 := q34 c8
          refine WP.lk (fun (c9 : a0 = 47) => ?_) (fun (c9 : ¬ a0 = 47) => ?_)
          · have q15 := q33 c9
            show WP 74 (62, [(0, a0), (1, a1), pU, (1, a2), pU], [], h) Q
            refine WP.lload_n rfl rfl ?_
            refine WP.lconst rfl ?_
            refine WP.lcmp rfl ?_
            have k10 : ∀ Q' : Option pV → pH → Prop, (WP 74 (71, [(0, a0), (1, a1), pU, (1, a2), pU], [(1, s_X9_joined_2 a1 a2)], h) Q') → WP 74 (65, [(0, a0), (1, a1), pU, (1, a2), pU], [(0, pm_lcmp a2 0)], h) Q' := fun Q' kk => by
              have q13 := q15
              refine WP.nl_ne rfl (fun c11 => ?_) (fun c11 => ?_)
              · have o12 := q13 c11
                refine WP.lload_n rfl rfl ?_
                refine WP.lload_n rfl rfl ?_
                refine WP.ldiv rfl o12 ?_
                have e := kk; simp only [s_X9_joined_2, if_neg (c11)] at e ⊢; exact e
              · refine WP.lconst rfl ?_
                refine WP.goto rfl ?_
                have e := kk; simp only [s_X9_joined_2, if_pos c11] at e ⊢; exact e
            refine k10 _ ?_
            refine WP.retl rfl ?_; have e := kk; simp only [F_X9_joined, if_neg (c1), if_neg (c6), if_neg (c7), if_neg (c8), if_pos c9] at e ⊢; exact e
          · refine WP.lk (fun (c16 : a0 = 60) => ?_) (fun (c16 : ¬ a0 = 60) => ?_)
            · show WP 74 (26, [(0, a0), (1, a1), pU, (1, a2), pU], [], h) Q
              refine WP.lload_n rfl rfl ?_
              refine WP.lload_n rfl rfl ?_
              refine WP.lcmp rfl ?_
              have k17 : ∀ Q' : Option pV → pH → Prop, (WP 74 (33, [(0, a0), (1, a1), pU, (1, a2), pU], [(1, s_X9_joined_3 a1 a2)], h) Q') → WP 74 (29, [(0, a0), (1, a1), pU, (1, a2), pU], [(0, pm_lcmp a1 a2)], h) Q' := fun Q' kk => by
                refine WP.nl_ge rfl (fun c18 => ?_) (fun c18 => ?_)
                · refine WP.lconst rfl ?_
                  have e := kk; simp only [s_X9_joined_3, if_pos c18] at e ⊢; exact e
                · refine WP.lconst rfl ?_
                  refine WP.goto rfl ?_
                  have e := kk; simp only [s_X9_joined_3, if_neg (Int.not_le.mpr c18)] at e ⊢; exact e
              refine k17 _ ?_
              refine WP.retl rfl ?_; have e := kk; simp only [F_X9_joined, if_neg (c1), if_neg (c6), if_neg (c7), if_neg (c8), if_neg (c9), if_pos c16] at e ⊢; exact e
            · refine WP.lk (fun (c20 : a0 = 61) => ?_) (fun (c20 : ¬ a0 = 61) => ?_)
              · show WP 74 (42, [(0, a0), (1, a1), pU, (1, a2), pU], [], h) Q
                refine WP.lload_n rfl rfl ?_
                refine WP.lload_n rfl rfl ?_
                refine WP.lcmp rfl ?_
                have k21 : ∀ Q' : Option pV → pH → Prop, (WP 74 (49, [(0, a0), (1, a1), pU, (1, a2), pU], [(1, s_X9_joined_4 a1 a2)], h) Q') → WP 74 (45, [(0, a0), (1, a1), pU, (1, a2), pU], [(0, pm_lcmp a1 a2)], h) Q' := fun Q' kk => by
                  refine WP.nl_ne rfl (fun c22 => ?_) (fun c22 => ?_)
                  · refine WP.lconst rfl ?_
                    have e := kk; simp only [s_X9_joined_4, if_neg (c22)] at e ⊢; exact e
                  · refine WP.lconst rfl ?_
                    refine WP.goto rfl ?_
                    have e := kk; simp only [s_X9_joined_4, if_pos c22] at e ⊢; exact e
                refine k21 _ ?_
                refine WP.retl rfl ?_; have e := kk; simp only [F_X9_joined, if_neg (c1), if_neg (c6), if_neg (c7), if_neg (c8), if_neg (c9), if_neg (c16), if_pos c20] at e ⊢; exact e
              · refine WP.lk (fun (c24 : a0 = 62) => ?_) (fun (c24 : ¬ a0 = 62) => ?_)
                · show WP 74 (34, [(0, a0), (1, a1), pU, (1, a2), pU], [], h) Q
                  refine WP.lload_n rfl rfl ?_
                  refine WP.lload_n rfl rfl ?_
                  refine WP.lcmp rfl ?_
                  have k25 : ∀ Q' : Option pV → pH → Prop, (WP 74 (41, [(0, a0), (1, a1), pU, (1, a2), pU], [(1, s_X9_joined_5 a1 a2)], h) Q') → WP 74 (37, [(0, a0), (1, a1), pU, (1, a2), pU], [(0, pm_lcmp a1 a2)], h) Q' := fun Q' kk => by
                    refine WP.nl_le rfl (fun c26 => ?_) (fun c26 => ?_)
                    · refine WP.lconst rfl ?_
                      have e := kk; simp only [s_X9_joined_5, if_pos c26] at e ⊢; exact e
                    · refine WP.lconst rfl ?_
                      refine WP.goto rfl ?_
                      have e := kk; simp only [s_X9_joined_5, if_neg (Int.not_le.mpr c26)] at e ⊢; exact e
                  refine k25 _ ?_
                  refine WP.retl rfl ?_; have e := kk; simp only [F_X9_joined, if_neg (c1), if_neg (c6), if_neg (c7), if_neg (c8), if_neg (c9), if_neg (c16), if_neg (c20), if_pos c24] at e ⊢; exact e
                · refine WP.lk (fun (c28 : a0 = 124) => ?_) (fun (c28 : ¬ a0 = 124) => ?_)
                  · show WP 74 (2, [(0, a0), (1, a1), pU, (1, a2), pU], [], h) Q
                    refine WP.lload_n rfl rfl ?_
                    refine WP.lconst rfl ?_
                    refine WP.lcmp rfl ?_
                    have k29 : ∀ Q' : Option pV → pH → Prop, (WP 74 (13, [(0, a0), (1, a1), pU, (1, a2), pU], [(1, s_X9_joined_6 a1 a2)], h) Q') → WP 74 (5, [(0, a0), (1, a1), pU, (1, a2), pU], [(0, pm_lcmp a1 0)], h) Q' := fun Q' kk => by
                      refine WP.nl_ne rfl (fun c30 => ?_) (fun c30 => ?_)
                      · refine WP.lconst rfl ?_
                        refine WP.goto rfl ?_
                        have e := kk; simp only [s_X9_joined_6, if_neg (c30)] at e ⊢; exact e
                      · refine WP.lload_n rfl rfl ?_
                        refine WP.lconst rfl ?_
                        refine WP.lcmp rfl ?_
                        refine WP.nl_eq rfl (fun c31 => ?_) (fun c31 => ?_)
                        · refine WP.lconst rfl ?_
                          have e := kk; simp only [s_X9_joined_6, if_pos c30, if_pos c31] at e ⊢; exact e
                        · refine WP.lconst rfl ?_
                          refine WP.goto rfl ?_
                          have e := kk; simp only [s_X9_joined_6, if_pos c30, if_neg (c31)] at e ⊢; exact e
                    refine k29 _ ?_
                    refine WP.retl rfl ?_; have e := kk; simp only [F_X9_joined, if_neg (c1), if_neg (c6), if_neg (c7), if_neg (c8), if_neg (c9), if_neg (c16), if_neg (c20), if_neg (c24), if_pos c28] at e ⊢; exact e
                  · show WP 74 (72, [(0, a0), (1, a1), pU, (1, a2), pU], [], h) Q
                    refine WP.lconst rfl ?_
                    refine WP.retl rfl ?_; have e := kk; simp only [F_X9_joined, if_neg (c1), if_neg (c6), if_neg (c7), if_neg (c8), if_neg (c9), if_neg (c16), if_neg (c20), if_neg (c24), if_neg (c28)] at e ⊢; exact e
theorem c_X9_joined (a0 : Int) (a1 : Int) (a2 : Int) (h : pH) (hp : P_X9_joined a0 a1 a2 h) : CP 74 [(0, a0), (1, a1), (1, a2)] h (fun r h1 => r = some (1, F_X9_joined a0 a1 a2 h) ∧ h1 = h) := w_X9_joined a0 a1 a2 h hp ⟨rfl, rfl⟩
noncomputable def s_X10_copyFrom_1 (a0 : Int) (a1 : Int) (h : pH) : pH := pm_cpy (pm_cpy h (a1 + 1) 0 (a0 + 1) 0 8) (a1 + 2) 0 (a0 + 2) 0 8
noncomputable def s_X10_copyFrom_2 (a0 : Int) (a1 : Int) (h : pH) : pH := pm_cpy (pm_cpy (s_X10_copyFrom_1 a0 a1 h) (a1 + 3) 0 (a0 + 3) 0 8) (a1 + 4) 0 (a0 + 4) 0 16
noncomputable def s_X10_copyFrom_3 (a0 : Int) (a1 : Int) (h : pH) : pH := pm_cpy (pm_cpy (s_X10_copyFrom_2 a0 a1 h) (a1 + 5) 0 (a0 + 5) 0 16) (a1 + 6) 0 (a0 + 6) 0 16
noncomputable def s_X10_copyFrom_4 (a0 : Int) (a1 : Int) (h : pH) : pH := pm_cpy (pm_cpy (s_X10_copyFrom_3 a0 a1 h) (a1 + 7) 0 (a0 + 7) 0 16) (a1 + 8) 0 (a0 + 8) 0 16
noncomputable def s_X10_copyFrom_5 (a0 : Int) (a1 : Int) (h : pH) : pH := pm_cpy (pm_cpy (s_X10_copyFrom_4 a0 a1 h) (a1 + 9) 0 (a0 + 9) 0 16) (a1 + 10) 0 (a0 + 10) 0 16
noncomputable def s_X10_copyFrom_6 (a0 : Int) (a1 : Int) (h : pH) : pH := pm_cpy (pm_cpy (s_X10_copyFrom_5 a0 a1 h) (a1 + 11) 0 (a0 + 11) 0 16) (a1 + 12) 0 (a0 + 12) 0 16
noncomputable def s_X10_copyFrom_7 (a0 : Int) (a1 : Int) (h : pH) : pH := pm_cpy (pm_cpy (s_X10_copyFrom_6 a0 a1 h) (a1 + 14) 0 (a0 + 14) 0 16) (a1 + 15) 0 (a0 + 15) 0 16
noncomputable def s_X10_copyFrom_8 (a0 : Int) (a1 : Int) (h : pH) : pH := pm_upd (s_X10_copyFrom_7 a0 a1 h) a0 15 ((s_X10_copyFrom_7 a0 a1 h) a1 15)
noncomputable def H_X10_copyFrom (a0 : Int) (a1 : Int) (h : pH) : pH := s_X10_copyFrom_8 a0 a1 h
set_option maxHeartbeats 4000000 in
theorem w_X10_copyFrom (a0 : Int) (a1 : Int) (h : pH) {Q : Option pV → pH → Prop} (kk : Q (none) (H_X10_copyFrom a0 a1 h)) : WP 75 (0, [(12, a0), (12, a1)], [], h) Q := by
  refine WP.aload_n rfl rfl ⟨by decide, by decide⟩ ?_
  refine WP.getR rfl rfl ?_
  refine WP.iconst rfl ?_
  refine WP.aload_n rfl rfl ⟨by decide, by decide⟩ ?_
  refine WP.getR rfl rfl ?_
  refine WP.iconst rfl ?_
  refine WP.bipush rfl ?_
  refine WP.acopy rfl rfl ⟨by decide, by decide, by decide⟩ ⟨by decide, by decide, by decide⟩ (by decide) ?_
  refine WP.aload_n rfl rfl ⟨by decide, by decide⟩ ?_
  refine WP.getR rfl rfl ?_
  refine WP.iconst rfl ?_
  refine WP.aload_n rfl rfl ⟨by decide, by decide⟩ ?_
  refine WP.getR rfl rfl ?_
  refine WP.iconst rfl ?_
  refine WP.bipush rfl ?_
  refine WP.acopy rfl rfl ⟨by decide, by decide, by decide⟩ ⟨by decide, by decide, by decide⟩ (by decide) ?_
  show WP 75 (16, [(12, a0), (12, a1)], [], s_X10_copyFrom_1 a0 a1 h) Q
  refine WP.aload_n rfl rfl ⟨by decide, by decide⟩ ?_
  refine WP.getR rfl rfl ?_
  refine WP.iconst rfl ?_
  refine WP.aload_n rfl rfl ⟨by decide, by decide⟩ ?_
  refine WP.getR rfl rfl ?_
  refine WP.iconst rfl ?_
  refine WP.bipush rfl ?_
  refine WP.acopy rfl rfl ⟨by decide, by decide, by decide⟩ ⟨by decide, by decide, by decide⟩ (by decide) ?_
  refine WP.aload_n rfl rfl ⟨by decide, by decide⟩ ?_
  refine WP.getR rfl rfl ?_
  refine WP.iconst rfl ?_
  refine WP.aload_n rfl rfl ⟨by decide, by decide⟩ ?_
  refine WP.getR rfl rfl ?_
  refine WP.iconst rfl ?_
  refine WP.bipush rfl ?_
  refine WP.acopy rfl rfl ⟨by decide, by decide, by decide⟩ ⟨by decide, by decide, by decide⟩ (by decide) ?_
  show WP 75 (32, [(12, a0), (12, a1)], [], s_X10_copyFrom_2 a0 a1 h) Q
  refine WP.aload_n rfl rfl ⟨by decide, by decide⟩ ?_
  refine WP.getR rfl rfl ?_
  refine WP.iconst rfl ?_
  refine WP.aload_n rfl rfl ⟨by decide, by decide⟩ ?_
  refine WP.getR rfl rfl ?_
  refine WP.iconst rfl ?_
  refine WP.bipush rfl ?_
  refine WP.acopy rfl rfl ⟨by decide, by decide, by decide⟩ ⟨by decide, by decide, by decide⟩ (by decide) ?_
  refine WP.aload_n rfl rfl ⟨by decide, by decide⟩ ?_
  refine WP.getR rfl rfl ?_
  refine WP.iconst rfl ?_
  refine WP.aload_n rfl rfl ⟨by decide, by decide⟩ ?_
  refine WP.getR rfl rfl ?_
  refine WP.iconst rfl ?_
  refine WP.bipush rfl ?_
  refine WP.acopy rfl rfl ⟨by decide, by decide, by decide⟩ ⟨by decide, by decide, by decide⟩ (by decide) ?_
  show WP 75 (48, [(12, a0), (12, a1)], [], s_X10_copyFrom_3 a0 a1 h) Q
  refine WP.aload_n rfl rfl ⟨by decide, by decide⟩ ?_
  refine WP.getR rfl rfl ?_
  refine WP.iconst rfl ?_
  refine WP.aload_n rfl rfl ⟨by decide, by decide⟩ ?_
  refine WP.getR rfl rfl ?_
  refine WP.iconst rfl ?_
  refine WP.bipush rfl ?_
  refine WP.acopy rfl rfl ⟨by decide, by decide, by decide⟩ ⟨by decide, by decide, by decide⟩ (by decide) ?_
  refine WP.aload_n rfl rfl ⟨by decide, by decide⟩ ?_
  refine WP.getR rfl rfl ?_
  refine WP.iconst rfl ?_
  refine WP.aload_n rfl rfl ⟨by decide, by decide⟩ ?_
  refine WP.getR rfl rfl ?_
  refine WP.iconst rfl ?_
  refine WP.bipush rfl ?_
  refine WP.acopy rfl rfl ⟨by decide, by decide, by decide⟩ ⟨by decide, by decide, by decide⟩ (by decide) ?_
  show WP 75 (64, [(12, a0), (12, a1)], [], s_X10_copyFrom_4 a0 a1 h) Q
  refine WP.aload_n rfl rfl ⟨by decide, by decide⟩ ?_
  refine WP.getR rfl rfl ?_
  refine WP.iconst rfl ?_
  refine WP.aload_n rfl rfl ⟨by decide, by decide⟩ ?_
  refine WP.getR rfl rfl ?_
  refine WP.iconst rfl ?_
  refine WP.bipush rfl ?_
  refine WP.acopy rfl rfl ⟨by decide, by decide, by decide⟩ ⟨by decide, by decide, by decide⟩ (by decide) ?_
  refine WP.aload_n rfl rfl ⟨by decide, by decide⟩ ?_
  refine WP.getR rfl rfl ?_
  refine WP.iconst rfl ?_
  refine WP.aload_n rfl rfl ⟨by decide, by decide⟩ ?_
  refine WP.getR rfl rfl ?_
  refine WP.iconst rfl ?_
  refine WP.bipush rfl ?_
  refine WP.acopy rfl rfl ⟨by decide, by decide, by decide⟩ ⟨by decide, by decide, by decide⟩ (by decide) ?_
  show WP 75 (80, [(12, a0), (12, a1)], [], s_X10_copyFrom_5 a0 a1 h) Q
  refine WP.aload_n rfl rfl ⟨by decide, by decide⟩ ?_
  refine WP.getR rfl rfl ?_
  refine WP.iconst rfl ?_
  refine WP.aload_n rfl rfl ⟨by decide, by decide⟩ ?_
  refine WP.getR rfl rfl ?_
  refine WP.iconst rfl ?_
  refine WP.bipush rfl ?_
  refine WP.acopy rfl rfl ⟨by decide, by decide, by decide⟩ ⟨by decide, by decide, by decide⟩ (by decide) ?_
  refine WP.aload_n rfl rfl ⟨by decide, by decide⟩ ?_
  refine WP.getR rfl rfl ?_
  refine WP.iconst rfl ?_
  refine WP.aload_n rfl rfl ⟨by decide, by decide⟩ ?_
  refine WP.getR rfl rfl ?_
  refine WP.iconst rfl ?_
  refine WP.bipush rfl ?_
  refine WP.acopy rfl rfl ⟨by decide, by decide, by decide⟩ ⟨by decide, by decide, by decide⟩ (by decide) ?_
  show WP 75 (96, [(12, a0), (12, a1)], [], s_X10_copyFrom_6 a0 a1 h) Q
  refine WP.aload_n rfl rfl ⟨by decide, by decide⟩ ?_
  refine WP.getR rfl rfl ?_
  refine WP.iconst rfl ?_
  refine WP.aload_n rfl rfl ⟨by decide, by decide⟩ ?_
  refine WP.getR rfl rfl ?_
  refine WP.iconst rfl ?_
  refine WP.bipush rfl ?_
  refine WP.acopy rfl rfl ⟨by decide, by decide, by decide⟩ ⟨by decide, by decide, by decide⟩ (by decide) ?_
  refine WP.aload_n rfl rfl ⟨by decide, by decide⟩ ?_
  refine WP.getR rfl rfl ?_
  refine WP.iconst rfl ?_
  refine WP.aload_n rfl rfl ⟨by decide, by decide⟩ ?_
  refine WP.getR rfl rfl ?_
  refine WP.iconst rfl ?_
  refine WP.bipush rfl ?_
  refine WP.acopy rfl rfl ⟨by decide, by decide, by decide⟩ ⟨by decide, by decide, by decide⟩ (by decide) ?_
  show WP 75 (112, [(12, a0), (12, a1)], [], s_X10_copyFrom_7 a0 a1 h) Q
  refine WP.aload_n rfl rfl ⟨by decide, by decide⟩ ?_
  refine WP.aload_n rfl rfl ⟨by decide, by decide⟩ ?_
  refine WP.getI rfl rfl ?_
  refine WP.putI rfl rfl ?_
  show WP 75 (116, [(12, a0), (12, a1)], [], s_X10_copyFrom_8 a0 a1 h) Q
  refine WP.retv rfl ?_; exact kk
theorem c_X10_copyFrom (a0 : Int) (a1 : Int) (h : pH) : CP 75 [(12, a0), (12, a1)] h (fun r h1 => r = none ∧ h1 = H_X10_copyFrom a0 a1 h) := w_X10_copyFrom a0 a1 h ⟨rfl, rfl⟩
noncomputable def F_X10_placeInOrder (a0 : Int) (a1 : Int) (h : pH) : Int := ((((h (a0 + 1) (h (a0 + 5) a1)) * 8) + (h (a0 + 5) a1)) * 16) + a1
noncomputable def P_X10_placeInOrder (a0 : Int) (a1 : Int) (h : pH) : Prop := (0 ≤ a1 ∧ a1 < 16) ∧ (0 ≤ h (a0 + 5) a1 ∧ h (a0 + 5) a1 < 8) ∧ (fx_i ((h (a0 + 1) (h (a0 + 5) a1)) * 8)) ∧ (fx_i (((h (a0 + 1) (h (a0 + 5) a1)) * 8) + (h (a0 + 5) a1))) ∧ (fx_i ((((h (a0 + 1) (h (a0 + 5) a1)) * 8) + (h (a0 + 5) a1)) * 16)) ∧ (fx_i (((((h (a0 + 1) (h (a0 + 5) a1)) * 8) + (h (a0 + 5) a1)) * 16) + a1))
set_option maxHeartbeats 4000000 in
theorem w_X10_placeInOrder (a0 : Int) (a1 : Int) (h : pH) {Q : Option pV → pH → Prop} (hp : P_X10_placeInOrder a0 a1 h) (kk : Q (some (0, F_X10_placeInOrder a0 a1 h)) (h)) : WP 82 (0, [(12, a0), (0, a1), pU], [], h) Q := by
  unfold P_X10_placeInOrder at hp
  obtain ⟨o1, o2, o3, o4, o5, o6⟩ := hp
  refine WP.aload_n rfl rfl ⟨by decide, by decide⟩ ?_
  refine WP.getR rfl rfl ?_
  refine WP.iload_n rfl rfl ?_
  refine WP.iaload rfl ⟨by decide, by decide, by decide⟩ o1 ?_
  refine WP.istore_n (L' := [(12, a0), (0, a1), (0, h (a0 + 5) a1)]) rfl rfl ?_
  refine WP.aload_n rfl rfl ⟨by decide, by decide⟩ ?_
  refine WP.getR rfl rfl ?_
  refine WP.iload_n rfl rfl ?_
  refine WP.iaload rfl ⟨by decide, by decide, by decide⟩ o2 ?_
  refine WP.bipush rfl ?_
  refine WP.imulE rfl o3 ?_
  refine WP.iload_n rfl rfl ?_
  refine WP.iaddE rfl o4 ?_
  refine WP.bipush rfl ?_
  refine WP.imulE rfl o5 ?_
  refine WP.iload_n rfl rfl ?_
  refine WP.iaddE rfl o6 ?_
  refine WP.reti rfl ?_; exact kk
theorem c_X10_placeInOrder (a0 : Int) (a1 : Int) (h : pH) (hp : P_X10_placeInOrder a0 a1 h) : CP 82 [(12, a0), (0, a1)] h (fun r h1 => r = some (0, F_X10_placeInOrder a0 a1 h) ∧ h1 = h) := w_X10_placeInOrder a0 a1 h hp ⟨rfl, rfl⟩
noncomputable def s_X10_countIn_1 (a0 : Int) (a1 : Int) (x2 : Int) (x3 : Int) (h : pH) : Int := if h (a0 + 11) x3 = a1 then x2 + 1 else x2
def C_X10_countIn_4 (a0 : Int) (a1 : Int) (h : pH) (x2 : Int) (x3 : Int) : Prop := x3 < h a0 15
noncomputable def B_X10_countIn_4 (a0 : Int) (a1 : Int) (h : pH) (x2 : Int) (x3 : Int) : Int × Int := (s_X10_countIn_1 a0 a1 x2 x3 h, x3 + 1)
noncomputable def P_X10_countIn_4 (a0 : Int) (a1 : Int) (h : pH) (x2 : Int) (x3 : Int) : Prop := ((x3 < h a0 15) → (0 ≤ x3 ∧ x3 < 16) ∧ (((h (a0 + 11) x3 = a1) → ((fx_i (x2 + 1))))) ∧ (fx_i (x3 + 1)))
noncomputable def L_X10_countIn_4 (a0 : Int) (a1 : Int) (h : pH) (x2 : Int) (x3 : Int) : Int × Int := fx_wh (σ := Int × Int) (fun s => C_X10_countIn_4 a0 a1 h s.1 s.2) (fun s => B_X10_countIn_4 a0 a1 h s.1 s.2) (x2, x3)
def O_X10_countIn_4 (a0 : Int) (a1 : Int) (h : pH) (x2 : Int) (x3 : Int) : Prop := fx_ok (σ := Int × Int) (fun s => C_X10_countIn_4 a0 a1 h s.1 s.2) (fun s => B_X10_countIn_4 a0 a1 h s.1 s.2) (fun s => P_X10_countIn_4 a0 a1 h s.1 s.2) (x2, x3)
set_option maxHeartbeats 4000000 in
theorem lp_X10_countIn_4 (a0 : Int) (a1 : Int) (h : pH) (x2 : Int) (x3 : Int) {Q : Option pV → pH → Prop} (hp : O_X10_countIn_4 a0 a1 h x2 x3) (kk : ∀ us : List pV, WP 84 (17, [(12, a0), (0, a1), (0, (L_X10_countIn_4 a0 a1 h x2 x3).1), (0, (L_X10_countIn_4 a0 a1 h x2 x3).2)], [], h) Q) : ∀ us : List pV, WP 84 (4, [(12, a0), (0, a1), (0, x2), (0, x3)], [], h) Q := by
  refine WP.wh (σ := Int × Int) (fun s => C_X10_countIn_4 a0 a1 h s.1 s.2) (fun s => B_X10_countIn_4 a0 a1 h s.1 s.2) (fun s => P_X10_countIn_4 a0 a1 h s.1 s.2) (fun s us => (4, [(12, a0), (0, a1), (0, s.1), (0, s.2)], [], h)) (x2, x3) hp ?_ ?_
  · intro s us hP hc kk
    obtain ⟨x2, x3⟩ := s
    change P_X10_countIn_4 a0 a1 h x2 x3 at hP
    change x3 < h a0 15 at hc
    replace kk : ∀ (us' : List pV) (s' : Int × Int), s' = B_X10_countIn_4 a0 a1 h x2 x3 → WP 84 (4, [(12, a0), (0, a1), (0, s'.1), (0, s'.2)], [], h) Q := fun us' s' e => by subst e; exact kk us'
    unfold P_X10_countIn_4 at hP
    obtain ⟨o3, q9, o10⟩ := hP hc
    show WP 84 (4, [(12, a0), (0, a1), (0, x2), (0, x3)], [], h) Q
    refine WP.iload_n rfl rfl ?_
    refine WP.aload_n rfl rfl ⟨by decide, by decide⟩ ?_
    refine WP.getI rfl rfl ?_
    refine WP.ni_ge rfl (fun c2 => ?_) (fun c2 => ?_)
    · exact absurd hc (Int.not_lt.mpr c2)
    · refine WP.aload_n rfl rfl ⟨by decide, by decide⟩ ?_
      refine WP.getR rfl rfl ?_
      refine WP.iload_n rfl rfl ?_
      refine WP.iaload rfl ⟨by decide, by decide, by decide⟩ o3 ?_
      refine WP.iload_n rfl rfl ?_
      have k4 : ∀ Q' : Option pV → pH → Prop, (WP 84 (15, [(12, a0), (0, a1), (0, s_X10_countIn_1 a0 a1 x2 x3 h), (0, x3)], [], h) Q') → WP 84 (13, [(12, a0), (0, a1), (0, x2), (0, x3)], [(0, a1), (0, h (a0 + 11) x3)], h) Q' := fun Q' kk => by
        have q7 := q9
        refine WP.ni_ne rfl (fun c5 => ?_) (fun c5 => ?_)
        · have e := kk; simp only [s_X10_countIn_1, if_neg (c5)] at e ⊢; exact e
        · have o6 := q7 c5
          refine WP.iincE (L' := [(12, a0), (0, a1), (0, x2 + 1), (0, x3)]) rfl rfl o6 rfl ?_
          have e := kk; simp only [s_X10_countIn_1, if_pos c5] at e ⊢; exact e
      refine k4 _ ?_
      refine WP.iincE (L' := [(12, a0), (0, a1), (0, s_X10_countIn_1 a0 a1 x2 x3 h), (0, x3 + 1)]) rfl rfl o10 rfl ?_
      refine WP.goto rfl ?_
      exact kk [] (s_X10_countIn_1 a0 a1 x2 x3 h, x3 + 1) (rfl)
  · intro hP hc
    generalize hs : (L_X10_countIn_4 a0 a1 h x2 x3 : Int × Int) = s at kk
    change P_X10_countIn_4 a0 a1 h (L_X10_countIn_4 a0 a1 h x2 x3).1 (L_X10_countIn_4 a0 a1 h x2 x3).2 at hP
    change ¬ C_X10_countIn_4 a0 a1 h (L_X10_countIn_4 a0 a1 h x2 x3).1 (L_X10_countIn_4 a0 a1 h x2 x3).2 at hc
    intro us
    show WP 84 (4, [(12, a0), (0, a1), (0, (L_X10_countIn_4 a0 a1 h x2 x3).1), (0, (L_X10_countIn_4 a0 a1 h x2 x3).2)], [], h) Q
    rw [hs] at hP hc ⊢
    obtain ⟨x2, x3⟩ := s
    change P_X10_countIn_4 a0 a1 h x2 x3 at hP
    change ¬ (x3 < h a0 15) at hc
    unfold P_X10_countIn_4 at hP
    show WP 84 (4, [(12, a0), (0, a1), (0, x2), (0, x3)], [], h) Q
    refine WP.iload_n rfl rfl ?_
    refine WP.aload_n rfl rfl ⟨by decide, by decide⟩ ?_
    refine WP.getI rfl rfl ?_
    refine WP.ni_ge rfl (fun c1 => ?_) (fun c1 => ?_)
    · exact kk []
    · exact absurd (show x3 < h a0 15 from c1) hc
noncomputable def s_X10_countIn_2 (a0 : Int) (a1 : Int) (h : pH) : Int := (L_X10_countIn_4 a0 a1 h 0 0).1
noncomputable def s_X10_countIn_3 (a0 : Int) (a1 : Int) (h : pH) : Int := (L_X10_countIn_4 a0 a1 h 0 0).2
noncomputable def F_X10_countIn (a0 : Int) (a1 : Int) (h : pH) : Int := s_X10_countIn_2 a0 a1 h
noncomputable def P_X10_countIn (a0 : Int) (a1 : Int) (h : pH) : Prop := O_X10_countIn_4 a0 a1 h 0 0
set_option maxHeartbeats 4000000 in
theorem w_X10_countIn (a0 : Int) (a1 : Int) (h : pH) {Q : Option pV → pH → Prop} (hp : P_X10_countIn a0 a1 h) (kk : Q (some (0, F_X10_countIn a0 a1 h)) (h)) : WP 84 (0, [(12, a0), (0, a1), pU, pU], [], h) Q := by
  unfold P_X10_countIn at hp
  have o11 := hp
  refine WP.iconst rfl ?_
  refine WP.istore_n (L' := [(12, a0), (0, a1), (0, 0), pU]) rfl rfl ?_
  refine WP.iconst rfl ?_
  refine WP.istore_n (L' := [(12, a0), (0, a1), (0, 0), (0, 0)]) rfl rfl ?_
  refine lp_X10_countIn_4 a0 a1 h 0 0 o11 (fun us12 => ?_) []
  show WP 84 (17, [(12, a0), (0, a1), (0, s_X10_countIn_2 a0 a1 h), (0, s_X10_countIn_3 a0 a1 h)], [], h) Q
  refine WP.iload_n rfl rfl ?_
  refine WP.reti rfl ?_; exact kk
theorem c_X10_countIn (a0 : Int) (a1 : Int) (h : pH) (hp : P_X10_countIn a0 a1 h) : CP 84 [(12, a0), (0, a1)] h (fun r h1 => r = some (0, F_X10_countIn a0 a1 h) ∧ h1 = h) := w_X10_countIn a0 a1 h hp ⟨rfl, rfl⟩
noncomputable def s_X10_openBits_1 (a0 : Int) (x1 : Int) (x2 : Int) (h : pH) : Int := if h (a0 + 11) x2 = 1 then pm_or x1 (pm_shl 1 x2) else x1
def C_X10_openBits_4 (a0 : Int) (h : pH) (x1 : Int) (x2 : Int) : Prop := x2 < h a0 15
noncomputable def B_X10_openBits_4 (a0 : Int) (h : pH) (x1 : Int) (x2 : Int) : Int × Int := (s_X10_openBits_1 a0 x1 x2 h, x2 + 1)
noncomputable def P_X10_openBits_4 (a0 : Int) (h : pH) (x1 : Int) (x2 : Int) : Prop := ((x2 < h a0 15) → (0 ≤ x2 ∧ x2 < 16) ∧ (fx_i (x2 + 1)))
noncomputable def L_X10_openBits_4 (a0 : Int) (h : pH) (x1 : Int) (x2 : Int) : Int × Int := fx_wh (σ := Int × Int) (fun s => C_X10_openBits_4 a0 h s.1 s.2) (fun s => B_X10_openBits_4 a0 h s.1 s.2) (x1, x2)
def O_X10_openBits_4 (a0 : Int) (h : pH) (x1 : Int) (x2 : Int) : Prop := fx_ok (σ := Int × Int) (fun s => C_X10_openBits_4 a0 h s.1 s.2) (fun s => B_X10_openBits_4 a0 h s.1 s.2) (fun s => P_X10_openBits_4 a0 h s.1 s.2) (x1, x2)
set_option maxHeartbeats 4000000 in
theorem lp_X10_openBits_4 (a0 : Int) (h : pH) (x1 : Int) (x2 : Int) {Q : Option pV → pH → Prop} (hp : O_X10_openBits_4 a0 h x1 x2) (kk : ∀ us : List pV, WP 86 (22, [(12, a0), (0, (L_X10_openBits_4 a0 h x1 x2).1), (0, (L_X10_openBits_4 a0 h x1 x2).2)], [], h) Q) : ∀ us : List pV, WP 86 (4, [(12, a0), (0, x1), (0, x2)], [], h) Q := by
  refine WP.wh (σ := Int × Int) (fun s => C_X10_openBits_4 a0 h s.1 s.2) (fun s => B_X10_openBits_4 a0 h s.1 s.2) (fun s => P_X10_openBits_4 a0 h s.1 s.2) (fun s us => (4, [(12, a0), (0, s.1), (0, s.2)], [], h)) (x1, x2) hp ?_ ?_
  · intro s us hP hc kk
    obtain ⟨x1, x2⟩ := s
    change P_X10_openBits_4 a0 h x1 x2 at hP
    change x2 < h a0 15 at hc
    replace kk : ∀ (us' : List pV) (s' : Int × Int), s' = B_X10_openBits_4 a0 h x1 x2 → WP 86 (4, [(12, a0), (0, s'.1), (0, s'.2)], [], h) Q := fun us' s' e => by subst e; exact kk us'
    unfold P_X10_openBits_4 at hP
    obtain ⟨o3, o7⟩ := hP hc
    show WP 86 (4, [(12, a0), (0, x1), (0, x2)], [], h) Q
    refine WP.iload_n rfl rfl ?_
    refine WP.aload_n rfl rfl ⟨by decide, by decide⟩ ?_
    refine WP.getI rfl rfl ?_
    refine WP.ni_ge rfl (fun c2 => ?_) (fun c2 => ?_)
    · exact absurd hc (Int.not_lt.mpr c2)
    · refine WP.aload_n rfl rfl ⟨by decide, by decide⟩ ?_
      refine WP.getR rfl rfl ?_
      refine WP.iload_n rfl rfl ?_
      refine WP.iaload rfl ⟨by decide, by decide, by decide⟩ o3 ?_
      refine WP.iconst rfl ?_
      have k4 : ∀ Q' : Option pV → pH → Prop, (WP 86 (20, [(12, a0), (0, s_X10_openBits_1 a0 x1 x2 h), (0, x2)], [], h) Q') → WP 86 (13, [(12, a0), (0, x1), (0, x2)], [(0, 1), (0, h (a0 + 11) x2)], h) Q' := fun Q' kk => by
        refine WP.ni_ne rfl (fun c5 => ?_) (fun c5 => ?_)
        · have e := kk; simp only [s_X10_openBits_1, if_neg (c5)] at e ⊢; exact e
        · refine WP.iload_n rfl rfl ?_
          refine WP.iconst rfl ?_
          refine WP.iload_n rfl rfl ?_
          refine WP.ishl rfl ?_
          refine WP.ior rfl ?_
          refine WP.istore_n (L' := [(12, a0), (0, pm_or x1 (pm_shl 1 x2)), (0, x2)]) rfl rfl ?_
          have e := kk; simp only [s_X10_openBits_1, if_pos c5] at e ⊢; exact e
      refine k4 _ ?_
      refine WP.iincE (L' := [(12, a0), (0, s_X10_openBits_1 a0 x1 x2 h), (0, x2 + 1)]) rfl rfl o7 rfl ?_
      refine WP.goto rfl ?_
      exact kk [] (s_X10_openBits_1 a0 x1 x2 h, x2 + 1) (rfl)
  · intro hP hc
    generalize hs : (L_X10_openBits_4 a0 h x1 x2 : Int × Int) = s at kk
    change P_X10_openBits_4 a0 h (L_X10_openBits_4 a0 h x1 x2).1 (L_X10_openBits_4 a0 h x1 x2).2 at hP
    change ¬ C_X10_openBits_4 a0 h (L_X10_openBits_4 a0 h x1 x2).1 (L_X10_openBits_4 a0 h x1 x2).2 at hc
    intro us
    show WP 86 (4, [(12, a0), (0, (L_X10_openBits_4 a0 h x1 x2).1), (0, (L_X10_openBits_4 a0 h x1 x2).2)], [], h) Q
    rw [hs] at hP hc ⊢
    obtain ⟨x1, x2⟩ := s
    change P_X10_openBits_4 a0 h x1 x2 at hP
    change ¬ (x2 < h a0 15) at hc
    unfold P_X10_openBits_4 at hP
    show WP 86 (4, [(12, a0), (0, x1), (0, x2)], [], h) Q
    refine WP.iload_n rfl rfl ?_
    refine WP.aload_n rfl rfl ⟨by decide, by decide⟩ ?_
    refine WP.getI rfl rfl ?_
    refine WP.ni_ge rfl (fun c1 => ?_) (fun c1 => ?_)
    · exact kk []
    · exact absurd (show x2 < h a0 15 from c1) hc
noncomputable def F_X10_openBits (a0 : Int) (h : pH) : Int := (L_X10_openBits_4 a0 h 0 0).1
noncomputable def P_X10_openBits (a0 : Int) (h : pH) : Prop := O_X10_openBits_4 a0 h 0 0
set_option maxHeartbeats 4000000 in
theorem w_X10_openBits (a0 : Int) (h : pH) {Q : Option pV → pH → Prop} (hp : P_X10_openBits a0 h) (kk : Q (some (0, F_X10_openBits a0 h)) (h)) : WP 86 (0, [(12, a0), pU, pU], [], h) Q := by
  unfold P_X10_openBits at hp
  have o8 := hp
  refine WP.iconst rfl ?_
  refine WP.istore_n (L' := [(12, a0), (0, 0), pU]) rfl rfl ?_
  refine WP.iconst rfl ?_
  refine WP.istore_n (L' := [(12, a0), (0, 0), (0, 0)]) rfl rfl ?_
  refine lp_X10_openBits_4 a0 h 0 0 o8 (fun us9 => ?_) []
  show WP 86 (22, [(12, a0), (0, (L_X10_openBits_4 a0 h 0 0).1), (0, (L_X10_openBits_4 a0 h 0 0).2)], [], h) Q
  refine WP.iload_n rfl rfl ?_
  refine WP.reti rfl ?_; exact kk
theorem c_X10_openBits (a0 : Int) (h : pH) (hp : P_X10_openBits a0 h) : CP 86 [(12, a0)] h (fun r h1 => r = some (0, F_X10_openBits a0 h) ∧ h1 = h) := w_X10_openBits a0 h hp ⟨rfl, rfl⟩
noncomputable def s_X10_leaveOut_1 (a0 : Int) (a1 : Int) (x2 : Int) (h : pH) : pH := if pm_and (pm_shr a1 x2) 1 = 1 then pm_upd h (a0 + 11) x2 4 else h
def C_X10_leaveOut_2 (a0 : Int) (a1 : Int) (x2 : Int) (h : pH) : Prop := x2 < h a0 15
noncomputable def B_X10_leaveOut_2 (a0 : Int) (a1 : Int) (x2 : Int) (h : pH) : Int × pH := (x2 + 1, s_X10_leaveOut_1 a0 a1 x2 h)
noncomputable def P_X10_leaveOut_2 (a0 : Int) (a1 : Int) (x2 : Int) (h : pH) : Prop := ((x2 < h a0 15) → (((pm_and (pm_shr a1 x2) 1 = 1) → ((0 ≤ x2 ∧ x2 < 16)))) ∧ (fx_i (x2 + 1)))
noncomputable def L_X10_leaveOut_2 (a0 : Int) (a1 : Int) (x2 : Int) (h : pH) : Int × pH := fx_wh (σ := Int × pH) (fun s => C_X10_leaveOut_2 a0 a1 s.1 s.2) (fun s => B_X10_leaveOut_2 a0 a1 s.1 s.2) (x2, h)
def O_X10_leaveOut_2 (a0 : Int) (a1 : Int) (x2 : Int) (h : pH) : Prop := fx_ok (σ := Int × pH) (fun s => C_X10_leaveOut_2 a0 a1 s.1 s.2) (fun s => B_X10_leaveOut_2 a0 a1 s.1 s.2) (fun s => P_X10_leaveOut_2 a0 a1 s.1 s.2) (x2, h)
set_option maxHeartbeats 4000000 in
theorem lp_X10_leaveOut_2 (a0 : Int) (a1 : Int) (x2 : Int) (h : pH) {Q : Option pV → pH → Prop} (hp : O_X10_leaveOut_2 a0 a1 x2 h) (kk : ∀ us : List pV, WP 87 (20, [(12, a0), (0, a1), (0, (L_X10_leaveOut_2 a0 a1 x2 h).1)], [], (L_X10_leaveOut_2 a0 a1 x2 h).2) Q) : ∀ us : List pV, WP 87 (2, [(12, a0), (0, a1), (0, x2)], [], h) Q := by
  refine WP.wh (σ := Int × pH) (fun s => C_X10_leaveOut_2 a0 a1 s.1 s.2) (fun s => B_X10_leaveOut_2 a0 a1 s.1 s.2) (fun s => P_X10_leaveOut_2 a0 a1 s.1 s.2) (fun s us => (2, [(12, a0), (0, a1), (0, s.1)], [], s.2)) (x2, h) hp ?_ ?_
  · intro s us hP hc kk
    obtain ⟨x2, h⟩ := s
    change P_X10_leaveOut_2 a0 a1 x2 h at hP
    change x2 < h a0 15 at hc
    replace kk : ∀ (us' : List pV) (s' : Int × pH), s' = B_X10_leaveOut_2 a0 a1 x2 h → WP 87 (2, [(12, a0), (0, a1), (0, s'.1)], [], s'.2) Q := fun us' s' e => by subst e; exact kk us'
    unfold P_X10_leaveOut_2 at hP
    obtain ⟨q8, o9⟩ := hP hc
    show WP 87 (2, [(12, a0), (0, a1), (0, x2)], [], h) Q
    refine WP.iload_n rfl rfl ?_
    refine WP.aload_n rfl rfl ⟨by decide, by decide⟩ ?_
    refine WP.getI rfl rfl ?_
    refine WP.ni_ge rfl (fun c2 => ?_) (fun c2 => ?_)
    · exact absurd hc (Int.not_lt.mpr c2)
    · refine WP.iload_n rfl rfl ?_
      refine WP.iload_n rfl rfl ?_
      refine WP.ishr rfl ?_
      refine WP.iconst rfl ?_
      refine WP.iand rfl ?_
      refine WP.iconst rfl ?_
      have k3 : ∀ Q' : Option pV → pH → Prop, (WP 87 (18, [(12, a0), (0, a1), (0, x2)], [], s_X10_leaveOut_1 a0 a1 x2 h) Q') → WP 87 (12, [(12, a0), (0, a1), (0, x2)], [(0, 1), (0, pm_and (pm_shr a1 x2) 1)], h) Q' := fun Q' kk => by
        have q6 := q8
        refine WP.ni_ne rfl (fun c4 => ?_) (fun c4 => ?_)
        · have e := kk; simp only [s_X10_leaveOut_1, if_neg (c4)] at e ⊢; exact e
        · have o5 := q6 c4
          refine WP.aload_n rfl rfl ⟨by decide, by decide⟩ ?_
          refine WP.getR rfl rfl ?_
          refine WP.iload_n rfl rfl ?_
          refine WP.iconst rfl ?_
          refine WP.iastore rfl ⟨by decide, by decide, by decide⟩ o5 ?_
          have e := kk; simp only [s_X10_leaveOut_1, if_pos c4] at e ⊢; exact e
      refine k3 _ ?_
      refine WP.iincE (L' := [(12, a0), (0, a1), (0, x2 + 1)]) rfl rfl o9 rfl ?_
      refine WP.goto rfl ?_
      exact kk [] (x2 + 1, s_X10_leaveOut_1 a0 a1 x2 h) (rfl)
  · intro hP hc
    generalize hs : (L_X10_leaveOut_2 a0 a1 x2 h : Int × pH) = s at kk
    change P_X10_leaveOut_2 a0 a1 (L_X10_leaveOut_2 a0 a1 x2 h).1 (L_X10_leaveOut_2 a0 a1 x2 h).2 at hP
    change ¬ C_X10_leaveOut_2 a0 a1 (L_X10_leaveOut_2 a0 a1 x2 h).1 (L_X10_leaveOut_2 a0 a1 x2 h).2 at hc
    intro us
    show WP 87 (2, [(12, a0), (0, a1), (0, (L_X10_leaveOut_2 a0 a1 x2 h).1)], [], (L_X10_leaveOut_2 a0 a1 x2 h).2) Q
    rw [hs] at hP hc ⊢
    obtain ⟨x2, h⟩ := s
    change P_X10_leaveOut_2 a0 a1 x2 h at hP
    change ¬ (x2 < h a0 15) at hc
    unfold P_X10_leaveOut_2 at hP
    show WP 87 (2, [(12, a0), (0, a1), (0, x2)], [], h) Q
    refine WP.iload_n rfl rfl ?_
    refine WP.aload_n rfl rfl ⟨by decide, by decide⟩ ?_
    refine WP.getI rfl rfl ?_
    refine WP.ni_ge rfl (fun c1 => ?_) (fun c1 => ?_)
    · exact kk []
    · exact absurd (show x2 < h a0 15 from c1) hc
noncomputable def H_X10_leaveOut (a0 : Int) (a1 : Int) (h : pH) : pH := (L_X10_leaveOut_2 a0 a1 0 h).2
noncomputable def P_X10_leaveOut (a0 : Int) (a1 : Int) (h : pH) : Prop := O_X10_leaveOut_2 a0 a1 0 h
set_option maxHeartbeats 4000000 in
theorem w_X10_leaveOut (a0 : Int) (a1 : Int) (h : pH) {Q : Option pV → pH → Prop} (hp : P_X10_leaveOut a0 a1 h) (kk : Q (none) (H_X10_leaveOut a0 a1 h)) : WP 87 (0, [(12, a0), (0, a1), pU], [], h) Q := by
  unfold P_X10_leaveOut at hp
  have o10 := hp
  refine WP.iconst rfl ?_
  refine WP.istore_n (L' := [(12, a0), (0, a1), (0, 0)]) rfl rfl ?_
  refine lp_X10_leaveOut_2 a0 a1 0 h o10 (fun us11 => ?_) []
  show WP 87 (20, [(12, a0), (0, a1), (0, (L_X10_leaveOut_2 a0 a1 0 h).1)], [], (L_X10_leaveOut_2 a0 a1 0 h).2) Q
  refine WP.retv rfl ?_; exact kk
theorem c_X10_leaveOut (a0 : Int) (a1 : Int) (h : pH) (hp : P_X10_leaveOut a0 a1 h) : CP 87 [(12, a0), (0, a1)] h (fun r h1 => r = none ∧ h1 = H_X10_leaveOut a0 a1 h) := w_X10_leaveOut a0 a1 h hp ⟨rfl, rfl⟩
noncomputable def F_X10_mayHave (a0 : Int) (a1 : Int) (a2 : Int) (h : pH) : Int := if h (a0 + 9) a1 = (-1) ∨ h (a0 + 9) a1 = a2 then 1 else 0
noncomputable def P_X10_mayHave (a0 : Int) (a1 : Int) (a2 : Int) (h : pH) : Prop := (0 ≤ a1 ∧ a1 < 16)
set_option maxHeartbeats 4000000 in
theorem w_X10_mayHave (a0 : Int) (a1 : Int) (a2 : Int) (h : pH) {Q : Option pV → pH → Prop} (hp : P_X10_mayHave a0 a1 a2 h) (kk : Q (some (0, F_X10_mayHave a0 a1 a2 h)) (h)) : WP 88 (0, [(12, a0), (0, a1), (0, a2)], [], h) Q := by
  unfold P_X10_mayHave at hp
  have o1 := hp
  refine WP.aload_n rfl rfl ⟨by decide, by decide⟩ ?_
  refine WP.getR rfl rfl ?_
  refine WP.iload_n rfl rfl ?_
  refine WP.iaload rfl ⟨by decide, by decide, by decide⟩ o1 ?_
  refine WP.iconst rfl ?_
  have k2 : ∀ Q' : Option pV → pH → Prop, (WP 88 (15, [(12, a0), (0, a1), (0, a2)], [(0, if h (a0 + 9) a1 = (-1) ∨ h (a0 + 9) a1 = a2 then 1 else 0)], h) Q') → WP 88 (5, [(12, a0), (0, a1), (0, a2)], [(0, (-1)), (0, h (a0 + 9) a1)], h) Q' := fun Q' kk => by
    refine WP.ni_eq rfl (fun c3 => ?_) (fun c3 => ?_)
    · refine WP.iconst rfl ?_
      refine WP.goto rfl ?_
      have e := kk; simp only [if_pos c3, if_pos (show h (a0 + 9) a1 = (-1) ∨ h (a0 + 9) a1 = a2 from Or.inl c3)] at e ⊢; exact e
    · refine WP.aload_n rfl rfl ⟨by decide, by decide⟩ ?_
      refine WP.getR rfl rfl ?_
      refine WP.iload_n rfl rfl ?_
      refine WP.iaload rfl ⟨by decide, by decide, by decide⟩ o1 ?_
      refine WP.iload_n rfl rfl ?_
      refine WP.ni_ne rfl (fun c4 => ?_) (fun c4 => ?_)
      · refine WP.iconst rfl ?_
        have e := kk; simp only [if_neg (c3), if_neg (c4), if_neg (show ¬ (h (a0 + 9) a1 = (-1) ∨ h (a0 + 9) a1 = a2) from fun q => q.elim (c3) (c4))] at e ⊢; exact e
      · refine WP.iconst rfl ?_
        refine WP.goto rfl ?_
        have e := kk; simp only [if_neg (c3), if_pos c4, if_pos (show h (a0 + 9) a1 = (-1) ∨ h (a0 + 9) a1 = a2 from Or.inr c4)] at e ⊢; exact e
  refine k2 _ ?_
  refine WP.retz rfl (fx_01 _) ?_; exact kk
theorem c_X10_mayHave (a0 : Int) (a1 : Int) (a2 : Int) (h : pH) (hp : P_X10_mayHave a0 a1 a2 h) : CP 88 [(12, a0), (0, a1), (0, a2)] h (fun r h1 => r = some (0, F_X10_mayHave a0 a1 a2 h) ∧ h1 = h) := w_X10_mayHave a0 a1 a2 h hp ⟨rfl, rfl⟩
noncomputable def s_X10_mostSpeed_1 (a0 : Int) (a1 : Int) (h : pH) : Int := if h (a0 + 4) a1 = 1 then h (a0 + 6) a1 else 3
noncomputable def F_X10_mostSpeed (a0 : Int) (a1 : Int) (h : pH) : Int := s_X10_mostSpeed_1 a0 a1 h
noncomputable def P_X10_mostSpeed (a0 : Int) (a1 : Int) (h : pH) : Prop := (0 ≤ a1 ∧ a1 < 16)
set_option maxHeartbeats 4000000 in
theorem w_X10_mostSpeed (a0 : Int) (a1 : Int) (h : pH) {Q : Option pV → pH → Prop} (hp : P_X10_mostSpeed a0 a1 h) (kk : Q (some (0, F_X10_mostSpeed a0 a1 h)) (h)) : WP 89 (0, [(12, a0), (0, a1)], [], h) Q := by
  unfold P_X10_mostSpeed at hp
  have o1 := hp
  refine WP.aload_n rfl rfl ⟨by decide, by decide⟩ ?_
  refine WP.getR rfl rfl ?_
  refine WP.iload_n rfl rfl ?_
  refine WP.iaload rfl ⟨by decide, by decide, by decide⟩ o1 ?_
  refine WP.iconst rfl ?_
  have k2 : ∀ Q' : Option pV → pH → Prop, (WP 89 (12, [(12, a0), (0, a1)], [(0, s_X10_mostSpeed_1 a0 a1 h)], h) Q') → WP 89 (5, [(12, a0), (0, a1)], [(0, 1), (0, h (a0 + 4) a1)], h) Q' := fun Q' kk => by
    refine WP.ni_ne rfl (fun c3 => ?_) (fun c3 => ?_)
    · refine WP.iconst rfl ?_
      have e := kk; simp only [s_X10_mostSpeed_1, if_neg (c3)] at e ⊢; exact e
    · refine WP.aload_n rfl rfl ⟨by decide, by decide⟩ ?_
      refine WP.getR rfl rfl ?_
      refine WP.iload_n rfl rfl ?_
      refine WP.iaload rfl ⟨by decide, by decide, by decide⟩ o1 ?_
      refine WP.goto rfl ?_
      have e := kk; simp only [s_X10_mostSpeed_1, if_pos c3] at e ⊢; exact e
  refine k2 _ ?_
  refine WP.reti rfl ?_; exact kk
theorem c_X10_mostSpeed (a0 : Int) (a1 : Int) (h : pH) (hp : P_X10_mostSpeed a0 a1 h) : CP 89 [(12, a0), (0, a1)] h (fun r h1 => r = some (0, F_X10_mostSpeed a0 a1 h) ∧ h1 = h) := w_X10_mostSpeed a0 a1 h hp ⟨rfl, rfl⟩
noncomputable def s_X10_finishSteady_1 (a0 : Int) (a1 : Int) (a2 : Int) (a3 : Int) (h : pH) : pH := if a2 = h (a0 + 6) a1 then pm_upd h (a0 + 10) a1 ((h (a0 + 10) a1) + 1) else if h (a0 + 12) a1 = 0 then pm_upd h (a0 + 12) a1 a3 else h
noncomputable def H_X10_finishSteady (a0 : Int) (a1 : Int) (a2 : Int) (a3 : Int) (h : pH) : pH := s_X10_finishSteady_1 a0 a1 a2 a3 h
noncomputable def P_X10_finishSteady (a0 : Int) (a1 : Int) (a2 : Int) (a3 : Int) (h : pH) : Prop := (0 ≤ a1 ∧ a1 < 16) ∧ (((a2 = h (a0 + 6) a1) → ((fx_i ((h (a0 + 10) a1) + 1)))))
set_option maxHeartbeats 4000000 in
theorem w_X10_finishSteady (a0 : Int) (a1 : Int) (a2 : Int) (a3 : Int) (h : pH) {Q : Option pV → pH → Prop} (hp : P_X10_finishSteady a0 a1 a2 a3 h) (kk : Q (none) (H_X10_finishSteady a0 a1 a2 a3 h)) : WP 92 (0, [(12, a0), (0, a1), (0, a2), (0, a3)], [], h) Q := by
  unfold P_X10_finishSteady at hp
  obtain ⟨o1, q8⟩ := hp
  refine WP.iload_n rfl rfl ?_
  refine WP.aload_n rfl rfl ⟨by decide, by decide⟩ ?_
  refine WP.getR rfl rfl ?_
  refine WP.iload_n rfl rfl ?_
  refine WP.iaload rfl ⟨by decide, by decide, by decide⟩ o1 ?_
  have k2 : ∀ Q' : Option pV → pH → Prop, (WP 92 (25, [(12, a0), (0, a1), (0, a2), (0, a3)], [], s_X10_finishSteady_1 a0 a1 a2 a3 h) Q') → WP 92 (5, [(12, a0), (0, a1), (0, a2), (0, a3)], [(0, h (a0 + 6) a1), (0, a2)], h) Q' := fun Q' kk => by
    have q6 := q8
    refine WP.ni_ne rfl (fun c3 => ?_) (fun c3 => ?_)
    · refine WP.aload_n rfl rfl ⟨by decide, by decide⟩ ?_
      refine WP.getR rfl rfl ?_
      refine WP.iload_n rfl rfl ?_
      refine WP.iaload rfl ⟨by decide, by decide, by decide⟩ o1 ?_
      refine WP.nz_ne rfl (fun c5 => ?_) (fun c5 => ?_)
      · have e := kk; simp only [s_X10_finishSteady_1, if_neg (c3), if_neg (c5)] at e ⊢; exact e
      · refine WP.aload_n rfl rfl ⟨by decide, by decide⟩ ?_
        refine WP.getR rfl rfl ?_
        refine WP.iload_n rfl rfl ?_
        refine WP.iload_n rfl rfl ?_
        refine WP.iastore rfl ⟨by decide, by decide, by decide⟩ o1 ?_
        have e := kk; simp only [s_X10_finishSteady_1, if_neg (c3), if_pos c5] at e ⊢; exact e
    · have o4 := q6 c3
      refine WP.aload_n rfl rfl ⟨by decide, by decide⟩ ?_
      refine WP.getR rfl rfl ?_
      refine WP.iload_n rfl rfl ?_
      refine WP.dup2 rfl (by decide) (by decide) ?_
      refine WP.iaload rfl ⟨by decide, by decide, by decide⟩ o1 ?_
      refine WP.iconst rfl ?_
      refine WP.iaddE rfl o4 ?_
      refine WP.iastore rfl ⟨by decide, by decide, by decide⟩ o1 ?_
      refine WP.goto rfl ?_
      have e := kk; simp only [s_X10_finishSteady_1, if_pos c3] at e ⊢; exact e
  refine k2 _ ?_
  refine WP.retv rfl ?_; exact kk
theorem c_X10_finishSteady (a0 : Int) (a1 : Int) (a2 : Int) (a3 : Int) (h : pH) (hp : P_X10_finishSteady a0 a1 a2 a3 h) : CP 92 [(12, a0), (0, a1), (0, a2), (0, a3)] h (fun r h1 => r = none ∧ h1 = H_X10_finishSteady a0 a1 a2 a3 h) := w_X10_finishSteady a0 a1 a2 a3 h hp ⟨rfl, rfl⟩
noncomputable def s_X10_stateAt_1 (a0 : Int) (a1 : Int) (h : pH) : Int := if h (a0 + 4) a1 = 1 then ((h (a0 + 8) a1) - (h (a0 + 7) a1)) + 1 else h (a0 + 6) a1
noncomputable def F_X10_stateAt (a0 : Int) (a1 : Int) (a2 : Int) (h : pH) : Int := if h (a0 + 10) a1 < s_X10_stateAt_1 a0 a1 h then if h (a0 + 8) a1 < a2 then 3 else if h (a0 + 7) a1 ≤ a2 then 1 else 0 else if h (a0 + 8) a1 < a2 then 2 else if h (a0 + 4) a1 = 1 then if h (a0 + 7) a1 ≤ a2 then 1 else 0 else 2
noncomputable def P_X10_stateAt (a0 : Int) (a1 : Int) (a2 : Int) (h : pH) : Prop := (0 ≤ a1 ∧ a1 < 16) ∧ (((h (a0 + 4) a1 = 1) → ((fx_i ((h (a0 + 8) a1) - (h (a0 + 7) a1))) ∧ (fx_i (((h (a0 + 8) a1) - (h (a0 + 7) a1)) + 1)))))
set_option maxHeartbeats 4000000 in
theorem w_X10_stateAt (a0 : Int) (a1 : Int) (a2 : Int) (h : pH) {Q : Option pV → pH → Prop} (hp : P_X10_stateAt a0 a1 a2 h) (kk : Q (some (0, F_X10_stateAt a0 a1 a2 h)) (h)) : WP 94 (0, [(12, a0), (0, a1), (0, a2), pU, pU, pU], [], h) Q := by
  unfold P_X10_stateAt at hp
  obtain ⟨o1, q11⟩ := hp
  refine WP.aload_n rfl rfl ⟨by decide, by decide⟩ ?_
  refine WP.getR rfl rfl ?_
  refine WP.iload_n rfl rfl ?_
  refine WP.iaload rfl ⟨by decide, by decide, by decide⟩ o1 ?_
  refine WP.iconst rfl ?_
  have k2 : ∀ Q' : Option pV → pH → Prop, (WP 94 (9, [(12, a0), (0, a1), (0, a2), pU, pU, pU], [(0, if h (a0 + 4) a1 = 1 then 1 else 0)], h) Q') → WP 94 (5, [(12, a0), (0, a1), (0, a2), pU, pU, pU], [(0, 1), (0, h (a0 + 4) a1)], h) Q' := fun Q' kk => by
    refine WP.ni_ne rfl (fun c3 => ?_) (fun c3 => ?_)
    · refine WP.iconst rfl ?_
      have e := kk; simp only [if_neg (c3), if_neg (show ¬ (h (a0 + 4) a1 = 1) from c3)] at e ⊢; exact e
    · refine WP.iconst rfl ?_
      refine WP.goto rfl ?_
      have e := kk; simp only [if_pos c3, if_pos (show h (a0 + 4) a1 = 1 from c3)] at e ⊢; exact e
  refine k2 _ ?_
  refine WP.istore_n (L' := [(12, a0), (0, a1), (0, a2), (0, if h (a0 + 4) a1 = 1 then 1 else 0), pU, pU]) rfl rfl ?_
  refine WP.iload_n rfl rfl ?_
  have k5 : ∀ Q' : Option pV → pH → Prop, (WP 94 (28, [(12, a0), (0, a1), (0, a2), (0, if h (a0 + 4) a1 = 1 then 1 else 0), pU, pU], [(0, s_X10_stateAt_1 a0 a1 h)], h) Q') → WP 94 (11, [(12, a0), (0, a1), (0, a2), (0, if h (a0 + 4) a1 = 1 then 1 else 0), pU, pU], [(0, if h (a0 + 4) a1 = 1 then 1 else 0)], h) Q' := fun Q' kk => by
    have q9 := q11
    refine WP.nb_eq rfl (fun c6 => ?_) (fun c6 => ?_)
    · refine WP.aload_n rfl rfl ⟨by decide, by decide⟩ ?_
      refine WP.getR rfl rfl ?_
      refine WP.iload_n rfl rfl ?_
      refine WP.iaload rfl ⟨by decide, by decide, by decide⟩ o1 ?_
      have e := kk; simp only [s_X10_stateAt_1, if_neg (c6)] at e ⊢; exact e
    · obtain ⟨o7, o8⟩ := q9 c6
      refine WP.aload_n rfl rfl ⟨by decide, by decide⟩ ?_
      refine WP.getR rfl rfl ?_
      refine WP.iload_n rfl rfl ?_
      refine WP.iaload rfl ⟨by decide, by decide, by decide⟩ o1 ?_
      refine WP.aload_n rfl rfl ⟨by decide, by decide⟩ ?_
      refine WP.getR rfl rfl ?_
      refine WP.iload_n rfl rfl ?_
      refine WP.iaload rfl ⟨by decide, by decide, by decide⟩ o1 ?_
      refine WP.isubE rfl o7 ?_
      refine WP.iconst rfl ?_
      refine WP.iaddE rfl o8 ?_
      refine WP.goto rfl ?_
      have e := kk; simp only [s_X10_stateAt_1, if_pos c6] at e ⊢; exact e
  refine k5 _ ?_
  refine WP.istore (L' := [(12, a0), (0, a1), (0, a2), (0, if h (a0 + 4) a1 = 1 then 1 else 0), (0, s_X10_stateAt_1 a0 a1 h), pU]) rfl rfl ?_
  refine WP.iload_n rfl rfl ?_
  refine WP.aload_n rfl rfl ⟨by decide, by decide⟩ ?_
  refine WP.getR rfl rfl ?_
  refine WP.iload_n rfl rfl ?_
  refine WP.iaload rfl ⟨by decide, by decide, by decide⟩ o1 ?_
  have k12 : ∀ Q' : Option pV → pH → Prop, (WP 94 (38, [(12, a0), (0, a1), (0, a2), (0, if h (a0 + 4) a1 = 1 then 1 else 0), (0, s_X10_stateAt_1 a0 a1 h), pU], [(0, if h (a0 + 8) a1 < a2 then 1 else 0)], h) Q') → WP 94 (34, [(12, a0), (0, a1), (0, a2), (0, if h (a0 + 4) a1 = 1 then 1 else 0), (0, s_X10_stateAt_1 a0 a1 h), pU], [(0, h (a0 + 8) a1), (0, a2)], h) Q' := fun Q' kk => by
    refine WP.ni_le rfl (fun c13 => ?_) (fun c13 => ?_)
    · refine WP.iconst rfl ?_
      have e := kk; simp only [if_pos c13, if_neg (show ¬ (h (a0 + 8) a1 < a2) from Int.not_lt.mpr c13)] at e ⊢; exact e
    · refine WP.iconst rfl ?_
      refine WP.goto rfl ?_
      have e := kk; simp only [if_neg (Int.not_le.mpr c13), if_pos (show h (a0 + 8) a1 < a2 from c13)] at e ⊢; exact e
  refine k12 _ ?_
  refine WP.istore (L' := [(12, a0), (0, a1), (0, a2), (0, if h (a0 + 4) a1 = 1 then 1 else 0), (0, s_X10_stateAt_1 a0 a1 h), (0, if h (a0 + 8) a1 < a2 then 1 else 0)]) rfl rfl ?_
  refine WP.aload_n rfl rfl ⟨by decide, by decide⟩ ?_
  refine WP.getR rfl rfl ?_
  refine WP.iload_n rfl rfl ?_
  refine WP.iaload rfl ⟨by decide, by decide, by decide⟩ o1 ?_
  refine WP.iload rfl rfl ?_
  refine WP.ni_lt rfl (fun c15 => ?_) (fun c15 => ?_)
  · refine WP.iload rfl rfl ?_
    refine WP.nb_eq rfl (fun c16 => ?_) (fun c16 => ?_)
    · refine WP.iload_n rfl rfl ?_
      refine WP.aload_n rfl rfl ⟨by decide, by decide⟩ ?_
      refine WP.getR rfl rfl ?_
      refine WP.iload_n rfl rfl ?_
      refine WP.iaload rfl ⟨by decide, by decide, by decide⟩ o1 ?_
      have k17 : ∀ Q' : Option pV → pH → Prop, (WP 94 (64, [(12, a0), (0, a1), (0, a2), (0, if h (a0 + 4) a1 = 1 then 1 else 0), (0, s_X10_stateAt_1 a0 a1 h), (0, if h (a0 + 8) a1 < a2 then 1 else 0)], [(0, if h (a0 + 7) a1 ≤ a2 then 1 else 0)], h) Q') → WP 94 (60, [(12, a0), (0, a1), (0, a2), (0, if h (a0 + 4) a1 = 1 then 1 else 0), (0, s_X10_stateAt_1 a0 a1 h), (0, if h (a0 + 8) a1 < a2 then 1 else 0)], [(0, h (a0 + 7) a1), (0, a2)], h) Q' := fun Q' kk => by
        refine WP.ni_lt rfl (fun c18 => ?_) (fun c18 => ?_)
        · refine WP.iconst rfl ?_
          have e := kk; simp only [if_pos c18, if_neg (show ¬ (h (a0 + 7) a1 ≤ a2) from Int.not_le.mpr c18)] at e ⊢; exact e
        · refine WP.iconst rfl ?_
          refine WP.goto rfl ?_
          have e := kk; simp only [if_neg (Int.not_lt.mpr c18), if_pos (show h (a0 + 7) a1 ≤ a2 from c18)] at e ⊢; exact e
      refine k17 _ ?_
      refine WP.reti rfl ?_; have e := kk; simp only [F_X10_stateAt, if_pos c15, if_neg (c16)] at e ⊢; exact e
    · refine WP.iconst rfl ?_
      refine WP.reti rfl ?_; have e := kk; simp only [F_X10_stateAt, if_pos c15, if_pos c16] at e ⊢; exact e
  · refine WP.iload rfl rfl ?_
    refine WP.nb_ne rfl (fun c20 => ?_) (fun c20 => ?_)
    · refine WP.iconst rfl ?_
      refine WP.reti rfl ?_; have e := kk; simp only [F_X10_stateAt, if_neg (Int.not_lt.mpr c15), if_pos c20] at e ⊢; exact e
    · refine WP.iload_n rfl rfl ?_
      refine WP.nb_ne rfl (fun c21 => ?_) (fun c21 => ?_)
      · refine WP.iload rfl rfl ?_
        refine WP.nb_eq rfl (fun c22 => ?_) (fun c22 => ?_)
        · refine WP.iload_n rfl rfl ?_
          refine WP.aload_n rfl rfl ⟨by decide, by decide⟩ ?_
          refine WP.getR rfl rfl ?_
          refine WP.iload_n rfl rfl ?_
          refine WP.iaload rfl ⟨by decide, by decide, by decide⟩ o1 ?_
          have k23 : ∀ Q' : Option pV → pH → Prop, (WP 94 (64, [(12, a0), (0, a1), (0, a2), (0, if h (a0 + 4) a1 = 1 then 1 else 0), (0, s_X10_stateAt_1 a0 a1 h), (0, if h (a0 + 8) a1 < a2 then 1 else 0)], [(0, if h (a0 + 7) a1 ≤ a2 then 1 else 0)], h) Q') → WP 94 (60, [(12, a0), (0, a1), (0, a2), (0, if h (a0 + 4) a1 = 1 then 1 else 0), (0, s_X10_stateAt_1 a0 a1 h), (0, if h (a0 + 8) a1 < a2 then 1 else 0)], [(0, h (a0 + 7) a1), (0, a2)], h) Q' := fun Q' kk => by
            refine WP.ni_lt rfl (fun c24 => ?_) (fun c24 => ?_)
            · refine WP.iconst rfl ?_
              have e := kk; simp only [if_pos c24, if_neg (show ¬ (h (a0 + 7) a1 ≤ a2) from Int.not_le.mpr c24)] at e ⊢; exact e
            · refine WP.iconst rfl ?_
              refine WP.goto rfl ?_
              have e := kk; simp only [if_neg (Int.not_lt.mpr c24), if_pos (show h (a0 + 7) a1 ≤ a2 from c24)] at e ⊢; exact e
          refine k23 _ ?_
          refine WP.reti rfl ?_; have e := kk; simp only [F_X10_stateAt, if_neg (Int.not_lt.mpr c15), if_neg (c20), if_pos c21] at e ⊢; exact e
        · exact absurd c22 (c20)
      · refine WP.iconst rfl ?_
        refine WP.reti rfl ?_; have e := kk; simp only [F_X10_stateAt, if_neg (Int.not_lt.mpr c15), if_neg (c20), if_neg (c21)] at e ⊢; exact e
theorem c_X10_stateAt (a0 : Int) (a1 : Int) (a2 : Int) (h : pH) (hp : P_X10_stateAt a0 a1 a2 h) : CP 94 [(12, a0), (0, a1), (0, a2)] h (fun r h1 => r = some (0, F_X10_stateAt a0 a1 a2 h) ∧ h1 = h) := w_X10_stateAt a0 a1 a2 h hp ⟨rfl, rfl⟩
noncomputable def s_X10_billOf_1 (a0 : Int) (a1 : Int) (x2 : Int) (x3 : Int) (h : pH) : Int := if h (a0 + 5) x3 = a1 then if h (a0 + 11) x3 = 2 then x2 + (h (a0 + 2) a1) else if h (a0 + 11) x3 = 3 then x2 - (h (a0 + 3) a1) else x2 else x2
def C_X10_billOf_4 (a0 : Int) (a1 : Int) (h : pH) (x2 : Int) (x3 : Int) : Prop := x3 < h a0 15
noncomputable def B_X10_billOf_4 (a0 : Int) (a1 : Int) (h : pH) (x2 : Int) (x3 : Int) : Int × Int := (s_X10_billOf_1 a0 a1 x2 x3 h, x3 + 1)
noncomputable def P_X10_billOf_4 (a0 : Int) (a1 : Int) (h : pH) (x2 : Int) (x3 : Int) : Prop := ((x3 < h a0 15) → (0 ≤ x3 ∧ x3 < 16) ∧ (((h (a0 + 5) x3 = a1) → ((((h (a0 + 11) x3 = 2) → ((0 ≤ a1 ∧ a1 < 8) ∧ (fx_i (x2 + (h (a0 + 2) a1))))) ∧ ((¬ h (a0 + 11) x3 = 2) → (((h (a0 + 11) x3 = 3) → ((0 ≤ a1 ∧ a1 < 8) ∧ (fx_i (x2 - (h (a0 + 3) a1))))))))))) ∧ (fx_i (x3 + 1)))
noncomputable def L_X10_billOf_4 (a0 : Int) (a1 : Int) (h : pH) (x2 : Int) (x3 : Int) : Int × Int := fx_wh (σ := Int × Int) (fun s => C_X10_billOf_4 a0 a1 h s.1 s.2) (fun s => B_X10_billOf_4 a0 a1 h s.1 s.2) (x2, x3)
def O_X10_billOf_4 (a0 : Int) (a1 : Int) (h : pH) (x2 : Int) (x3 : Int) : Prop := fx_ok (σ := Int × Int) (fun s => C_X10_billOf_4 a0 a1 h s.1 s.2) (fun s => B_X10_billOf_4 a0 a1 h s.1 s.2) (fun s => P_X10_billOf_4 a0 a1 h s.1 s.2) (x2, x3)
set_option maxHeartbeats 4000000 in
theorem lp_X10_billOf_4 (a0 : Int) (a1 : Int) (h : pH) (x2 : Int) (x3 : Int) {Q : Option pV → pH → Prop} (hp : O_X10_billOf_4 a0 a1 h x2 x3) (kk : ∀ us : List pV, WP 95 (49, [(12, a0), (0, a1), (0, (L_X10_billOf_4 a0 a1 h x2 x3).1), (0, (L_X10_billOf_4 a0 a1 h x2 x3).2)], [], h) Q) : ∀ us : List pV, WP 95 (4, [(12, a0), (0, a1), (0, x2), (0, x3)], [], h) Q := by
  refine WP.wh (σ := Int × Int) (fun s => C_X10_billOf_4 a0 a1 h s.1 s.2) (fun s => B_X10_billOf_4 a0 a1 h s.1 s.2) (fun s => P_X10_billOf_4 a0 a1 h s.1 s.2) (fun s us => (4, [(12, a0), (0, a1), (0, s.1), (0, s.2)], [], h)) (x2, x3) hp ?_ ?_
  · intro s us hP hc kk
    obtain ⟨x2, x3⟩ := s
    change P_X10_billOf_4 a0 a1 h x2 x3 at hP
    change x3 < h a0 15 at hc
    replace kk : ∀ (us' : List pV) (s' : Int × Int), s' = B_X10_billOf_4 a0 a1 h x2 x3 → WP 95 (4, [(12, a0), (0, a1), (0, s'.1), (0, s'.2)], [], h) Q := fun us' s' e => by subst e; exact kk us'
    unfold P_X10_billOf_4 at hP
    obtain ⟨o3, q18, o19⟩ := hP hc
    show WP 95 (4, [(12, a0), (0, a1), (0, x2), (0, x3)], [], h) Q
    refine WP.iload_n rfl rfl ?_
    refine WP.aload_n rfl rfl ⟨by decide, by decide⟩ ?_
    refine WP.getI rfl rfl ?_
    refine WP.ni_ge rfl (fun c2 => ?_) (fun c2 => ?_)
    · exact absurd hc (Int.not_lt.mpr c2)
    · refine WP.aload_n rfl rfl ⟨by decide, by decide⟩ ?_
      refine WP.getR rfl rfl ?_
      refine WP.iload_n rfl rfl ?_
      refine WP.iaload rfl ⟨by decide, by decide, by decide⟩ o3 ?_
      refine WP.iload_n rfl rfl ?_
      have k4 : ∀ Q' : Option pV → pH → Prop, (WP 95 (47, [(12, a0), (0, a1), (0, s_X10_billOf_1 a0 a1 x2 x3 h), (0, x3)], [], h) Q') → WP 95 (13, [(12, a0), (0, a1), (0, x2), (0, x3)], [(0, a1), (0, h (a0 + 5) x3)], h) Q' := fun Q' kk => by
        have q16 := q18
        refine WP.ni_ne rfl (fun c5 => ?_) (fun c5 => ?_)
        · refine WP.aload_n rfl rfl ⟨by decide, by decide⟩ ?_
          refine WP.getR rfl rfl ?_
          refine WP.iload_n rfl rfl ?_
          refine WP.iaload rfl ⟨by decide, by decide, by decide⟩ o3 ?_
          refine WP.iload_n rfl rfl ?_
          refine WP.ni_ne rfl (fun c15 => ?_) (fun c15 => ?_)
          · have e := kk; simp only [s_X10_billOf_1, if_neg (c5)] at e ⊢; exact e
          · exact absurd c15 (c5)
        · have q14 := q16 c5
          refine WP.aload_n rfl rfl ⟨by decide, by decide⟩ ?_
          refine WP.getR rfl rfl ?_
          refine WP.iload_n rfl rfl ?_
          refine WP.iaload rfl ⟨by decide, by decide, by decide⟩ o3 ?_
          refine WP.iconst rfl ?_
          refine WP.ni_ne rfl (fun c6 => ?_) (fun c6 => ?_)
          · have q13 := q14.2 c6
            refine WP.aload_n rfl rfl ⟨by decide, by decide⟩ ?_
            refine WP.getR rfl rfl ?_
            refine WP.iload_n rfl rfl ?_
            refine WP.iaload rfl ⟨by decide, by decide, by decide⟩ o3 ?_
            refine WP.iload_n rfl rfl ?_
            refine WP.ni_ne rfl (fun c9 => ?_) (fun c9 => ?_)
            · exact absurd c5 (c9)
            · refine WP.aload_n rfl rfl ⟨by decide, by decide⟩ ?_
              refine WP.getR rfl rfl ?_
              refine WP.iload_n rfl rfl ?_
              refine WP.iaload rfl ⟨by decide, by decide, by decide⟩ o3 ?_
              refine WP.iconst rfl ?_
              refine WP.ni_ne rfl (fun c10 => ?_) (fun c10 => ?_)
              · have e := kk; simp only [s_X10_billOf_1, if_pos c5, if_neg (c6), if_neg (c10)] at e ⊢; exact e
              · obtain ⟨o11, o12⟩ := q13 c10
                refine WP.iload_n rfl rfl ?_
                refine WP.aload_n rfl rfl ⟨by decide, by decide⟩ ?_
                refine WP.getR rfl rfl ?_
                refine WP.iload_n rfl rfl ?_
                refine WP.iaload rfl ⟨by decide, by decide, by decide⟩ o11 ?_
                refine WP.isubE rfl o12 ?_
                refine WP.istore_n (L' := [(12, a0), (0, a1), (0, x2 - (h (a0 + 3) a1)), (0, x3)]) rfl rfl ?_
                have e := kk; simp only [s_X10_billOf_1, if_pos c5, if_neg (c6), if_pos c10] at e ⊢; exact e
          · obtain ⟨o7, o8⟩ := q14.1 c6
            refine WP.iload_n rfl rfl ?_
            refine WP.aload_n rfl rfl ⟨by decide, by decide⟩ ?_
            refine WP.getR rfl rfl ?_
            refine WP.iload_n rfl rfl ?_
            refine WP.iaload rfl ⟨by decide, by decide, by decide⟩ o7 ?_
            refine WP.iaddE rfl o8 ?_
            refine WP.istore_n (L' := [(12, a0), (0, a1), (0, x2 + (h (a0 + 2) a1)), (0, x3)]) rfl rfl ?_
            refine WP.goto rfl ?_
            have e := kk; simp only [s_X10_billOf_1, if_pos c5, if_pos c6] at e ⊢; exact e
      refine k4 _ ?_
      refine WP.iincE (L' := [(12, a0), (0, a1), (0, s_X10_billOf_1 a0 a1 x2 x3 h), (0, x3 + 1)]) rfl rfl o19 rfl ?_
      refine WP.goto rfl ?_
      exact kk [] (s_X10_billOf_1 a0 a1 x2 x3 h, x3 + 1) (rfl)
  · intro hP hc
    generalize hs : (L_X10_billOf_4 a0 a1 h x2 x3 : Int × Int) = s at kk
    change P_X10_billOf_4 a0 a1 h (L_X10_billOf_4 a0 a1 h x2 x3).1 (L_X10_billOf_4 a0 a1 h x2 x3).2 at hP
    change ¬ C_X10_billOf_4 a0 a1 h (L_X10_billOf_4 a0 a1 h x2 x3).1 (L_X10_billOf_4 a0 a1 h x2 x3).2 at hc
    intro us
    show WP 95 (4, [(12, a0), (0, a1), (0, (L_X10_billOf_4 a0 a1 h x2 x3).1), (0, (L_X10_billOf_4 a0 a1 h x2 x3).2)], [], h) Q
    rw [hs] at hP hc ⊢
    obtain ⟨x2, x3⟩ := s
    change P_X10_billOf_4 a0 a1 h x2 x3 at hP
    change ¬ (x3 < h a0 15) at hc
    unfold P_X10_billOf_4 at hP
    show WP 95 (4, [(12, a0), (0, a1), (0, x2), (0, x3)], [], h) Q
    refine WP.iload_n rfl rfl ?_
    refine WP.aload_n rfl rfl ⟨by decide, by decide⟩ ?_
    refine WP.getI rfl rfl ?_
    refine WP.ni_ge rfl (fun c1 => ?_) (fun c1 => ?_)
    · exact kk []
    · exact absurd (show x3 < h a0 15 from c1) hc
noncomputable def F_X10_billOf (a0 : Int) (a1 : Int) (h : pH) : Int := (L_X10_billOf_4 a0 a1 h 0 0).1
noncomputable def P_X10_billOf (a0 : Int) (a1 : Int) (h : pH) : Prop := O_X10_billOf_4 a0 a1 h 0 0
set_option maxHeartbeats 4000000 in
theorem w_X10_billOf (a0 : Int) (a1 : Int) (h : pH) {Q : Option pV → pH → Prop} (hp : P_X10_billOf a0 a1 h) (kk : Q (some (0, F_X10_billOf a0 a1 h)) (h)) : WP 95 (0, [(12, a0), (0, a1), pU, pU], [], h) Q := by
  unfold P_X10_billOf at hp
  have o20 := hp
  refine WP.iconst rfl ?_
  refine WP.istore_n (L' := [(12, a0), (0, a1), (0, 0), pU]) rfl rfl ?_
  refine WP.iconst rfl ?_
  refine WP.istore_n (L' := [(12, a0), (0, a1), (0, 0), (0, 0)]) rfl rfl ?_
  refine lp_X10_billOf_4 a0 a1 h 0 0 o20 (fun us21 => ?_) []
  show WP 95 (49, [(12, a0), (0, a1), (0, (L_X10_billOf_4 a0 a1 h 0 0).1), (0, (L_X10_billOf_4 a0 a1 h 0 0).2)], [], h) Q
  refine WP.iload_n rfl rfl ?_
  refine WP.reti rfl ?_; exact kk
theorem c_X10_billOf (a0 : Int) (a1 : Int) (h : pH) (hp : P_X10_billOf a0 a1 h) : CP 95 [(12, a0), (0, a1)] h (fun r h1 => r = some (0, F_X10_billOf a0 a1 h) ∧ h1 = h) := w_X10_billOf a0 a1 h hp ⟨rfl, rfl⟩
noncomputable def F_X11_fault (h : pH) : Int := h 38 5
set_option maxHeartbeats 4000000 in
theorem w_X11_fault (h : pH) {Q : Option pV → pH → Prop} (kk : Q (some (0, F_X11_fault h)) (h)) : WP 111 (0, [(13, 0)], [], h) Q := by
  refine WP.aload_n rfl rfl ⟨by decide, by decide⟩ ?_
  refine WP.getRF (b := 1) rfl rfl rfl ?_
  refine WP.getRF (b := 38) rfl rfl rfl ?_
  refine WP.getI rfl rfl ?_
  refine WP.reti rfl ?_; exact kk
theorem c_X11_fault (h : pH) : CP 111 [(13, 0)] h (fun r h1 => r = some (0, F_X11_fault h) ∧ h1 = h) := w_X11_fault h ⟨rfl, rfl⟩
noncomputable def F_X11_nextSet (a0 : Int) (a1 : Int) (h : pH) : Int := pm_and (a0 - a1) a1
noncomputable def P_X11_nextSet (a0 : Int) (a1 : Int) (h : pH) : Prop := (fx_i (a0 - a1))
set_option maxHeartbeats 4000000 in
theorem w_X11_nextSet (a0 : Int) (a1 : Int) (h : pH) {Q : Option pV → pH → Prop} (hp : P_X11_nextSet a0 a1 h) (kk : Q (some (0, F_X11_nextSet a0 a1 h)) (h)) : WP 119 (0, [(0, a0), (0, a1)], [], h) Q := by
  unfold P_X11_nextSet at hp
  have o1 := hp
  refine WP.iload_n rfl rfl ?_
  refine WP.iload_n rfl rfl ?_
  refine WP.isubE rfl o1 ?_
  refine WP.iload_n rfl rfl ?_
  refine WP.iand rfl ?_
  refine WP.reti rfl ?_; exact kk
theorem c_X11_nextSet (a0 : Int) (a1 : Int) (h : pH) (hp : P_X11_nextSet a0 a1 h) : CP 119 [(0, a0), (0, a1)] h (fun r h1 => r = some (0, F_X11_nextSet a0 a1 h) ∧ h1 = h) := w_X11_nextSet a0 a1 h hp ⟨rfl, rfl⟩
noncomputable def s_X11_record_1 (a1 : Int) (h : pH) : Int := if h 99 3 ≤ a1 then (-2000000000000000000) else h 146 a1
noncomputable def F_X11_record (a1 : Int) (h : pH) : Int := if 0 ≤ a1 then s_X11_record_1 a1 h else (-2100000000000000000)
noncomputable def P_X11_record (a1 : Int) (h : pH) : Prop := ((0 ≤ a1) → ((((a1 < h 99 3) → ((0 ≤ a1 ∧ a1 < 40))))))
set_option maxHeartbeats 4000000 in
theorem w_X11_record (a1 : Int) (h : pH) {Q : Option pV → pH → Prop} (hp : P_X11_record a1 h) (kk : Q (some (1, F_X11_record a1 h)) (h)) : WP 128 (0, [(13, 0), (0, a1)], [], h) Q := by
  unfold P_X11_record at hp
  have q8 := hp
  refine WP.iload_n rfl rfl ?_
  refine WP.nz_ge rfl (fun c1 => ?_) (fun c1 => ?_)
  · have q7 := q8 c1
    refine WP.iload_n rfl rfl ?_
    refine WP.aload_n rfl rfl ⟨by decide, by decide⟩ ?_
    refine WP.getRF (b := 99) rfl rfl rfl ?_
    refine WP.getI rfl rfl ?_
    have k2 : ∀ Q' : Option pV → pH → Prop, (WP 128 (16, [(13, 0), (0, a1)], [(1, s_X11_record_1 a1 h)], h) Q') → WP 128 (8, [(13, 0), (0, a1)], [(0, h 99 3), (0, a1)], h) Q' := fun Q' kk => by
      have q5 := q7
      refine WP.ni_ge rfl (fun c3 => ?_) (fun c3 => ?_)
      · refine WP.ldc2_w rfl ?_
        have e := kk; simp only [s_X11_record_1, if_pos c3] at e ⊢; exact e
      · have o4 := q5 c3
        refine WP.aload_n rfl rfl ⟨by decide, by decide⟩ ?_
        refine WP.getRF (b := 99) rfl rfl rfl ?_
        refine WP.getRF (b := 146) rfl rfl rfl ?_
        refine WP.iload_n rfl rfl ?_
        refine WP.laload rfl ⟨by decide, by decide, by decide⟩ o4 ?_
        refine WP.goto rfl ?_
        have e := kk; simp only [s_X11_record_1, if_neg (Int.not_le.mpr c3)] at e ⊢; exact e
    refine k2 _ ?_
    refine WP.retl rfl ?_; have e := kk; simp only [F_X11_record, if_pos c1] at e ⊢; exact e
  · refine WP.ldc2_w rfl ?_
    refine WP.retl rfl ?_; have e := kk; simp only [F_X11_record, if_neg (Int.not_le.mpr c1)] at e ⊢; exact e
theorem c_X11_record (a1 : Int) (h : pH) (hp : P_X11_record a1 h) : CP 128 [(13, 0), (0, a1)] h (fun r h1 => r = some (1, F_X11_record a1 h) ∧ h1 = h) := w_X11_record a1 h hp ⟨rfl, rfl⟩
noncomputable def F_X11_within (a0 : Int) (a1 : Int) (a2 : Int) (h : pH) : Int := if a1 ≤ a0 ∧ a0 ≤ a2 then 1 else 0
set_option maxHeartbeats 4000000 in
theorem w_X11_within (a0 : Int) (a1 : Int) (a2 : Int) (h : pH) {Q : Option pV → pH → Prop} (kk : Q (some (0, F_X11_within a0 a1 a2 h)) (h)) : WP 135 (0, [(0, a0), (0, a1), (0, a2)], [], h) Q := by
  refine WP.iload_n rfl rfl ?_
  refine WP.iload_n rfl rfl ?_
  have k1 : ∀ Q' : Option pV → pH → Prop, (WP 135 (9, [(0, a0), (0, a1), (0, a2)], [(0, if a1 ≤ a0 ∧ a0 ≤ a2 then 1 else 0)], h) Q') → WP 135 (2, [(0, a0), (0, a1), (0, a2)], [(0, a1), (0, a0)], h) Q' := fun Q' kk => by
    refine WP.ni_lt rfl (fun c2 => ?_) (fun c2 => ?_)
    · refine WP.iconst rfl ?_
      have e := kk; simp only [if_pos c2, if_neg (show ¬ (a1 ≤ a0 ∧ a0 ≤ a2) from fun q => (Int.not_le.mpr c2) q.1)] at e ⊢; exact e
    · refine WP.iload_n rfl rfl ?_
      refine WP.iload_n rfl rfl ?_
      refine WP.ni_gt rfl (fun c3 => ?_) (fun c3 => ?_)
      · refine WP.iconst rfl ?_
        have e := kk; simp only [if_neg (Int.not_lt.mpr c2), if_pos c3, if_neg (show ¬ (a1 ≤ a0 ∧ a0 ≤ a2) from fun q => (Int.not_le.mpr c3) q.2)] at e ⊢; exact e
      · refine WP.iconst rfl ?_
        refine WP.goto rfl ?_
        have e := kk; simp only [if_neg (Int.not_lt.mpr c2), if_neg (Int.not_lt.mpr c3), if_pos (show a1 ≤ a0 ∧ a0 ≤ a2 from ⟨c2, c3⟩)] at e ⊢; exact e
  refine k1 _ ?_
  refine WP.retz rfl (fx_01 _) ?_; exact kk
theorem c_X11_within (a0 : Int) (a1 : Int) (a2 : Int) (h : pH) : CP 135 [(0, a0), (0, a1), (0, a2)] h (fun r h1 => r = some (0, F_X11_within a0 a1 a2 h) ∧ h1 = h) := w_X11_within a0 a1 a2 h ⟨rfl, rfl⟩
noncomputable def F_X11_brought (a0 : Int) (a1 : Int) (h : pH) : Int := fx_max 0 (fx_min a0 a1)
set_option maxHeartbeats 4000000 in
theorem w_X11_brought (a0 : Int) (a1 : Int) (h : pH) {Q : Option pV → pH → Prop} (kk : Q (some (0, F_X11_brought a0 a1 h)) (h)) : WP 136 (0, [(0, a0), (0, a1)], [], h) Q := by
  refine WP.iconst rfl ?_
  refine WP.iload_n rfl rfl ?_
  refine WP.iload_n rfl rfl ?_
  refine WP.minIF rfl rfl ?_
  refine WP.maxIF rfl rfl ?_
  refine WP.reti rfl ?_; exact kk
theorem c_X11_brought (a0 : Int) (a1 : Int) (h : pH) : CP 136 [(0, a0), (0, a1)] h (fun r h1 => r = some (0, F_X11_brought a0 a1 h) ∧ h1 = h) := w_X11_brought a0 a1 h ⟨rfl, rfl⟩
noncomputable def F_X12_in (a0 : Int) (a1 : Int) (a2 : Int) (h : pH) : Int := if a1 ≤ a0 ∧ a0 ≤ a2 then 1 else 0
set_option maxHeartbeats 4000000 in
theorem w_X12_in (a0 : Int) (a1 : Int) (a2 : Int) (h : pH) {Q : Option pV → pH → Prop} (kk : Q (some (0, F_X12_in a0 a1 a2 h)) (h)) : WP 140 (0, [(1, a0), pU, (1, a1), pU, (1, a2), pU], [], h) Q := by
  refine WP.lload_n rfl rfl ?_
  refine WP.lload_n rfl rfl ?_
  refine WP.lcmp rfl ?_
  have k1 : ∀ Q' : Option pV → pH → Prop, (WP 140 (11, [(1, a0), pU, (1, a1), pU, (1, a2), pU], [(0, if a1 ≤ a0 ∧ a0 ≤ a2 then 1 else 0)], h) Q') → WP 140 (3, [(1, a0), pU, (1, a1), pU, (1, a2), pU], [(0, pm_lcmp a0 a1)], h) Q' := fun Q' kk => by
    refine WP.nl_lt rfl (fun c2 => ?_) (fun c2 => ?_)
    · refine WP.iconst rfl ?_
      have e := kk; simp only [if_pos c2, if_neg (show ¬ (a1 ≤ a0 ∧ a0 ≤ a2) from fun q => (Int.not_le.mpr c2) q.1)] at e ⊢; exact e
    · refine WP.lload_n rfl rfl ?_
      refine WP.lload rfl rfl ?_
      refine WP.lcmp rfl ?_
      refine WP.nl_gt rfl (fun c3 => ?_) (fun c3 => ?_)
      · refine WP.iconst rfl ?_
        have e := kk; simp only [if_neg (Int.not_lt.mpr c2), if_pos c3, if_neg (show ¬ (a1 ≤ a0 ∧ a0 ≤ a2) from fun q => (Int.not_le.mpr c3) q.2)] at e ⊢; exact e
      · refine WP.iconst rfl ?_
        refine WP.goto rfl ?_
        have e := kk; simp only [if_neg (Int.not_lt.mpr c2), if_neg (Int.not_lt.mpr c3), if_pos (show a1 ≤ a0 ∧ a0 ≤ a2 from ⟨c2, c3⟩)] at e ⊢; exact e
  refine k1 _ ?_
  refine WP.retz rfl (fx_01 _) ?_; exact kk
theorem c_X12_in (a0 : Int) (a1 : Int) (a2 : Int) (h : pH) : CP 140 [(1, a0), (1, a1), (1, a2)] h (fun r h1 => r = some (0, F_X12_in a0 a1 a2 h) ∧ h1 = h) := w_X12_in a0 a1 a2 h ⟨rfl, rfl⟩
noncomputable def F_X12_at (a1 : Int) (h : pH) : Int := h 249 a1
noncomputable def P_X12_at (a1 : Int) (h : pH) : Prop := (0 ≤ a1 ∧ a1 < 620) ∧ (fx_i (h 249 a1))
set_option maxHeartbeats 4000000 in
theorem w_X12_at (a1 : Int) (h : pH) {Q : Option pV → pH → Prop} (hp : P_X12_at a1 h) (kk : Q (some (0, F_X12_at a1 h)) (h)) : WP 141 (0, [(14, 248), (0, a1)], [], h) Q := by
  unfold P_X12_at at hp
  obtain ⟨o1, o2⟩ := hp
  refine WP.aload_n rfl rfl ⟨by decide, by decide⟩ ?_
  refine WP.getRF (b := 249) rfl rfl rfl ?_
  refine WP.iload_n rfl rfl ?_
  refine WP.laload rfl ⟨by decide, by decide, by decide⟩ o1 ?_
  refine WP.l2iE rfl o2 ?_
  refine WP.reti rfl ?_; exact kk
theorem c_X12_at (a1 : Int) (h : pH) (hp : P_X12_at a1 h) : CP 141 [(14, 248), (0, a1)] h (fun r h1 => r = some (0, F_X12_at a1 h) ∧ h1 = h) := w_X12_at a1 h hp ⟨rfl, rfl⟩
def C_X12_copy_2 (a0 : Int) (a1 : Int) (x2 : Int) (h : pH) : Prop := x2 < 620
noncomputable def B_X12_copy_2 (a0 : Int) (a1 : Int) (x2 : Int) (h : pH) : Int × pH := (x2 + 1, pm_upd h a1 x2 (h a0 x2))
noncomputable def P_X12_copy_2 (a0 : Int) (a1 : Int) (x2 : Int) (h : pH) : Prop := ((x2 < 620) → (0 ≤ x2 ∧ x2 < 620) ∧ (fx_i (x2 + 1)))
noncomputable def L_X12_copy_2 (a0 : Int) (a1 : Int) (x2 : Int) (h : pH) : Int × pH := fx_wh (σ := Int × pH) (fun s => C_X12_copy_2 a0 a1 s.1 s.2) (fun s => B_X12_copy_2 a0 a1 s.1 s.2) (x2, h)
def O_X12_copy_2 (a0 : Int) (a1 : Int) (x2 : Int) (h : pH) : Prop := fx_ok (σ := Int × pH) (fun s => C_X12_copy_2 a0 a1 s.1 s.2) (fun s => B_X12_copy_2 a0 a1 s.1 s.2) (fun s => P_X12_copy_2 a0 a1 s.1 s.2) (x2, h)
set_option maxHeartbeats 4000000 in
theorem lp_X12_copy_2 (a0 : Int) (a1 : Int) (x2 : Int) (h : pH) {Q : Option pV → pH → Prop} (hp : O_X12_copy_2 a0 a1 x2 h) (kk : ∀ us : List pV, WP 142 (13, [(3481, a0), (3481, a1), (0, (L_X12_copy_2 a0 a1 x2 h).1)], [], (L_X12_copy_2 a0 a1 x2 h).2) Q) : ∀ us : List pV, WP 142 (2, [(3481, a0), (3481, a1), (0, x2)], [], h) Q := by
  refine WP.wh (σ := Int × pH) (fun s => C_X12_copy_2 a0 a1 s.1 s.2) (fun s => B_X12_copy_2 a0 a1 s.1 s.2) (fun s => P_X12_copy_2 a0 a1 s.1 s.2) (fun s us => (2, [(3481, a0), (3481, a1), (0, s.1)], [], s.2)) (x2, h) hp ?_ ?_
  · intro s us hP hc kk
    obtain ⟨x2, h⟩ := s
    change P_X12_copy_2 a0 a1 x2 h at hP
    change x2 < 620 at hc
    replace kk : ∀ (us' : List pV) (s' : Int × pH), s' = B_X12_copy_2 a0 a1 x2 h → WP 142 (2, [(3481, a0), (3481, a1), (0, s'.1)], [], s'.2) Q := fun us' s' e => by subst e; exact kk us'
    unfold P_X12_copy_2 at hP
    obtain ⟨o3, o4⟩ := hP hc
    show WP 142 (2, [(3481, a0), (3481, a1), (0, x2)], [], h) Q
    refine WP.iload_n rfl rfl ?_
    refine WP.sipush rfl ?_
    refine WP.ni_ge rfl (fun c2 => ?_) (fun c2 => ?_)
    · exact absurd hc (Int.not_lt.mpr c2)
    · refine WP.aload_n rfl rfl ⟨by decide, by decide⟩ ?_
      refine WP.iload_n rfl rfl ?_
      refine WP.aload_n rfl rfl ⟨by decide, by decide⟩ ?_
      refine WP.iload_n rfl rfl ?_
      refine WP.laload rfl ⟨by decide, by decide, by decide⟩ o3 ?_
      refine WP.lastore rfl ⟨by decide, by decide, by decide⟩ o3 ?_
      refine WP.iincE (L' := [(3481, a0), (3481, a1), (0, x2 + 1)]) rfl rfl o4 rfl ?_
      refine WP.goto rfl ?_
      exact kk [] (x2 + 1, pm_upd h a1 x2 (h a0 x2)) (rfl)
  · intro hP hc
    generalize hs : (L_X12_copy_2 a0 a1 x2 h : Int × pH) = s at kk
    change P_X12_copy_2 a0 a1 (L_X12_copy_2 a0 a1 x2 h).1 (L_X12_copy_2 a0 a1 x2 h).2 at hP
    change ¬ C_X12_copy_2 a0 a1 (L_X12_copy_2 a0 a1 x2 h).1 (L_X12_copy_2 a0 a1 x2 h).2 at hc
    intro us
    show WP 142 (2, [(3481, a0), (3481, a1), (0, (L_X12_copy_2 a0 a1 x2 h).1)], [], (L_X12_copy_2 a0 a1 x2 h).2) Q
    rw [hs] at hP hc ⊢
    obtain ⟨x2, h⟩ := s
    change P_X12_copy_2 a0 a1 x2 h at hP
    change ¬ (x2 < 620) at hc
    unfold P_X12_copy_2 at hP
    show WP 142 (2, [(3481, a0), (3481, a1), (0, x2)], [], h) Q
    refine WP.iload_n rfl rfl ?_
    refine WP.sipush rfl ?_
    refine WP.ni_ge rfl (fun c1 => ?_) (fun c1 => ?_)
    · exact kk []
    · exact absurd (show x2 < 620 from c1) hc
noncomputable def H_X12_copy (a0 : Int) (a1 : Int) (h : pH) : pH := (L_X12_copy_2 a0 a1 0 h).2
noncomputable def P_X12_copy (a0 : Int) (a1 : Int) (h : pH) : Prop := O_X12_copy_2 a0 a1 0 h
set_option maxHeartbeats 4000000 in
theorem w_X12_copy (a0 : Int) (a1 : Int) (h : pH) {Q : Option pV → pH → Prop} (hp : P_X12_copy a0 a1 h) (kk : Q (none) (H_X12_copy a0 a1 h)) : WP 142 (0, [(3481, a0), (3481, a1), pU], [], h) Q := by
  unfold P_X12_copy at hp
  have o5 := hp
  refine WP.iconst rfl ?_
  refine WP.istore_n (L' := [(3481, a0), (3481, a1), (0, 0)]) rfl rfl ?_
  refine lp_X12_copy_2 a0 a1 0 h o5 (fun us6 => ?_) []
  show WP 142 (13, [(3481, a0), (3481, a1), (0, (L_X12_copy_2 a0 a1 0 h).1)], [], (L_X12_copy_2 a0 a1 0 h).2) Q
  refine WP.retv rfl ?_; exact kk
theorem c_X12_copy (a0 : Int) (a1 : Int) (h : pH) (hp : P_X12_copy a0 a1 h) : CP 142 [(3481, a0), (3481, a1)] h (fun r h1 => r = none ∧ h1 = H_X12_copy a0 a1 h) := w_X12_copy a0 a1 h hp ⟨rfl, rfl⟩
noncomputable def F_X12_change (a1 : Int) (a2 : Int) (h : pH) : Int := h 249 a1
noncomputable def H_X12_change (a1 : Int) (a2 : Int) (h : pH) : pH := pm_upd h 249 a1 a2
noncomputable def P_X12_change (a1 : Int) (a2 : Int) (h : pH) : Prop := (0 ≤ a1 ∧ a1 < 620) ∧ (fx_i (h 249 a1))
set_option maxHeartbeats 4000000 in
theorem w_X12_change (a1 : Int) (a2 : Int) (h : pH) {Q : Option pV → pH → Prop} (hp : P_X12_change a1 a2 h) (kk : Q (some (0, F_X12_change a1 a2 h)) (H_X12_change a1 a2 h)) : WP 143 (0, [(14, 248), (0, a1), (1, a2), pU, pU], [], h) Q := by
  unfold P_X12_change at hp
  obtain ⟨o1, o2⟩ := hp
  refine WP.aload_n rfl rfl ⟨by decide, by decide⟩ ?_
  refine WP.getRF (b := 249) rfl rfl rfl ?_
  refine WP.iload_n rfl rfl ?_
  refine WP.laload rfl ⟨by decide, by decide, by decide⟩ o1 ?_
  refine WP.l2iE rfl o2 ?_
  refine WP.istore (L' := [(14, 248), (0, a1), (1, a2), pU, (0, h 249 a1)]) rfl rfl ?_
  refine WP.aload_n rfl rfl ⟨by decide, by decide⟩ ?_
  refine WP.getRF (b := 249) rfl rfl rfl ?_
  refine WP.iload_n rfl rfl ?_
  refine WP.lload_n rfl rfl ?_
  refine WP.lastore rfl ⟨by decide, by decide, by decide⟩ o1 ?_
  refine WP.iload rfl rfl ?_
  refine WP.reti rfl ?_; exact kk
theorem c_X12_change (a1 : Int) (a2 : Int) (h : pH) (hp : P_X12_change a1 a2 h) : CP 143 [(14, 248), (0, a1), (1, a2)] h (fun r h1 => r = some (0, F_X12_change a1 a2 h) ∧ h1 = H_X12_change a1 a2 h) := w_X12_change a1 a2 h hp ⟨rfl, rfl⟩
noncomputable def F_X12_strength (a0 : Int) (h : pH) : Int := if a0 = 38 then 2 else if a0 = 42 then 5 else if a0 = 43 then 4 else if a0 = 45 then 4 else if a0 = 47 then 5 else if a0 = 60 then 3 else if a0 = 61 then 3 else if a0 = 62 then 3 else if a0 = 124 then 1 else 0
set_option maxHeartbeats 4000000 in
theorem w_X12_strength (a0 : Int) (h : pH) {Q : Option pV → pH → Prop} (kk : Q (some (0, F_X12_strength a0 h)) (h)) : WP 164 (0, [(0, a0)], [], h) Q := by
  refine WP.iload_n rfl rfl ?_
  refine WP.lsw rfl ?_
  show WP 164 (pm_look [(38, 4), (42, 10), (43, 8), (45, 8), (47, 10), (60, 6), (61, 6), (62, 6), (124, 2)] 12 a0, [(0, a0)], [], h) Q
  refine WP.lk (fun (c1 : a0 = 38) => ?_) (fun (c1 : ¬ a0 = 38) => ?_)
  · show WP 164 (4, [(0, a0)], [], h) Q
    refine WP.iconst rfl ?_
    refine WP.reti rfl ?_; have e := kk; simp only [F_X12_strength, if_pos c1] at e ⊢; exact e
  · refine WP.lk (fun (c2 : a0 = 42) => ?_) (fun (c2 : ¬ a0 = 42) => ?_)
    · show WP 164 (10, [(0, a0)], [], h) Q
      refine WP.iconst rfl ?_
      refine WP.reti rfl ?_; have e := kk; simp only [F_X12_strength, if_neg (c1), if_pos c2] at e ⊢; exact e
    · refine WP.lk (fun (c3 : a0 = 43) => ?_) (fun (c3 : ¬ a0 = 43) => ?_)
      · show WP 164 (8, [(0, a0)], [], h) Q
        refine WP.iconst rfl ?_
        refine WP.reti rfl ?_; have e := kk; simp only [F_X12_strength, if_neg (c1), if_neg (c2), if_pos c3] at e ⊢; exact e
      · refine WP.lk (fun (c4 : a0 = 45) => ?_) (fun (c4 : ¬ a0 = 45) => ?_)
        · show WP 164 (8, [(0, a0)], [], h) Q
          refine WP.iconst rfl ?_
          refine WP.reti rfl ?_; have e := kk; simp only [F_X12_strength, if_neg (c1), if_neg (c2), if_neg (c3), if_pos c4] at e ⊢; exact e
        · refine WP.lk (fun (c5 : a0 = 47) => ?_) (fun (c5 : ¬ a0 = 47) => ?_)
          · show WP 164 (10, [(0, a0)], [], h) Q
            refine WP.iconst rfl ?_
            refine WP.reti rfl ?_; have e := kk; simp only [F_X12_strength, if_neg (c1), if_neg (c2), if_neg (c3), if_neg (c4), if_pos c5] at e ⊢; exact e
          · refine WP.lk (fun (c6 : a0 = 60) => ?_) (fun (c6 : ¬ a0 = 60) => ?_)
            · show WP 164 (6, [(0, a0)], [], h) Q
              refine WP.iconst rfl ?_
              refine WP.reti rfl ?_; have e := kk; simp only [F_X12_strength, if_neg (c1), if_neg (c2), if_neg (c3), if_neg (c4), if_neg (c5), if_pos c6] at e ⊢; exact e
            · refine WP.lk (fun (c7 : a0 = 61) => ?_) (fun (c7 : ¬ a0 = 61) => ?_)
              · show WP 164 (6, [(0, a0)], [], h) Q
                refine WP.iconst rfl ?_
                refine WP.reti rfl ?_; have e := kk; simp only [F_X12_strength, if_neg (c1), if_neg (c2), if_neg (c3), if_neg (c4), if_neg (c5), if_neg (c6), if_pos c7] at e ⊢; exact e
              · refine WP.lk (fun (c8 : a0 = 62) => ?_) (fun (c8 : ¬ a0 = 62) => ?_)
                · show WP 164 (6, [(0, a0)], [], h) Q
                  refine WP.iconst rfl ?_
                  refine WP.reti rfl ?_; have e := kk; simp only [F_X12_strength, if_neg (c1), if_neg (c2), if_neg (c3), if_neg (c4), if_neg (c5), if_neg (c6), if_neg (c7), if_pos c8] at e ⊢; exact e
                · refine WP.lk (fun (c9 : a0 = 124) => ?_) (fun (c9 : ¬ a0 = 124) => ?_)
                  · show WP 164 (2, [(0, a0)], [], h) Q
                    refine WP.iconst rfl ?_
                    refine WP.reti rfl ?_; have e := kk; simp only [F_X12_strength, if_neg (c1), if_neg (c2), if_neg (c3), if_neg (c4), if_neg (c5), if_neg (c6), if_neg (c7), if_neg (c8), if_pos c9] at e ⊢; exact e
                  · show WP 164 (12, [(0, a0)], [], h) Q
                    refine WP.iconst rfl ?_
                    refine WP.reti rfl ?_; have e := kk; simp only [F_X12_strength, if_neg (c1), if_neg (c2), if_neg (c3), if_neg (c4), if_neg (c5), if_neg (c6), if_neg (c7), if_neg (c8), if_neg (c9)] at e ⊢; exact e
theorem c_X12_strength (a0 : Int) (h : pH) : CP 164 [(0, a0)] h (fun r h1 => r = some (0, F_X12_strength a0 h) ∧ h1 = h) := w_X12_strength a0 h ⟨rfl, rfl⟩
