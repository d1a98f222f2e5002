noncomputable def s_X3_likeliest_1 (a1 : Int) (x3 : Int) (x4 : Int) (h : pH) : pH := pm_upd (H_X3_multiplyAll a1 x3 x4 h) 153 0 ((H_X3_multiplyAll a1 x3 x4 h) 153 1)
noncomputable def s_X3_likeliest_2 (a1 : Int) (x3 : Int) (x4 : Int) (h : pH) : pH := pm_upd (s_X3_likeliest_1 a1 x3 x4 h) 153 1 ((H_X3_multiplyAll a1 x3 x4 h) 153 0)
noncomputable def s_X3_likeliest_3 (a1 : Int) (x3 : Int) (x4 : Int) (h : pH) : pH := if F_X3_isTriedGreater (H_X3_multiplyAll a1 x3 x4 h) = 0 then H_X3_multiplyAll a1 x3 x4 h else s_X3_likeliest_2 a1 x3 x4 h
noncomputable def s_X3_likeliest_4 (a1 : Int) (x3 : Int) (x2 : Int) (x4 : Int) (h : pH) : Int := if F_X3_isTriedGreater (H_X3_multiplyAll a1 x3 x4 h) = 0 then x2 else (100 * x3) + x4
def C_X3_likeliest_13 (a1 : Int) (x3 : Int) (x2 : Int) (x4 : Int) (h : pH) : Prop := x4 ≤ 9
noncomputable def B_X3_likeliest_13 (a1 : Int) (x3 : Int) (x2 : Int) (x4 : Int) (h : pH) : Int × Int × pH := (s_X3_likeliest_4 a1 x3 x2 x4 h, x4 + 1, s_X3_likeliest_3 a1 x3 x4 h)
noncomputable def P_X3_likeliest_13 (a1 : Int) (x3 : Int) (x2 : Int) (x4 : Int) (h : pH) : Prop := ((x4 ≤ 9) → P_X3_multiplyAll a1 x3 x4 h ∧ (P_X3_isTriedGreater (H_X3_multiplyAll a1 x3 x4 h)) ∧ (((¬ F_X3_isTriedGreater (H_X3_multiplyAll a1 x3 x4 h) = 0) → ((fx_i (100 * x3)) ∧ (fx_i ((100 * x3) + x4))))) ∧ (fx_i (x4 + 1)))
noncomputable def L_X3_likeliest_13 (a1 : Int) (x3 : Int) (x2 : Int) (x4 : Int) (h : pH) : Int × Int × pH := fx_wh (σ := Int × Int × pH) (fun s => C_X3_likeliest_13 a1 x3 s.1 s.2.1 s.2.2) (fun s => B_X3_likeliest_13 a1 x3 s.1 s.2.1 s.2.2) (x2, x4, h)
def O_X3_likeliest_13 (a1 : Int) (x3 : Int) (x2 : Int) (x4 : Int) (h : pH) : Prop := fx_ok (σ := Int × Int × pH) (fun s => C_X3_likeliest_13 a1 x3 s.1 s.2.1 s.2.2) (fun s => B_X3_likeliest_13 a1 x3 s.1 s.2.1 s.2.2) (fun s => P_X3_likeliest_13 a1 x3 s.1 s.2.1 s.2.2) (x2, x4, h)
set_option maxHeartbeats 4000000 in
theorem lp_X3_likeliest_13 (a1 : Int) (x3 : Int) (x2 : Int) (x4 : Int) (h : pH) {Q : Option pV → pH → Prop} (hp : O_X3_likeliest_13 a1 x3 x2 x4 h) (kk : ∀ us : List pV, WP 14 (42, [(5, 153), (7, a1), (0, (L_X3_likeliest_13 a1 x3 x2 x4 h).1), (0, x3), (0, (L_X3_likeliest_13 a1 x3 x2 x4 h).2.1), us.getD 0 pU], [], (L_X3_likeliest_13 a1 x3 x2 x4 h).2.2) Q) : ∀ us : List pV, WP 14 (13, [(5, 153), (7, a1), (0, x2), (0, x3), (0, x4), us.getD 0 pU], [], h) Q := by
  refine WP.wh (σ := Int × Int × pH) (fun s => C_X3_likeliest_13 a1 x3 s.1 s.2.1 s.2.2) (fun s => B_X3_likeliest_13 a1 x3 s.1 s.2.1 s.2.2) (fun s => P_X3_likeliest_13 a1 x3 s.1 s.2.1 s.2.2) (fun s us => (13, [(5, 153), (7, a1), (0, s.1), (0, x3), (0, s.2.1), us.getD 0 pU], [], s.2.2)) (x2, x4, h) hp ?_ ?_
  · intro s us hP hc kk
    obtain ⟨x2, x4, h⟩ := s
    change P_X3_likeliest_13 a1 x3 x2 x4 h at hP
    change x4 ≤ 9 at hc
    replace kk : ∀ (us' : List pV) (s' : Int × Int × pH), s' = B_X3_likeliest_13 a1 x3 x2 x4 h → WP 14 (13, [(5, 153), (7, a1), (0, s'.1), (0, x3), (0, s'.2.1), us'.getD 0 pU], [], s'.2.2) Q := fun us' s' e => by subst e; exact kk us'
    unfold P_X3_likeliest_13 at hP
    obtain ⟨o5, o6, q13, o14⟩ := hP hc
    show WP 14 (13, [(5, 153), (7, a1), (0, x2), (0, x3), (0, x4), us.getD 0 pU], [], h) Q
    refine WP.iload rfl rfl ?_
    refine WP.bipush rfl ?_
    refine WP.ni_gt rfl (fun c4 => ?_) (fun c4 => ?_)
    · exact absurd hc (Int.not_le.mpr c4)
    · refine WP.aload_n rfl rfl ⟨by decide, by decide⟩ ?_
      refine WP.aload_n rfl rfl ⟨by decide, by decide⟩ ?_
      refine WP.iload_n rfl rfl ?_
      refine WP.iload rfl rfl ?_
      refine WP.callF (c_X3_multiplyAll a1 x3 x4 h o5) rfl rfl (pm_cok rfl rfl (Or.inr ⟨_, _, rfl⟩) rfl rfl) rfl rfl ?_
      show WP 14 (21, [(5, 153), (7, a1), (0, x2), (0, x3), (0, x4), us.getD 0 pU], [], H_X3_multiplyAll a1 x3 x4 h) Q
      refine WP.aload_n rfl rfl ⟨by decide, by decide⟩ ?_
      refine WP.callF (c_X3_isTriedGreater (H_X3_multiplyAll a1 x3 x4 h) o6) rfl rfl (pm_cok rfl rfl (Or.inr ⟨_, _, rfl⟩) rfl rfl) rfl rfl ?_
      show WP 14 (23, [(5, 153), (7, a1), (0, x2), (0, x3), (0, x4), us.getD 0 pU], [(0, F_X3_isTriedGreater (H_X3_multiplyAll a1 x3 x4 h))], H_X3_multiplyAll a1 x3 x4 h) Q
      have k7 : ∀ Q' : Option pV → pH → Prop, (∀ us12 : List pV, WP 14 (40, [(5, 153), (7, a1), (0, s_X3_likeliest_4 a1 x3 x2 x4 h), (0, x3), (0, x4), us12.getD 0 pU], [], s_X3_likeliest_3 a1 x3 x4 h) Q') → WP 14 (23, [(5, 153), (7, a1), (0, x2), (0, x3), (0, x4), us.getD 0 pU], [(0, F_X3_isTriedGreater (H_X3_multiplyAll a1 x3 x4 h))], H_X3_multiplyAll a1 x3 x4 h) Q' := fun Q' kk => by
        have q11 := q13
        refine WP.nz_eq rfl (fun c8 => ?_) (fun c8 => ?_)
        · have e := kk [us.getD 0 pU]; simp only [s_X3_likeliest_4, s_X3_likeliest_3, if_pos c8] at e ⊢; exact e
        · obtain ⟨o9, o10⟩ := q11 c8
          refine WP.aload_n rfl rfl ⟨by decide, by decide⟩ ?_
          refine WP.getD rfl rfl ?_
          refine WP.astore (L' := [(5, 153), (7, a1), (0, x2), (0, x3), (0, x4), (1053, (H_X3_multiplyAll a1 x3 x4 h) 153 0)]) rfl ⟨by decide, by decide⟩ rfl ?_
          refine WP.aload_n rfl rfl ⟨by decide, by decide⟩ ?_
          refine WP.aload_n rfl rfl ⟨by decide, by decide⟩ ?_
          refine WP.getD rfl rfl ?_
          refine WP.putD rfl rfl ?_
          show WP 14 (31, [(5, 153), (7, a1), (0, x2), (0, x3), (0, x4), (1053, (H_X3_multiplyAll a1 x3 x4 h) 153 0)], [], s_X3_likeliest_1 a1 x3 x4 h) Q'
          refine WP.aload_n rfl rfl ⟨by decide, by decide⟩ ?_
          refine WP.aload rfl rfl ⟨by decide, by decide⟩ ?_
          refine WP.putD rfl rfl ?_
          show WP 14 (34, [(5, 153), (7, a1), (0, x2), (0, x3), (0, x4), (1053, (H_X3_multiplyAll a1 x3 x4 h) 153 0)], [], s_X3_likeliest_2 a1 x3 x4 h) Q'
          refine WP.bipush rfl ?_
          refine WP.iload_n rfl rfl ?_
          refine WP.imulE rfl o9 ?_
          refine WP.iload rfl rfl ?_
          refine WP.iaddE rfl o10 ?_
          refine WP.istore_n (L' := [(5, 153), (7, a1), (0, (100 * x3) + x4), (0, x3), (0, x4), (1053, (H_X3_multiplyAll a1 x3 x4 h) 153 0)]) rfl rfl ?_
          have e := kk [(1053, (H_X3_multiplyAll a1 x3 x4 h) 153 0)]; simp only [s_X3_likeliest_4, s_X3_likeliest_3, if_neg (c8)] at e ⊢; exact e
      refine k7 _ (fun us12 => ?_)
      refine WP.iincE (L' := [(5, 153), (7, a1), (0, s_X3_likeliest_4 a1 x3 x2 x4 h), (0, x3), (0, x4 + 1), us12.getD 0 pU]) rfl rfl o14 rfl ?_
      refine WP.goto rfl ?_
      exact kk [us12.getD 0 pU] (s_X3_likeliest_4 a1 x3 x2 x4 h, x4 + 1, s_X3_likeliest_3 a1 x3 x4 h) (rfl)
  · intro hP hc
    generalize hs : (L_X3_likeliest_13 a1 x3 x2 x4 h : Int × Int × pH) = s at kk
    change P_X3_likeliest_13 a1 x3 (L_X3_likeliest_13 a1 x3 x2 x4 h).1 (L_X3_likeliest_13 a1 x3 x2 x4 h).2.1 (L_X3_likeliest_13 a1 x3 x2 x4 h).2.2 at hP
    change ¬ C_X3_likeliest_13 a1 x3 (L_X3_likeliest_13 a1 x3 x2 x4 h).1 (L_X3_likeliest_13 a1 x3 x2 x4 h).2.1 (L_X3_likeliest_13 a1 x3 x2 x4 h).2.2 at hc
    intro us
    show WP 14 (13, [(5, 153), (7, a1), (0, (L_X3_likeliest_13 a1 x3 x2 x4 h).1), (0, x3), (0, (L_X3_likeliest_13 a1 x3 x2 x4 h).2.1), us.getD 0 pU], [], (L_X3_likeliest_13 a1 x3 x2 x4 h).2.2) Q
    rw [hs] at hP hc ⊢
    obtain ⟨x2, x4, h⟩ := s
    change P_X3_likeliest_13 a1 x3 x2 x4 h at hP
    change ¬ (x4 ≤ 9) at hc
    unfold P_X3_likeliest_13 at hP
    show WP 14 (13, [(5, 153), (7, a1), (0, x2), (0, x3), (0, x4), us.getD 0 pU], [], h) Q
    refine WP.iload rfl rfl ?_
    refine WP.bipush rfl ?_
    refine WP.ni_gt rfl (fun c3 => ?_) (fun c3 => ?_)
    · exact kk [us.getD 0 pU]
    · exact absurd (show x4 ≤ 9 from c3) hc
noncomputable def s_X3_likeliest_5 (a1 : Int) (x2 : Int) (x3 : Int) (h : pH) : Int := (L_X3_likeliest_13 a1 x3 x2 0 h).1
noncomputable def s_X3_likeliest_6 (a1 : Int) (x2 : Int) (x3 : Int) (h : pH) : Int := (L_X3_likeliest_13 a1 x3 x2 0 h).2.1
noncomputable def s_X3_likeliest_7 (a1 : Int) (x2 : Int) (x3 : Int) (h : pH) : pH := (L_X3_likeliest_13 a1 x3 x2 0 h).2.2
def C_X3_likeliest_8 (a1 : Int) (x2 : Int) (x3 : Int) (h : pH) : Prop := x3 ≤ 20
noncomputable def B_X3_likeliest_8 (a1 : Int) (x2 : Int) (x3 : Int) (h : pH) : Int × Int × pH := (s_X3_likeliest_5 a1 x2 x3 h, x3 + 1, s_X3_likeliest_7 a1 x2 x3 h)
noncomputable def P_X3_likeliest_8 (a1 : Int) (x2 : Int) (x3 : Int) (h : pH) : Prop := ((x3 ≤ 20) → O_X3_likeliest_13 a1 x3 x2 0 h ∧ (fx_i (x3 + 1)))
noncomputable def L_X3_likeliest_8 (a1 : Int) (x2 : Int) (x3 : Int) (h : pH) : Int × Int × pH := fx_wh (σ := Int × Int × pH) (fun s => C_X3_likeliest_8 a1 s.1 s.2.1 s.2.2) (fun s => B_X3_likeliest_8 a1 s.1 s.2.1 s.2.2) (x2, x3, h)
def O_X3_likeliest_8 (a1 : Int) (x2 : Int) (x3 : Int) (h : pH) : Prop := fx_ok (σ := Int × Int × pH) (fun s => C_X3_likeliest_8 a1 s.1 s.2.1 s.2.2) (fun s => B_X3_likeliest_8 a1 s.1 s.2.1 s.2.2) (fun s => P_X3_likeliest_8 a1 s.1 s.2.1 s.2.2) (x2, x3, h)
set_option maxHeartbeats 4000000 in
theorem lp_X3_likeliest_8 (a1 : Int) (x2 : Int) (x3 : Int) (h : pH) {Q : Option pV → pH → Prop} (hp : O_X3_likeliest_8 a1 x2 x3 h) (kk : ∀ us : List pV, WP 14 (44, [(5, 153), (7, a1), (0, (L_X3_likeliest_8 a1 x2 x3 h).1), (0, (L_X3_likeliest_8 a1 x2 x3 h).2.1), us.getD 0 pU, us.getD 1 pU], [], (L_X3_likeliest_8 a1 x2 x3 h).2.2) Q) : ∀ us : List pV, WP 14 (8, [(5, 153), (7, a1), (0, x2), (0, x3), us.getD 0 pU, us.getD 1 pU], [], h) Q := by
  refine WP.wh (σ := Int × Int × pH) (fun s => C_X3_likeliest_8 a1 s.1 s.2.1 s.2.2) (fun s => B_X3_likeliest_8 a1 s.1 s.2.1 s.2.2) (fun s => P_X3_likeliest_8 a1 s.1 s.2.1 s.2.2) (fun s us => (8, [(5, 153), (7, a1), (0, s.1), (0, s.2.1), us.getD 0 pU, us.getD 1 pU], [], s.2.2)) (x2, x3, h) hp ?_ ?_
  · intro s us hP hc kk
    obtain ⟨x2, x3, h⟩ := s
    change P_X3_likeliest_8 a1 x2 x3 h at hP
    change x3 ≤ 20 at hc
    replace kk : ∀ (us' : List pV) (s' : Int × Int × pH), s' = B_X3_likeliest_8 a1 x2 x3 h → WP 14 (8, [(5, 153), (7, a1), (0, s'.1), (0, s'.2.1), us'.getD 0 pU, us'.getD 1 pU], [], s'.2.2) Q := fun us' s' e => by subst e; exact kk us'
    unfold P_X3_likeliest_8 at hP
    obtain ⟨o15, o17⟩ := hP hc
    show WP 14 (8, [(5, 153), (7, a1), (0, x2), (0, x3), us.getD 0 pU, us.getD 1 pU], [], h) Q
    refine WP.iload_n rfl rfl ?_
    refine WP.bipush rfl ?_
    refine WP.ni_gt rfl (fun c2 => ?_) (fun c2 => ?_)
    · exact absurd hc (Int.not_le.mpr c2)
    · refine WP.iconst rfl ?_
      refine WP.istore (L' := [(5, 153), (7, a1), (0, x2), (0, x3), (0, 0), us.getD 1 pU]) rfl rfl ?_
      refine lp_X3_likeliest_13 a1 x3 x2 0 h o15 (fun us16 => ?_) [us.getD 1 pU]
      show WP 14 (42, [(5, 153), (7, a1), (0, s_X3_likeliest_5 a1 x2 x3 h), (0, x3), (0, s_X3_likeliest_6 a1 x2 x3 h), us16.getD 0 pU], [], s_X3_likeliest_7 a1 x2 x3 h) Q
      refine WP.iincE (L' := [(5, 153), (7, a1), (0, s_X3_likeliest_5 a1 x2 x3 h), (0, x3 + 1), (0, s_X3_likeliest_6 a1 x2 x3 h), us16.getD 0 pU]) rfl rfl o17 rfl ?_
      refine WP.goto rfl ?_
      exact kk [(0, s_X3_likeliest_6 a1 x2 x3 h), us16.getD 0 pU] (s_X3_likeliest_5 a1 x2 x3 h, x3 + 1, s_X3_likeliest_7 a1 x2 x3 h) (rfl)
  · intro hP hc
    generalize hs : (L_X3_likeliest_8 a1 x2 x3 h : Int × Int × pH) = s at kk
    change P_X3_likeliest_8 a1 (L_X3_likeliest_8 a1 x2 x3 h).1 (L_X3_likeliest_8 a1 x2 x3 h).2.1 (L_X3_likeliest_8 a1 x2 x3 h).2.2 at hP
    change ¬ C_X3_likeliest_8 a1 (L_X3_likeliest_8 a1 x2 x3 h).1 (L_X3_likeliest_8 a1 x2 x3 h).2.1 (L_X3_likeliest_8 a1 x2 x3 h).2.2 at hc
    intro us
    show WP 14 (8, [(5, 153), (7, a1), (0, (L_X3_likeliest_8 a1 x2 x3 h).1), (0, (L_X3_likeliest_8 a1 x2 x3 h).2.1), us.getD 0 pU, us.getD 1 pU], [], (L_X3_likeliest_8 a1 x2 x3 h).2.2) Q
    rw [hs] at hP hc ⊢
    obtain ⟨x2, x3, h⟩ := s
    change P_X3_likeliest_8 a1 x2 x3 h at hP
    change ¬ (x3 ≤ 20) at hc
    unfold P_X3_likeliest_8 at hP
    show WP 14 (8, [(5, 153), (7, a1), (0, x2), (0, x3), us.getD 0 pU, us.getD 1 pU], [], h) Q
    refine WP.iload_n rfl rfl ?_
    refine WP.bipush rfl ?_
    refine WP.ni_gt rfl (fun c1 => ?_) (fun c1 => ?_)
    · exact kk [us.getD 0 pU, us.getD 1 pU]
    · exact absurd (show x3 ≤ 20 from c1) hc
noncomputable def s_X3_likeliest_8 (a1 : Int) (h : pH) : Int := (L_X3_likeliest_8 a1 (-1) 1 (fx_fill h (h 153 0) 13 0)).1
noncomputable def s_X3_likeliest_9 (a1 : Int) (h : pH) : Int := (L_X3_likeliest_8 a1 (-1) 1 (fx_fill h (h 153 0) 13 0)).2.1
noncomputable def s_X3_likeliest_10 (a1 : Int) (h : pH) : pH := (L_X3_likeliest_8 a1 (-1) 1 (fx_fill h (h 153 0) 13 0)).2.2
noncomputable def F_X3_likeliest (a1 : Int) (h : pH) : Int := s_X3_likeliest_8 a1 h
noncomputable def H_X3_likeliest (a1 : Int) (h : pH) : pH := s_X3_likeliest_10 a1 h
noncomputable def P_X3_likeliest (a1 : Int) (h : pH) : Prop := (O_X3_likeliest_8 a1 (-1) 1 (fx_fill h (h 153 0) 13 0))
set_option maxHeartbeats 4000000 in
theorem w_X3_likeliest (a1 : Int) (h : pH) {Q : Option pV → pH → Prop} (hp : P_X3_likeliest a1 h) (kk : Q (some (0, F_X3_likeliest a1 h)) (H_X3_likeliest a1 h)) : WP 14 (0, [(5, 153), (7, a1), pU, pU, pU, pU], [], h) Q := by
  unfold P_X3_likeliest at hp
  have o18 := hp
  refine WP.iconst rfl ?_
  refine WP.istore_n (L' := [(5, 153), (7, a1), (0, (-1)), pU, pU, pU]) rfl rfl ?_
  refine WP.aload_n rfl rfl ⟨by decide, by decide⟩ ?_
  refine WP.getD rfl rfl ?_
  refine WP.lconst rfl ?_
  refine WP.callF (c_J7_fill_J 1053 (h 153 0) 0 _ ⟨by decide, by decide, by decide⟩ rfl (by decide)) rfl rfl (pm_cok rfl rfl (Or.inl rfl) rfl rfl) rfl rfl ?_
  show WP 14 (6, [(5, 153), (7, a1), (0, (-1)), pU, pU, pU], [], fx_fill h (h 153 0) 13 0) Q
  refine WP.iconst rfl ?_
  refine WP.istore_n (L' := [(5, 153), (7, a1), (0, (-1)), (0, 1), pU, pU]) rfl rfl ?_
  refine lp_X3_likeliest_8 a1 (-1) 1 (fx_fill h (h 153 0) 13 0) o18 (fun us19 => ?_) [pU, pU]
  show WP 14 (44, [(5, 153), (7, a1), (0, s_X3_likeliest_8 a1 h), (0, s_X3_likeliest_9 a1 h), us19.getD 0 pU, us19.getD 1 pU], [], s_X3_likeliest_10 a1 h) Q
  refine WP.iload_n rfl rfl ?_
  refine WP.reti rfl ?_; exact kk
theorem c_X3_likeliest (a1 : Int) (h : pH) (hp : P_X3_likeliest a1 h) : CP 14 [(5, 153), (7, a1)] h (fun r h1 => r = some (0, F_X3_likeliest a1 h) ∧ h1 = H_X3_likeliest a1 h) := w_X3_likeliest a1 h hp ⟨rfl, rfl⟩
noncomputable def s_X4_tellSpeed_1 (a0 : Int) (h : pH) : Int := F_X8_priceAt (a0 + 18) ((pm_upd h (a0 + 45) 0 (F_X0_greatestGauge (a0 + 1) h)) a0 7) (pm_upd h (a0 + 45) 0 (F_X0_greatestGauge (a0 + 1) h))
noncomputable def s_X4_tellSpeed_2 (a0 : Int) (h : pH) : pH := pm_upd (pm_upd h (a0 + 45) 0 (F_X0_greatestGauge (a0 + 1) h)) (a0 + 45) 1 (s_X4_tellSpeed_1 a0 h)
noncomputable def s_X4_tellSpeed_3 (a0 : Int) (h : pH) : pH := pm_upd (s_X4_tellSpeed_2 a0 h) (a0 + 45) 2 ((s_X4_tellSpeed_2 a0 h) (a0 + 18) 6)
noncomputable def s_X4_tellSpeed_4 (a0 : Int) (h : pH) : pH := pm_upd (s_X4_tellSpeed_3 a0 h) (a0 + 45) 3 (F_X10_countIn (a0 + 21) 1 (s_X4_tellSpeed_3 a0 h))
noncomputable def s_X4_tellSpeed_5 (a0 : Int) (h : pH) : pH := pm_upd (s_X4_tellSpeed_4 a0 h) (a0 + 45) 4 ((s_X4_tellSpeed_4 a0 h) a0 7)
noncomputable def s_X4_tellSpeed_6 (a0 : Int) (h : pH) : pH := pm_upd (s_X4_tellSpeed_5 a0 h) (a0 + 45) 5 (F_X6_countFailed (a0 + 7) (s_X4_tellSpeed_5 a0 h))
noncomputable def s_X4_tellSpeed_7 (a0 : Int) (h : pH) : pH := if (s_X4_tellSpeed_6 a0 h) (a0 + 37) 5 = (-1) then H_X9_value (a0 + 37) (a0 + 45) (s_X4_tellSpeed_6 a0 h) else s_X4_tellSpeed_6 a0 h
noncomputable def s_X4_tellSpeed_8 (a0 : Int) (h : pH) : Int := if (s_X4_tellSpeed_6 a0 h) (a0 + 37) 5 = (-1) then fx_max 0 (fx_min (F_X9_value (a0 + 37) (a0 + 45) (s_X4_tellSpeed_6 a0 h)) 3) else 3
noncomputable def H_X4_tellSpeed (a0 : Int) (h : pH) : pH := pm_upd (s_X4_tellSpeed_7 a0 h) a0 8 (s_X4_tellSpeed_8 a0 h)
noncomputable def P_X4_tellSpeed (a0 : Int) (h : pH) : Prop := (P_X0_greatestGauge (a0 + 1) h) ∧ (P_X8_priceAt (a0 + 18) ((pm_upd h (a0 + 45) 0 (F_X0_greatestGauge (a0 + 1) h)) a0 7) (pm_upd h (a0 + 45) 0 (F_X0_greatestGauge (a0 + 1) h))) ∧ (P_X10_countIn (a0 + 21) 1 (s_X4_tellSpeed_3 a0 h)) ∧ (P_X6_countFailed (a0 + 7) (s_X4_tellSpeed_5 a0 h)) ∧ ((((s_X4_tellSpeed_6 a0 h) (a0 + 37) 5 = (-1)) → ((P_X9_value (a0 + 37) (a0 + 45) (s_X4_tellSpeed_6 a0 h)) ∧ (fx_i (fx_max 0 (fx_min (F_X9_value (a0 + 37) (a0 + 45) (s_X4_tellSpeed_6 a0 h)) 3))))))
set_option maxHeartbeats 4000000 in
theorem w_X4_tellSpeed (a0 : Int) (h : pH) {Q : Option pV → pH → Prop} (hp : P_X4_tellSpeed a0 h) (kk : Q (none) (H_X4_tellSpeed a0 h)) : WP 21 (0, [(6, a0)], [], h) Q := by
  unfold P_X4_tellSpeed at hp
  obtain ⟨o1, o2, o3, o4, q11⟩ := hp
  refine WP.aload_n rfl rfl ⟨by decide, by decide⟩ ?_
  refine WP.getR rfl rfl ?_
  refine WP.iconst rfl ?_
  refine WP.aload_n rfl rfl ⟨by decide, by decide⟩ ?_
  refine WP.getR rfl rfl ?_
  refine WP.callF (c_X0_greatestGauge (a0 + 1) h o1) rfl rfl (pm_cok rfl rfl (Or.inr ⟨_, _, rfl⟩) rfl rfl) rfl rfl ?_
  show WP 21 (6, [(6, a0)], [(0, F_X0_greatestGauge (a0 + 1) h), (0, 0), (1025, a0 + 45)], h) Q
  refine WP.i2l rfl ?_
  refine WP.lastore rfl ⟨by decide, by decide, by decide⟩ (by decide) ?_
  refine WP.aload_n rfl rfl ⟨by decide, by decide⟩ ?_
  refine WP.getR rfl rfl ?_
  refine WP.iconst rfl ?_
  refine WP.aload_n rfl rfl ⟨by decide, by decide⟩ ?_
  refine WP.getR rfl rfl ?_
  refine WP.aload_n rfl rfl ⟨by decide, by decide⟩ ?_
  refine WP.getI rfl rfl ?_
  refine WP.callF (c_X8_priceAt (a0 + 18) ((pm_upd h (a0 + 45) 0 (F_X0_greatestGauge (a0 + 1) h)) a0 7) (pm_upd h (a0 + 45) 0 (F_X0_greatestGauge (a0 + 1) h)) o2) rfl rfl (pm_cok rfl rfl (Or.inr ⟨_, _, rfl⟩) rfl rfl) rfl rfl ?_
  show WP 21 (16, [(6, a0)], [(0, s_X4_tellSpeed_1 a0 h), (0, 1), (1025, a0 + 45)], pm_upd h (a0 + 45) 0 (F_X0_greatestGauge (a0 + 1) h)) Q
  refine WP.i2l rfl ?_
  refine WP.lastore rfl ⟨by decide, by decide, by decide⟩ (by decide) ?_
  show WP 21 (18, [(6, a0)], [], s_X4_tellSpeed_2 a0 h) Q
  refine WP.aload_n rfl rfl ⟨by decide, by decide⟩ ?_
  refine WP.getR rfl rfl ?_
  refine WP.iconst rfl ?_
  refine WP.aload_n rfl rfl ⟨by decide, by decide⟩ ?_
  refine WP.getR rfl rfl ?_
  refine WP.getI rfl rfl ?_
  refine WP.i2l rfl ?_
  refine WP.lastore rfl ⟨by decide, by decide, by decide⟩ (by decide) ?_
  show WP 21 (26, [(6, a0)], [], s_X4_tellSpeed_3 a0 h) Q
  refine WP.aload_n rfl rfl ⟨by decide, by decide⟩ ?_
  refine WP.getR rfl rfl ?_
  refine WP.iconst rfl ?_
  refine WP.aload_n rfl rfl ⟨by decide, by decide⟩ ?_
  refine WP.getR rfl rfl ?_
  refine WP.iconst rfl ?_
  refine WP.callF (c_X10_countIn (a0 + 21) 1 (s_X4_tellSpeed_3 a0 h) o3) rfl rfl (pm_cok rfl rfl (Or.inr ⟨_, _, rfl⟩) rfl rfl) rfl rfl ?_
  show WP 21 (33, [(6, a0)], [(0, F_X10_countIn (a0 + 21) 1 (s_X4_tellSpeed_3 a0 h)), (0, 3), (1025, a0 + 45)], s_X4_tellSpeed_3 a0 h) Q
  refine WP.i2l rfl ?_
  refine WP.lastore rfl ⟨by decide, by decide, by decide⟩ (by decide) ?_
  show WP 21 (35, [(6, a0)], [], s_X4_tellSpeed_4 a0 h) Q
  refine WP.aload_n rfl rfl ⟨by decide, by decide⟩ ?_
  refine WP.getR rfl rfl ?_
  refine WP.iconst rfl ?_
  refine WP.aload_n rfl rfl ⟨by decide, by decide⟩ ?_
  refine WP.getI rfl rfl ?_
  refine WP.i2l rfl ?_
  refine WP.lastore rfl ⟨by decide, by decide, by decide⟩ (by decide) ?_
  show WP 21 (42, [(6, a0)], [], s_X4_tellSpeed_5 a0 h) Q
  refine WP.aload_n rfl rfl ⟨by decide, by decide⟩ ?_
  refine WP.getR rfl rfl ?_
  refine WP.iconst rfl ?_
  refine WP.aload_n rfl rfl ⟨by decide, by decide⟩ ?_
  refine WP.getR rfl rfl ?_
  refine WP.callF (c_X6_countFailed (a0 + 7) (s_X4_tellSpeed_5 a0 h) o4) rfl rfl (pm_cok rfl rfl (Or.inr ⟨_, _, rfl⟩) rfl rfl) rfl rfl ?_
  show WP 21 (48, [(6, a0)], [(0, F_X6_countFailed (a0 + 7) (s_X4_tellSpeed_5 a0 h)), (0, 5), (1025, a0 + 45)], s_X4_tellSpeed_5 a0 h) Q
  refine WP.i2l rfl ?_
  refine WP.lastore rfl ⟨by decide, by decide, by decide⟩ (by decide) ?_
  show WP 21 (50, [(6, a0)], [], s_X4_tellSpeed_6 a0 h) Q
  refine WP.aload_n rfl rfl ⟨by decide, by decide⟩ ?_
  refine WP.aload_n rfl rfl ⟨by decide, by decide⟩ ?_
  refine WP.getR rfl rfl ?_
  refine WP.getI rfl rfl ?_
  refine WP.iconst rfl ?_
  have k5 : ∀ Q' : Option pV → pH → Prop, (WP 21 (68, [(6, a0)], [(0, s_X4_tellSpeed_8 a0 h), (6, a0)], s_X4_tellSpeed_7 a0 h) Q') → WP 21 (55, [(6, a0)], [(0, (-1)), (0, (s_X4_tellSpeed_6 a0 h) (a0 + 37) 5), (6, a0)], s_X4_tellSpeed_6 a0 h) Q' := fun Q' kk => by
    have q9 := q11
    refine WP.ni_ne rfl (fun c6 => ?_) (fun c6 => ?_)
    · refine WP.iconst rfl ?_
      have e := kk; simp only [s_X4_tellSpeed_8, s_X4_tellSpeed_7, if_neg (c6)] at e ⊢; exact e
    · obtain ⟨o7, o8⟩ := q9 c6
      refine WP.lconst rfl ?_
      refine WP.aload_n rfl rfl ⟨by decide, by decide⟩ ?_
      refine WP.getR rfl rfl ?_
      refine WP.aload_n rfl rfl ⟨by decide, by decide⟩ ?_
      refine WP.getR rfl rfl ?_
      refine WP.callF (c_X9_value (a0 + 37) (a0 + 45) (s_X4_tellSpeed_6 a0 h) o7) rfl rfl (pm_cok rfl rfl (Or.inr ⟨_, _, rfl⟩) rfl rfl) rfl rfl ?_
      show WP 21 (62, [(6, a0)], [(1, F_X9_value (a0 + 37) (a0 + 45) (s_X4_tellSpeed_6 a0 h)), (1, 0), (6, a0)], H_X9_value (a0 + 37) (a0 + 45) (s_X4_tellSpeed_6 a0 h)) Q'
      refine WP.ldc2_w rfl ?_
      refine WP.minJF rfl rfl ?_
      refine WP.maxJF rfl rfl ?_
      refine WP.l2iE rfl o8 ?_
      refine WP.goto rfl ?_
      have e := kk; simp only [s_X4_tellSpeed_8, s_X4_tellSpeed_7, if_pos c6] at e ⊢; exact e
  refine k5 _ ?_
  refine WP.putI rfl rfl ?_
  refine WP.retv rfl ?_; exact kk
theorem c_X4_tellSpeed (a0 : Int) (h : pH) (hp : P_X4_tellSpeed a0 h) : CP 21 [(6, a0)] h (fun r h1 => r = none ∧ h1 = H_X4_tellSpeed a0 h) := w_X4_tellSpeed a0 h hp ⟨rfl, rfl⟩
noncomputable def s_X4_placeWorks_1 (a0 : Int) (x1 : Int) (h : pH) : pH := if h (a0 + 32) (h (a0 + 36) x1) = 1 then H_X4_placeWork a0 (h (a0 + 36) x1) h else h
def C_X4_placeWorks_8 (a0 : Int) (x1 : Int) (h : pH) : Prop := x1 < h (a0 + 21) 15
noncomputable def B_X4_placeWorks_8 (a0 : Int) (x1 : Int) (h : pH) : Int × pH := (x1 + 1, s_X4_placeWorks_1 a0 x1 h)
noncomputable def P_X4_placeWorks_8 (a0 : Int) (x1 : Int) (h : pH) : Prop := ((x1 < h (a0 + 21) 15) → (0 ≤ x1 ∧ x1 < 16) ∧ (0 ≤ h (a0 + 36) x1 ∧ h (a0 + 36) x1 < 16) ∧ (((h (a0 + 32) (h (a0 + 36) x1) = 1) → ((P_X4_placeWork a0 (h (a0 + 36) x1) h)))) ∧ (fx_i (x1 + 1)))
noncomputable def L_X4_placeWorks_8 (a0 : Int) (x1 : Int) (h : pH) : Int × pH := fx_wh (σ := Int × pH) (fun s => C_X4_placeWorks_8 a0 s.1 s.2) (fun s => B_X4_placeWorks_8 a0 s.1 s.2) (x1, h)
def O_X4_placeWorks_8 (a0 : Int) (x1 : Int) (h : pH) : Prop := fx_ok (σ := Int × pH) (fun s => C_X4_placeWorks_8 a0 s.1 s.2) (fun s => B_X4_placeWorks_8 a0 s.1 s.2) (fun s => P_X4_placeWorks_8 a0 s.1 s.2) (x1, h)
set_option maxHeartbeats 4000000 in
theorem lp_X4_placeWorks_8 (a0 : Int) (x1 : Int) (h : pH) {Q : Option pV → pH → Prop} (hp : O_X4_placeWorks_8 a0 x1 h) (kk : ∀ us : List pV, WP 23 (31, [(6, a0), (0, (L_X4_placeWorks_8 a0 x1 h).1), us.getD 0 pU], [], (L_X4_placeWorks_8 a0 x1 h).2) Q) : ∀ us : List pV, WP 23 (8, [(6, a0), (0, x1), us.getD 0 pU], [], h) Q := by
  refine WP.wh (σ := Int × pH) (fun s => C_X4_placeWorks_8 a0 s.1 s.2) (fun s => B_X4_placeWorks_8 a0 s.1 s.2) (fun s => P_X4_placeWorks_8 a0 s.1 s.2) (fun s us => (8, [(6, a0), (0, s.1), us.getD 0 pU], [], s.2)) (x1, h) hp ?_ ?_
  · intro s us hP hc kk
    obtain ⟨x1, h⟩ := s
    change P_X4_placeWorks_8 a0 x1 h at hP
    change x1 < h (a0 + 21) 15 at hc
    replace kk : ∀ (us' : List pV) (s' : Int × pH), s' = B_X4_placeWorks_8 a0 x1 h → WP 23 (8, [(6, a0), (0, s'.1), us'.getD 0 pU], [], s'.2) Q := fun us' s' e => by subst e; exact kk us'
    unfold P_X4_placeWorks_8 at hP
    obtain ⟨o3, o4, q10, o11⟩ := hP hc
    show WP 23 (8, [(6, a0), (0, x1), us.getD 0 pU], [], h) Q
    refine WP.iload_n rfl rfl ?_
    refine WP.aload_n rfl rfl ⟨by decide, by decide⟩ ?_
    refine WP.getR rfl rfl ?_
    refine WP.getI rfl rfl ?_
    refine WP.ni_ge rfl (fun c2 => ?_) (fun c2 => ?_)
    · exact absurd hc (Int.not_lt.mpr c2)
    · refine WP.aload_n rfl rfl ⟨by decide, by decide⟩ ?_
      refine WP.getR rfl rfl ?_
      refine WP.getRF (b := a0 + 36) rfl rfl (fx_ad rfl) ?_
      refine WP.iload_n rfl rfl ?_
      refine WP.iaload rfl ⟨by decide, by decide, by decide⟩ o3 ?_
      refine WP.istore_n (L' := [(6, a0), (0, x1), (0, h (a0 + 36) x1)]) rfl rfl ?_
      refine WP.aload_n rfl rfl ⟨by decide, by decide⟩ ?_
      refine WP.getR rfl rfl ?_
      refine WP.getRF (b := a0 + 32) rfl rfl (fx_ad rfl) ?_
      refine WP.iload_n rfl rfl ?_
      refine WP.iaload rfl ⟨by decide, by decide, by decide⟩ o4 ?_
      refine WP.iconst rfl ?_
      have k5 : ∀ Q' : Option pV → pH → Prop, (WP 23 (29, [(6, a0), (0, x1), (0, h (a0 + 36) x1)], [], s_X4_placeWorks_1 a0 x1 h) Q') → WP 23 (25, [(6, a0), (0, x1), (0, h (a0 + 36) x1)], [(0, 1), (0, h (a0 + 32) (h (a0 + 36) x1))], h) Q' := fun Q' kk => by
        have q8 := q10
        refine WP.ni_ne rfl (fun c6 => ?_) (fun c6 => ?_)
        · have e := kk; simp only [s_X4_placeWorks_1, if_neg (c6)] at e ⊢; exact e
        · have o7 := q8 c6
          refine WP.aload_n rfl rfl ⟨by decide, by decide⟩ ?_
          refine WP.iload_n rfl rfl ?_
          refine WP.callF (c_X4_placeWork a0 (h (a0 + 36) x1) h o7) rfl rfl (pm_cok rfl rfl (Or.inr ⟨_, _, rfl⟩) rfl rfl) rfl rfl ?_
          show WP 23 (29, [(6, a0), (0, x1), (0, h (a0 + 36) x1)], [], H_X4_placeWork a0 (h (a0 + 36) x1) h) Q'
          have e := kk; simp only [s_X4_placeWorks_1, if_pos c6] at e ⊢; exact e
      refine k5 _ ?_
      refine WP.iincE (L' := [(6, a0), (0, x1 + 1), (0, h (a0 + 36) x1)]) rfl rfl o11 rfl ?_
      refine WP.goto rfl ?_
      exact kk [(0, h (a0 + 36) x1)] (x1 + 1, s_X4_placeWorks_1 a0 x1 h) (rfl)
  · intro hP hc
    generalize hs : (L_X4_placeWorks_8 a0 x1 h : Int × pH) = s at kk
    change P_X4_placeWorks_8 a0 (L_X4_placeWorks_8 a0 x1 h).1 (L_X4_placeWorks_8 a0 x1 h).2 at hP
    change ¬ C_X4_placeWorks_8 a0 (L_X4_placeWorks_8 a0 x1 h).1 (L_X4_placeWorks_8 a0 x1 h).2 at hc
    intro us
    show WP 23 (8, [(6, a0), (0, (L_X4_placeWorks_8 a0 x1 h).1), us.getD 0 pU], [], (L_X4_placeWorks_8 a0 x1 h).2) Q
    rw [hs] at hP hc ⊢
    obtain ⟨x1, h⟩ := s
    change P_X4_placeWorks_8 a0 x1 h at hP
    change ¬ (x1 < h (a0 + 21) 15) at hc
    unfold P_X4_placeWorks_8 at hP
    show WP 23 (8, [(6, a0), (0, x1), us.getD 0 pU], [], h) Q
    refine WP.iload_n rfl rfl ?_
    refine WP.aload_n rfl rfl ⟨by decide, by decide⟩ ?_
    refine WP.getR rfl rfl ?_
    refine WP.getI rfl rfl ?_
    refine WP.ni_ge rfl (fun c1 => ?_) (fun c1 => ?_)
    · exact kk [us.getD 0 pU]
    · exact absurd (show x1 < h (a0 + 21) 15 from c1) hc
noncomputable def s_X4_placeWorks_2 (a0 : Int) (h : pH) : Int := (L_X4_placeWorks_8 a0 0 (H_X10_clear (a0 + 21) (H_X6_clear (a0 + 7) h))).1
noncomputable def s_X4_placeWorks_3 (a0 : Int) (h : pH) : pH := (L_X4_placeWorks_8 a0 0 (H_X10_clear (a0 + 21) (H_X6_clear (a0 + 7) h))).2
noncomputable def H_X4_placeWorks (a0 : Int) (h : pH) : pH := s_X4_placeWorks_3 a0 h
noncomputable def P_X4_placeWorks (a0 : Int) (h : pH) : Prop := (O_X4_placeWorks_8 a0 0 (H_X10_clear (a0 + 21) (H_X6_clear (a0 + 7) h)))
set_option maxHeartbeats 4000000 in
theorem w_X4_placeWorks (a0 : Int) (h : pH) {Q : Option pV → pH → Prop} (hp : P_X4_placeWorks a0 h) (kk : Q (none) (H_X4_placeWorks a0 h)) : WP 23 (0, [(6, a0), pU, pU], [], h) Q := by
  unfold P_X4_placeWorks at hp
  have o12 := hp
  refine WP.aload_n rfl rfl ⟨by decide, by decide⟩ ?_
  refine WP.getR rfl rfl ?_
  refine WP.callF (c_X6_clear (a0 + 7) h) rfl rfl (pm_cok rfl rfl (Or.inr ⟨_, _, rfl⟩) rfl rfl) rfl rfl ?_
  show WP 23 (3, [(6, a0), pU, pU], [], H_X6_clear (a0 + 7) h) Q
  refine WP.aload_n rfl rfl ⟨by decide, by decide⟩ ?_
  refine WP.getR rfl rfl ?_
  refine WP.callF (c_X10_clear (a0 + 21) (H_X6_clear (a0 + 7) h)) rfl rfl (pm_cok rfl rfl (Or.inr ⟨_, _, rfl⟩) rfl rfl) rfl rfl ?_
  show WP 23 (6, [(6, a0), pU, pU], [], H_X10_clear (a0 + 21) (H_X6_clear (a0 + 7) h)) Q
  refine WP.iconst rfl ?_
  refine WP.istore_n (L' := [(6, a0), (0, 0), pU]) rfl rfl ?_
  refine lp_X4_placeWorks_8 a0 0 (H_X10_clear (a0 + 21) (H_X6_clear (a0 + 7) h)) o12 (fun us13 => ?_) [pU]
  show WP 23 (31, [(6, a0), (0, s_X4_placeWorks_2 a0 h), us13.getD 0 pU], [], s_X4_placeWorks_3 a0 h) Q
  refine WP.retv rfl ?_; exact kk
theorem c_X4_placeWorks (a0 : Int) (h : pH) (hp : P_X4_placeWorks a0 h) : CP 23 [(6, a0)] h (fun r h1 => r = none ∧ h1 = H_X4_placeWorks a0 h) := w_X4_placeWorks a0 h hp ⟨rfl, rfl⟩
noncomputable def s_X4_tripFeeds_1 (a0 : Int) (x1 : Int) (x3 : Int) (h : pH) : pH := if h (a0 + 12) x3 = x1 then if F_X6_drawOf (a0 + 7) x3 h ≤ 0 then h else H_X4_stop a0 x3 3 (pm_upd h (a0 + 13) x3 3) else h
noncomputable def s_X4_tripFeeds_2 (a0 : Int) (x1 : Int) (x2 : Int) (x3 : Int) (h : pH) : Int := if h (a0 + 12) x3 = x1 then if F_X6_drawOf (a0 + 7) x3 h ≤ 0 then x2 else x2 - (F_X6_drawOf (a0 + 7) x3 h) else x2
def C_X4_tripFeeds_16 (a0 : Int) (x1 : Int) (x2 : Int) (x3 : Int) (h : pH) : Prop := 0 ≤ x3 ∧ h (a0 + 19) x1 < x2
noncomputable def B_X4_tripFeeds_16 (a0 : Int) (x1 : Int) (x2 : Int) (x3 : Int) (h : pH) : Int × Int × pH := (s_X4_tripFeeds_2 a0 x1 x2 x3 h, x3 + (-1), s_X4_tripFeeds_1 a0 x1 x3 h)
noncomputable def P_X4_tripFeeds_16 (a0 : Int) (x1 : Int) (x2 : Int) (x3 : Int) (h : pH) : Prop := (((0 ≤ x3) → ((0 ≤ x1 ∧ x1 < 4)))) ∧ ((0 ≤ x3 ∧ h (a0 + 19) x1 < x2) → ((0 ≤ x1 ∧ x1 < 4) ∧ (P_X6_drawOf (a0 + 7) x3 h) ∧ (0 ≤ x3 ∧ x3 < 10) ∧ (((h (a0 + 12) x3 = x1) → (((0 < F_X6_drawOf (a0 + 7) x3 h) → ((fx_i (x2 - (F_X6_drawOf (a0 + 7) x3 h))) ∧ (P_X4_stop a0 x3 3 (pm_upd h (a0 + 13) x3 3))))))) ∧ (fx_i (x3 + (-1)))))
noncomputable def L_X4_tripFeeds_16 (a0 : Int) (x1 : Int) (x2 : Int) (x3 : Int) (h : pH) : Int × Int × pH := fx_wh (σ := Int × Int × pH) (fun s => C_X4_tripFeeds_16 a0 x1 s.1 s.2.1 s.2.2) (fun s => B_X4_tripFeeds_16 a0 x1 s.1 s.2.1 s.2.2) (x2, x3, h)
def O_X4_tripFeeds_16 (a0 : Int) (x1 : Int) (x2 : Int) (x3 : Int) (h : pH) : Prop := fx_ok (σ := Int × Int × pH) (fun s => C_X4_tripFeeds_16 a0 x1 s.1 s.2.1 s.2.2) (fun s => B_X4_tripFeeds_16 a0 x1 s.1 s.2.1 s.2.2) (fun s => P_X4_tripFeeds_16 a0 x1 s.1 s.2.1 s.2.2) (x2, x3, h)
set_option maxHeartbeats 4000000 in
theorem lp_X4_tripFeeds_16 (a0 : Int) (x1 : Int) (x2 : Int) (x3 : Int) (h : pH) {Q : Option pV → pH → Prop} (hp : O_X4_tripFeeds_16 a0 x1 x2 x3 h) (kk : ∀ us : List pV, WP 27 (55, [(6, a0), (0, x1), (0, (L_X4_tripFeeds_16 a0 x1 x2 x3 h).1), (0, (L_X4_tripFeeds_16 a0 x1 x2 x3 h).2.1), us.getD 0 pU], [], (L_X4_tripFeeds_16 a0 x1 x2 x3 h).2.2) Q) : ∀ us : List pV, WP 27 (16, [(6, a0), (0, x1), (0, x2), (0, x3), us.getD 0 pU], [], h) Q := by
  refine WP.wh (σ := Int × Int × pH) (fun s => C_X4_tripFeeds_16 a0 x1 s.1 s.2.1 s.2.2) (fun s => B_X4_tripFeeds_16 a0 x1 s.1 s.2.1 s.2.2) (fun s => P_X4_tripFeeds_16 a0 x1 s.1 s.2.1 s.2.2) (fun s us => (16, [(6, a0), (0, x1), (0, s.1), (0, s.2.1), us.getD 0 pU], [], s.2.2)) (x2, x3, h) hp ?_ ?_
  · intro s us hP hc kk
    obtain ⟨x2, x3, h⟩ := s
    change P_X4_tripFeeds_16 a0 x1 x2 x3 h at hP
    change 0 ≤ x3 ∧ h (a0 + 19) x1 < x2 at hc
    replace kk : ∀ (us' : List pV) (s' : Int × Int × pH), s' = B_X4_tripFeeds_16 a0 x1 x2 x3 h → WP 27 (16, [(6, a0), (0, x1), (0, s'.1), (0, s'.2.1), us'.getD 0 pU], [], s'.2.2) Q := fun us' s' e => by subst e; exact kk us'
    unfold P_X4_tripFeeds_16 at hP
    obtain ⟨hPc, hPb⟩ := hP
    have q8 := hPc
    obtain ⟨o10, o12, o13, q22, o23⟩ := hPb hc
    show WP 27 (16, [(6, a0), (0, x1), (0, x2), (0, x3), us.getD 0 pU], [], h) Q
    refine WP.iload_n rfl rfl ?_
    refine WP.nz_lt rfl (fun c9 => ?_) (fun c9 => ?_)
    · exact absurd hc (fun q => (Int.not_le.mpr c9) q.1)
    · refine WP.iload_n rfl rfl ?_
      refine WP.aload_n rfl rfl ⟨by decide, by decide⟩ ?_
      refine WP.getR rfl rfl ?_
      refine WP.getRF (b := a0 + 19) rfl rfl (fx_ad rfl) ?_
      refine WP.iload_n rfl rfl ?_
      refine WP.iaload rfl ⟨by decide, by decide, by decide⟩ o10 ?_
      refine WP.ni_le rfl (fun c11 => ?_) (fun c11 => ?_)
      · exact absurd hc (fun q => (Int.not_lt.mpr c11) q.2)
      · refine WP.aload_n rfl rfl ⟨by decide, by decide⟩ ?_
        refine WP.getR rfl rfl ?_
        refine WP.iload_n rfl rfl ?_
        refine WP.callF (c_X6_drawOf (a0 + 7) x3 h o12) rfl rfl (pm_cok rfl rfl (Or.inr ⟨_, _, rfl⟩) rfl rfl) rfl rfl ?_
        show WP 27 (29, [(6, a0), (0, x1), (0, x2), (0, x3), us.getD 0 pU], [(0, F_X6_drawOf (a0 + 7) x3 h)], h) Q
        refine WP.istore (L' := [(6, a0), (0, x1), (0, x2), (0, x3), (0, F_X6_drawOf (a0 + 7) x3 h)]) rfl rfl ?_
        refine WP.aload_n rfl rfl ⟨by decide, by decide⟩ ?_
        refine WP.getR rfl rfl ?_
        refine WP.getRF (b := a0 + 12) rfl rfl (fx_ad rfl) ?_
        refine WP.iload_n rfl rfl ?_
        refine WP.iaload rfl ⟨by decide, by decide, by decide⟩ o13 ?_
        refine WP.iload_n rfl rfl ?_
        have k14 : ∀ Q' : Option pV → pH → Prop, (WP 27 (53, [(6, a0), (0, x1), (0, s_X4_tripFeeds_2 a0 x1 x2 x3 h), (0, x3), (0, F_X6_drawOf (a0 + 7) x3 h)], [], s_X4_tripFeeds_1 a0 x1 x3 h) Q') → WP 27 (36, [(6, a0), (0, x1), (0, x2), (0, x3), (0, F_X6_drawOf (a0 + 7) x3 h)], [(0, x1), (0, h (a0 + 12) x3)], h) Q' := fun Q' kk => by
          have q20 := q22
          refine WP.ni_ne rfl (fun c15 => ?_) (fun c15 => ?_)
          · have e := kk; simp only [s_X4_tripFeeds_2, s_X4_tripFeeds_1, if_neg (c15)] at e ⊢; exact e
          · have q19 := q20 c15
            refine WP.iload rfl rfl ?_
            refine WP.nz_le rfl (fun c16 => ?_) (fun c16 => ?_)
            · have e := kk; simp only [s_X4_tripFeeds_2, s_X4_tripFeeds_1, if_pos c15, if_pos c16] at e ⊢; exact e
            · obtain ⟨o17, o18⟩ := q19 c16
              refine WP.iload_n rfl rfl ?_
              refine WP.iload rfl rfl ?_
              refine WP.isubE rfl o17 ?_
              refine WP.istore_n (L' := [(6, a0), (0, x1), (0, x2 - (F_X6_drawOf (a0 + 7) x3 h)), (0, x3), (0, F_X6_drawOf (a0 + 7) x3 h)]) rfl rfl ?_
              refine WP.aload_n rfl rfl ⟨by decide, by decide⟩ ?_
              refine WP.getR rfl rfl ?_
              refine WP.getRF (b := a0 + 13) rfl rfl (fx_ad rfl) ?_
              refine WP.iload_n rfl rfl ?_
              refine WP.iconst rfl ?_
              refine WP.iastore rfl ⟨by decide, by decide, by decide⟩ o13 ?_
              refine WP.aload_n rfl rfl ⟨by decide, by decide⟩ ?_
              refine WP.iload_n rfl rfl ?_
              refine WP.iconst rfl ?_
              refine WP.callF (c_X4_stop a0 x3 3 (pm_upd h (a0 + 13) x3 3) o18) rfl rfl (pm_cok rfl rfl (Or.inr ⟨_, _, rfl⟩) rfl rfl) rfl rfl ?_
              show WP 27 (53, [(6, a0), (0, x1), (0, x2 - (F_X6_drawOf (a0 + 7) x3 h)), (0, x3), (0, F_X6_drawOf (a0 + 7) x3 h)], [], H_X4_stop a0 x3 3 (pm_upd h (a0 + 13) x3 3)) Q'
              have e := kk; simp only [s_X4_tripFeeds_2, s_X4_tripFeeds_1, if_pos c15, if_neg (Int.not_le.mpr c16)] at e ⊢; exact e
        refine k14 _ ?_
        refine WP.iincE (L' := [(6, a0), (0, x1), (0, s_X4_tripFeeds_2 a0 x1 x2 x3 h), (0, x3 + (-1)), (0, F_X6_drawOf (a0 + 7) x3 h)]) rfl rfl o23 rfl ?_
        refine WP.goto rfl ?_
        exact kk [(0, F_X6_drawOf (a0 + 7) x3 h)] (s_X4_tripFeeds_2 a0 x1 x2 x3 h, x3 + (-1), s_X4_tripFeeds_1 a0 x1 x3 h) (rfl)
  · intro hP hc
    generalize hs : (L_X4_tripFeeds_16 a0 x1 x2 x3 h : Int × Int × pH) = s at kk
    change P_X4_tripFeeds_16 a0 x1 (L_X4_tripFeeds_16 a0 x1 x2 x3 h).1 (L_X4_tripFeeds_16 a0 x1 x2 x3 h).2.1 (L_X4_tripFeeds_16 a0 x1 x2 x3 h).2.2 at hP
    change ¬ C_X4_tripFeeds_16 a0 x1 (L_X4_tripFeeds_16 a0 x1 x2 x3 h).1 (L_X4_tripFeeds_16 a0 x1 x2 x3 h).2.1 (L_X4_tripFeeds_16 a0 x1 x2 x3 h).2.2 at hc
    intro us
    show WP 27 (16, [(6, a0), (0, x1), (0, (L_X4_tripFeeds_16 a0 x1 x2 x3 h).1), (0, (L_X4_tripFeeds_16 a0 x1 x2 x3 h).2.1), us.getD 0 pU], [], (L_X4_tripFeeds_16 a0 x1 x2 x3 h).2.2) Q
    rw [hs] at hP hc ⊢
    obtain ⟨x2, x3, h⟩ := s
    change P_X4_tripFeeds_16 a0 x1 x2 x3 h at hP
    change ¬ (0 ≤ x3 ∧ h (a0 + 19) x1 < x2) at hc
    unfold P_X4_tripFeeds_16 at hP
    have q8 := hP.1
    show WP 27 (16, [(6, a0), (0, x1), (0, x2), (0, x3), us.getD 0 pU], [], h) Q
    refine WP.iload_n rfl rfl ?_
    refine WP.nz_lt rfl (fun c5 => ?_) (fun c5 => ?_)
    · exact kk [us.getD 0 pU]
    · have o6 := q8 c5
      refine WP.iload_n rfl rfl ?_
      refine WP.aload_n rfl rfl ⟨by decide, by decide⟩ ?_
      refine WP.getR rfl rfl ?_
      refine WP.getRF (b := a0 + 19) rfl rfl (fx_ad rfl) ?_
      refine WP.iload_n rfl rfl ?_
      refine WP.iaload rfl ⟨by decide, by decide, by decide⟩ o6 ?_
      refine WP.ni_le rfl (fun c7 => ?_) (fun c7 => ?_)
      · exact kk [us.getD 0 pU]
      · exact absurd (show 0 ≤ x3 ∧ h (a0 + 19) x1 < x2 from ⟨c5, c7⟩) hc
noncomputable def s_X4_tripFeeds_3 (a0 : Int) (x1 : Int) (h : pH) : Int := (L_X4_tripFeeds_16 a0 x1 (F_X6_drawnFrom (a0 + 7) x1 h) ((h (a0 + 7) 10) - 1) h).1
noncomputable def s_X4_tripFeeds_4 (a0 : Int) (x1 : Int) (h : pH) : Int := (L_X4_tripFeeds_16 a0 x1 (F_X6_drawnFrom (a0 + 7) x1 h) ((h (a0 + 7) 10) - 1) h).2.1
noncomputable def s_X4_tripFeeds_5 (a0 : Int) (x1 : Int) (h : pH) : pH := (L_X4_tripFeeds_16 a0 x1 (F_X6_drawnFrom (a0 + 7) x1 h) ((h (a0 + 7) 10) - 1) h).2.2
def C_X4_tripFeeds_2 (a0 : Int) (x1 : Int) (h : pH) : Prop := x1 < 4
noncomputable def B_X4_tripFeeds_2 (a0 : Int) (x1 : Int) (h : pH) : Int × pH := (x1 + 1, s_X4_tripFeeds_5 a0 x1 h)
noncomputable def P_X4_tripFeeds_2 (a0 : Int) (x1 : Int) (h : pH) : Prop := ((x1 < 4) → (P_X6_drawnFrom (a0 + 7) x1 h) ∧ (fx_i ((h (a0 + 7) 10) - 1)) ∧ (O_X4_tripFeeds_16 a0 x1 (F_X6_drawnFrom (a0 + 7) x1 h) ((h (a0 + 7) 10) - 1) h) ∧ (fx_i (x1 + 1)))
noncomputable def L_X4_tripFeeds_2 (a0 : Int) (x1 : Int) (h : pH) : Int × pH := fx_wh (σ := Int × pH) (fun s => C_X4_tripFeeds_2 a0 s.1 s.2) (fun s => B_X4_tripFeeds_2 a0 s.1 s.2) (x1, h)
def O_X4_tripFeeds_2 (a0 : Int) (x1 : Int) (h : pH) : Prop := fx_ok (σ := Int × pH) (fun s => C_X4_tripFeeds_2 a0 s.1 s.2) (fun s => B_X4_tripFeeds_2 a0 s.1 s.2) (fun s => P_X4_tripFeeds_2 a0 s.1 s.2) (x1, h)
set_option maxHeartbeats 4000000 in
theorem lp_X4_tripFeeds_2 (a0 : Int) (x1 : Int) (h : pH) {Q : Option pV → pH → Prop} (hp : O_X4_tripFeeds_2 a0 x1 h) (kk : ∀ us : List pV, WP 27 (57, [(6, a0), (0, (L_X4_tripFeeds_2 a0 x1 h).1), us.getD 0 pU, us.getD 1 pU, us.getD 2 pU], [], (L_X4_tripFeeds_2 a0 x1 h).2) Q) : ∀ us : List pV, WP 27 (2, [(6, a0), (0, x1), us.getD 0 pU, us.getD 1 pU, us.getD 2 pU], [], h) Q := by
  refine WP.wh (σ := Int × pH) (fun s => C_X4_tripFeeds_2 a0 s.1 s.2) (fun s => B_X4_tripFeeds_2 a0 s.1 s.2) (fun s => P_X4_tripFeeds_2 a0 s.1 s.2) (fun s us => (2, [(6, a0), (0, s.1), us.getD 0 pU, us.getD 1 pU, us.getD 2 pU], [], s.2)) (x1, h) hp ?_ ?_
  · intro s us hP hc kk
    obtain ⟨x1, h⟩ := s
    change P_X4_tripFeeds_2 a0 x1 h at hP
    change x1 < 4 at hc
    replace kk : ∀ (us' : List pV) (s' : Int × pH), s' = B_X4_tripFeeds_2 a0 x1 h → WP 27 (2, [(6, a0), (0, s'.1), us'.getD 0 pU, us'.getD 1 pU, us'.getD 2 pU], [], s'.2) Q := fun us' s' e => by subst e; exact kk us'
    unfold P_X4_tripFeeds_2 at hP
    obtain ⟨o3, o4, o24, o26⟩ := hP hc
    show WP 27 (2, [(6, a0), (0, x1), us.getD 0 pU, us.getD 1 pU, us.getD 2 pU], [], h) Q
    refine WP.iload_n rfl rfl ?_
    refine WP.iconst rfl ?_
    refine WP.ni_ge rfl (fun c2 => ?_) (fun c2 => ?_)
    · exact absurd hc (Int.not_lt.mpr c2)
    · refine WP.aload_n rfl rfl ⟨by decide, by decide⟩ ?_
      refine WP.getR rfl rfl ?_
      refine WP.iload_n rfl rfl ?_
      refine WP.callF (c_X6_drawnFrom (a0 + 7) x1 h o3) rfl rfl (pm_cok rfl rfl (Or.inr ⟨_, _, rfl⟩) rfl rfl) rfl rfl ?_
      show WP 27 (9, [(6, a0), (0, x1), us.getD 0 pU, us.getD 1 pU, us.getD 2 pU], [(0, F_X6_drawnFrom (a0 + 7) x1 h)], h) Q
      refine WP.istore_n (L' := [(6, a0), (0, x1), (0, F_X6_drawnFrom (a0 + 7) x1 h), us.getD 1 pU, us.getD 2 pU]) rfl rfl ?_
      refine WP.aload_n rfl rfl ⟨by decide, by decide⟩ ?_
      refine WP.getR rfl rfl ?_
      refine WP.getI rfl rfl ?_
      refine WP.iconst rfl ?_
      refine WP.isubE rfl o4 ?_
      refine WP.istore_n (L' := [(6, a0), (0, x1), (0, F_X6_drawnFrom (a0 + 7) x1 h), (0, (h (a0 + 7) 10) - 1), us.getD 2 pU]) rfl rfl ?_
      refine lp_X4_tripFeeds_16 a0 x1 (F_X6_drawnFrom (a0 + 7) x1 h) ((h (a0 + 7) 10) - 1) h o24 (fun us25 => ?_) [us.getD 2 pU]
      show WP 27 (55, [(6, a0), (0, x1), (0, s_X4_tripFeeds_3 a0 x1 h), (0, s_X4_tripFeeds_4 a0 x1 h), us25.getD 0 pU], [], s_X4_tripFeeds_5 a0 x1 h) Q
      refine WP.iincE (L' := [(6, a0), (0, x1 + 1), (0, s_X4_tripFeeds_3 a0 x1 h), (0, s_X4_tripFeeds_4 a0 x1 h), us25.getD 0 pU]) rfl rfl o26 rfl ?_
      refine WP.goto rfl ?_
      exact kk [(0, s_X4_tripFeeds_3 a0 x1 h), (0, s_X4_tripFeeds_4 a0 x1 h), us25.getD 0 pU] (x1 + 1, s_X4_tripFeeds_5 a0 x1 h) (rfl)
  · intro hP hc
    generalize hs : (L_X4_tripFeeds_2 a0 x1 h : Int × pH) = s at kk
    change P_X4_tripFeeds_2 a0 (L_X4_tripFeeds_2 a0 x1 h).1 (L_X4_tripFeeds_2 a0 x1 h).2 at hP
    change ¬ C_X4_tripFeeds_2 a0 (L_X4_tripFeeds_2 a0 x1 h).1 (L_X4_tripFeeds_2 a0 x1 h).2 at hc
    intro us
    show WP 27 (2, [(6, a0), (0, (L_X4_tripFeeds_2 a0 x1 h).1), us.getD 0 pU, us.getD 1 pU, us.getD 2 pU], [], (L_X4_tripFeeds_2 a0 x1 h).2) Q
    rw [hs] at hP hc ⊢
    obtain ⟨x1, h⟩ := s
    change P_X4_tripFeeds_2 a0 x1 h at hP
    change ¬ (x1 < 4) at hc
    unfold P_X4_tripFeeds_2 at hP
    show WP 27 (2, [(6, a0), (0, x1), us.getD 0 pU, us.getD 1 pU, us.getD 2 pU], [], h) Q
    refine WP.iload_n rfl rfl ?_
    refine WP.iconst rfl ?_
    refine WP.ni_ge rfl (fun c1 => ?_) (fun c1 => ?_)
    · exact kk [us.getD 0 pU, us.getD 1 pU, us.getD 2 pU]
    · exact absurd (show x1 < 4 from c1) hc
noncomputable def H_X4_tripFeeds (a0 : Int) (h : pH) : pH := (L_X4_tripFeeds_2 a0 0 h).2
noncomputable def P_X4_tripFeeds (a0 : Int) (h : pH) : Prop := O_X4_tripFeeds_2 a0 0 h
set_option maxHeartbeats 4000000 in
theorem w_X4_tripFeeds (a0 : Int) (h : pH) {Q : Option pV → pH → Prop} (hp : P_X4_tripFeeds a0 h) (kk : Q (none) (H_X4_tripFeeds a0 h)) : WP 27 (0, [(6, a0), pU, pU, pU, pU], [], h) Q := by
  unfold P_X4_tripFeeds at hp
  have o27 := hp
  refine WP.iconst rfl ?_
  refine WP.istore_n (L' := [(6, a0), (0, 0), pU, pU, pU]) rfl rfl ?_
  refine lp_X4_tripFeeds_2 a0 0 h o27 (fun us28 => ?_) [pU, pU, pU]
  show WP 27 (57, [(6, a0), (0, (L_X4_tripFeeds_2 a0 0 h).1), us28.getD 0 pU, us28.getD 1 pU, us28.getD 2 pU], [], (L_X4_tripFeeds_2 a0 0 h).2) Q
  refine WP.retv rfl ?_; exact kk
theorem c_X4_tripFeeds (a0 : Int) (h : pH) (hp : P_X4_tripFeeds a0 h) : CP 27 [(6, a0)] h (fun r h1 => r = none ∧ h1 = H_X4_tripFeeds a0 h) := w_X4_tripFeeds a0 h hp ⟨rfl, rfl⟩
noncomputable def s_X4_shedWorks_1 (a0 : Int) (x3 : Int) (h : pH) : pH := if h (a0 + 35) (h (a0 + 36) x3) = (-1) then h else H_X4_stop a0 (h (a0 + 35) (h (a0 + 36) x3)) 4 h
noncomputable def s_X4_shedWorks_2 (a0 : Int) (x1 : Int) (x3 : Int) (h : pH) : Int := if h (a0 + 35) (h (a0 + 36) x3) = (-1) then x1 else x1 - (F_X6_drawOf (a0 + 7) (h (a0 + 35) (h (a0 + 36) x3)) h)
def C_X4_shedWorks_18 (a0 : Int) (y2 : Int) (x1 : Int) (x3 : Int) (h : pH) : Prop := 0 ≤ x3 ∧ y2 < x1
noncomputable def B_X4_shedWorks_18 (a0 : Int) (y2 : Int) (x1 : Int) (x3 : Int) (h : pH) : Int × Int × pH := (s_X4_shedWorks_2 a0 x1 x3 h, x3 + (-1), s_X4_shedWorks_1 a0 x3 h)
noncomputable def P_X4_shedWorks_18 (a0 : Int) (y2 : Int) (x1 : Int) (x3 : Int) (h : pH) : Prop := ((0 ≤ x3 ∧ y2 < x1) → (0 ≤ x3 ∧ x3 < 16) ∧ (0 ≤ h (a0 + 36) x3 ∧ h (a0 + 36) x3 < 16) ∧ (((¬ h (a0 + 35) (h (a0 + 36) x3) = (-1)) → ((P_X6_drawOf (a0 + 7) (h (a0 + 35) (h (a0 + 36) x3)) h) ∧ (fx_i (x1 - (F_X6_drawOf (a0 + 7) (h (a0 + 35) (h (a0 + 36) x3)) h))) ∧ (P_X4_stop a0 (h (a0 + 35) (h (a0 + 36) x3)) 4 h)))) ∧ (fx_i (x3 + (-1))))
noncomputable def L_X4_shedWorks_18 (a0 : Int) (y2 : Int) (x1 : Int) (x3 : Int) (h : pH) : Int × Int × pH := fx_wh (σ := Int × Int × pH) (fun s => C_X4_shedWorks_18 a0 y2 s.1 s.2.1 s.2.2) (fun s => B_X4_shedWorks_18 a0 y2 s.1 s.2.1 s.2.2) (x1, x3, h)
def O_X4_shedWorks_18 (a0 : Int) (y2 : Int) (x1 : Int) (x3 : Int) (h : pH) : Prop := fx_ok (σ := Int × Int × pH) (fun s => C_X4_shedWorks_18 a0 y2 s.1 s.2.1 s.2.2) (fun s => B_X4_shedWorks_18 a0 y2 s.1 s.2.1 s.2.2) (fun s => P_X4_shedWorks_18 a0 y2 s.1 s.2.1 s.2.2) (x1, x3, h)
set_option maxHeartbeats 4000000 in
theorem lp_X4_shedWorks_18 (a0 : Int) (y2 : Int) (x1 : Int) (x3 : Int) (h : pH) {Q : Option pV → pH → Prop} (hp : O_X4_shedWorks_18 a0 y2 x1 x3 h) (kk : ∀ us : List pV, WP 28 (49, [(6, a0), (0, (L_X4_shedWorks_18 a0 y2 x1 x3 h).1), (0, y2), (0, (L_X4_shedWorks_18 a0 y2 x1 x3 h).2.1), us.getD 0 pU], [], (L_X4_shedWorks_18 a0 y2 x1 x3 h).2.2) Q) : ∀ us : List pV, WP 28 (18, [(6, a0), (0, x1), (0, y2), (0, x3), us.getD 0 pU], [], h) Q := by
  refine WP.wh (σ := Int × Int × pH) (fun s => C_X4_shedWorks_18 a0 y2 s.1 s.2.1 s.2.2) (fun s => B_X4_shedWorks_18 a0 y2 s.1 s.2.1 s.2.2) (fun s => P_X4_shedWorks_18 a0 y2 s.1 s.2.1 s.2.2) (fun s us => (18, [(6, a0), (0, s.1), (0, y2), (0, s.2.1), us.getD 0 pU], [], s.2.2)) (x1, x3, h) hp ?_ ?_
  · intro s us hP hc kk
    obtain ⟨x1, x3, h⟩ := s
    change P_X4_shedWorks_18 a0 y2 x1 x3 h at hP
    change 0 ≤ x3 ∧ y2 < x1 at hc
    replace kk : ∀ (us' : List pV) (s' : Int × Int × pH), s' = B_X4_shedWorks_18 a0 y2 x1 x3 h → WP 28 (18, [(6, a0), (0, s'.1), (0, y2), (0, s'.2.1), us'.getD 0 pU], [], s'.2.2) Q := fun us' s' e => by subst e; exact kk us'
    unfold P_X4_shedWorks_18 at hP
    obtain ⟨o8, o9, q17, o18⟩ := hP hc
    show WP 28 (18, [(6, a0), (0, x1), (0, y2), (0, x3), us.getD 0 pU], [], h) Q
    refine WP.iload_n rfl rfl ?_
    refine WP.nz_lt rfl (fun c6 => ?_) (fun c6 => ?_)
    · exact absurd hc (fun q => (Int.not_le.mpr c6) q.1)
    · refine WP.iload_n rfl rfl ?_
      refine WP.iload_n rfl rfl ?_
      refine WP.ni_le rfl (fun c7 => ?_) (fun c7 => ?_)
      · exact absurd hc (fun q => (Int.not_lt.mpr c7) q.2)
      · refine WP.aload_n rfl rfl ⟨by decide, by decide⟩ ?_
        refine WP.getR rfl rfl ?_
        refine WP.getRF (b := a0 + 35) rfl rfl (fx_ad rfl) ?_
        refine WP.aload_n rfl rfl ⟨by decide, by decide⟩ ?_
        refine WP.getR rfl rfl ?_
        refine WP.getRF (b := a0 + 36) rfl rfl (fx_ad rfl) ?_
        refine WP.iload_n rfl rfl ?_
        refine WP.iaload rfl ⟨by decide, by decide, by decide⟩ o8 ?_
        refine WP.iaload rfl ⟨by decide, by decide, by decide⟩ o9 ?_
        refine WP.istore (L' := [(6, a0), (0, x1), (0, y2), (0, x3), (0, h (a0 + 35) (h (a0 + 36) x3))]) rfl rfl ?_
        refine WP.iload rfl rfl ?_
        refine WP.iconst rfl ?_
        have k10 : ∀ Q' : Option pV → pH → Prop, (WP 28 (47, [(6, a0), (0, s_X4_shedWorks_2 a0 x1 x3 h), (0, y2), (0, x3), (0, h (a0 + 35) (h (a0 + 36) x3))], [], s_X4_shedWorks_1 a0 x3 h) Q') → WP 28 (35, [(6, a0), (0, x1), (0, y2), (0, x3), (0, h (a0 + 35) (h (a0 + 36) x3))], [(0, (-1)), (0, h (a0 + 35) (h (a0 + 36) x3))], h) Q' := fun Q' kk => by
          have q15 := q17
          refine WP.ni_eq rfl (fun c11 => ?_) (fun c11 => ?_)
          · have e := kk; simp only [s_X4_shedWorks_2, s_X4_shedWorks_1, if_pos c11] at e ⊢; exact e
          · obtain ⟨o12, o13, o14⟩ := q15 c11
            refine WP.iload_n rfl rfl ?_
            refine WP.aload_n rfl rfl ⟨by decide, by decide⟩ ?_
            refine WP.getR rfl rfl ?_
            refine WP.iload rfl rfl ?_
            refine WP.callF (c_X6_drawOf (a0 + 7) (h (a0 + 35) (h (a0 + 36) x3)) h o12) rfl rfl (pm_cok rfl rfl (Or.inr ⟨_, _, rfl⟩) rfl rfl) rfl rfl ?_
            show WP 28 (41, [(6, a0), (0, x1), (0, y2), (0, x3), (0, h (a0 + 35) (h (a0 + 36) x3))], [(0, F_X6_drawOf (a0 + 7) (h (a0 + 35) (h (a0 + 36) x3)) h), (0, x1)], h) Q'
            refine WP.isubE rfl o13 ?_
            refine WP.istore_n (L' := [(6, a0), (0, x1 - (F_X6_drawOf (a0 + 7) (h (a0 + 35) (h (a0 + 36) x3)) h)), (0, y2), (0, x3), (0, h (a0 + 35) (h (a0 + 36) x3))]) rfl rfl ?_
            refine WP.aload_n rfl rfl ⟨by decide, by decide⟩ ?_
            refine WP.iload rfl rfl ?_
            refine WP.iconst rfl ?_
            refine WP.callF (c_X4_stop a0 (h (a0 + 35) (h (a0 + 36) x3)) 4 h o14) rfl rfl (pm_cok rfl rfl (Or.inr ⟨_, _, rfl⟩) rfl rfl) rfl rfl ?_
            show WP 28 (47, [(6, a0), (0, x1 - (F_X6_drawOf (a0 + 7) (h (a0 + 35) (h (a0 + 36) x3)) h)), (0, y2), (0, x3), (0, h (a0 + 35) (h (a0 + 36) x3))], [], H_X4_stop a0 (h (a0 + 35) (h (a0 + 36) x3)) 4 h) Q'
            have e := kk; simp only [s_X4_shedWorks_2, s_X4_shedWorks_1, if_neg (c11)] at e ⊢; exact e
        refine k10 _ ?_
        refine WP.iincE (L' := [(6, a0), (0, s_X4_shedWorks_2 a0 x1 x3 h), (0, y2), (0, x3 + (-1)), (0, h (a0 + 35) (h (a0 + 36) x3))]) rfl rfl o18 rfl ?_
        refine WP.goto rfl ?_
        exact kk [(0, h (a0 + 35) (h (a0 + 36) x3))] (s_X4_shedWorks_2 a0 x1 x3 h, x3 + (-1), s_X4_shedWorks_1 a0 x3 h) (rfl)
  · intro hP hc
    generalize hs : (L_X4_shedWorks_18 a0 y2 x1 x3 h : Int × Int × pH) = s at kk
    change P_X4_shedWorks_18 a0 y2 (L_X4_shedWorks_18 a0 y2 x1 x3 h).1 (L_X4_shedWorks_18 a0 y2 x1 x3 h).2.1 (L_X4_shedWorks_18 a0 y2 x1 x3 h).2.2 at hP
    change ¬ C_X4_shedWorks_18 a0 y2 (L_X4_shedWorks_18 a0 y2 x1 x3 h).1 (L_X4_shedWorks_18 a0 y2 x1 x3 h).2.1 (L_X4_shedWorks_18 a0 y2 x1 x3 h).2.2 at hc
    intro us
    show WP 28 (18, [(6, a0), (0, (L_X4_shedWorks_18 a0 y2 x1 x3 h).1), (0, y2), (0, (L_X4_shedWorks_18 a0 y2 x1 x3 h).2.1), us.getD 0 pU], [], (L_X4_shedWorks_18 a0 y2 x1 x3 h).2.2) Q
    rw [hs] at hP hc ⊢
    obtain ⟨x1, x3, h⟩ := s
    change P_X4_shedWorks_18 a0 y2 x1 x3 h at hP
    change ¬ (0 ≤ x3 ∧ y2 < x1) at hc
    unfold P_X4_shedWorks_18 at hP
    show WP 28 (18, [(6, a0), (0, x1), (0, y2), (0, x3), us.getD 0 pU], [], h) Q
    refine WP.iload_n rfl rfl ?_
    refine WP.nz_lt rfl (fun c4 => ?_) (fun c4 => ?_)
    · exact kk [us.getD 0 pU]
    · refine WP.iload_n rfl rfl ?_
      refine WP.iload_n rfl rfl ?_
      refine WP.ni_le rfl (fun c5 => ?_) (fun c5 => ?_)
      · exact kk [us.getD 0 pU]
      · exact absurd (show 0 ≤ x3 ∧ y2 < x1 from ⟨c4, c5⟩) hc
noncomputable def s_X4_shedWorks_3 (a0 : Int) (h : pH) : Int := (L_X4_shedWorks_18 a0 ((h (a0 + 18) 2) + (fx_min (h (a0 + 18) 4) (h (a0 + 18) 6))) (F_X6_drawn (a0 + 7) h) ((h (a0 + 21) 15) - 1) h).1
noncomputable def s_X4_shedWorks_4 (a0 : Int) (h : pH) : Int := (L_X4_shedWorks_18 a0 ((h (a0 + 18) 2) + (fx_min (h (a0 + 18) 4) (h (a0 + 18) 6))) (F_X6_drawn (a0 + 7) h) ((h (a0 + 21) 15) - 1) h).2.1
noncomputable def s_X4_shedWorks_5 (a0 : Int) (h : pH) : pH := (L_X4_shedWorks_18 a0 ((h (a0 + 18) 2) + (fx_min (h (a0 + 18) 4) (h (a0 + 18) 6))) (F_X6_drawn (a0 + 7) h) ((h (a0 + 21) 15) - 1) h).2.2
noncomputable def s_X4_shedWorks_6 (a0 : Int) (h : pH) : pH := pm_upd (s_X4_shedWorks_5 a0 h) (a0 + 18) 7 (s_X4_shedWorks_3 a0 h)
noncomputable def H_X4_shedWorks (a0 : Int) (h : pH) : pH := s_X4_shedWorks_6 a0 h
noncomputable def P_X4_shedWorks (a0 : Int) (h : pH) : Prop := (P_X6_drawn (a0 + 7) h) ∧ (fx_i ((h (a0 + 18) 2) + (fx_min (h (a0 + 18) 4) (h (a0 + 18) 6)))) ∧ (fx_i ((h (a0 + 21) 15) - 1)) ∧ (O_X4_shedWorks_18 a0 ((h (a0 + 18) 2) + (fx_min (h (a0 + 18) 4) (h (a0 + 18) 6))) (F_X6_drawn (a0 + 7) h) ((h (a0 + 21) 15) - 1) h)
set_option maxHeartbeats 4000000 in
theorem w_X4_shedWorks (a0 : Int) (h : pH) {Q : Option pV → pH → Prop} (hp : P_X4_shedWorks a0 h) (kk : Q (none) (H_X4_shedWorks a0 h)) : WP 28 (0, [(6, a0), pU, pU, pU, pU], [], h) Q := by
  unfold P_X4_shedWorks at hp
  obtain ⟨o1, o2, o3, o19⟩ := hp
  refine WP.aload_n rfl rfl ⟨by decide, by decide⟩ ?_
  refine WP.getR rfl rfl ?_
  refine WP.callF (c_X6_drawn (a0 + 7) h o1) rfl rfl (pm_cok rfl rfl (Or.inr ⟨_, _, rfl⟩) rfl rfl) rfl rfl ?_
  show WP 28 (3, [(6, a0), pU, pU, pU, pU], [(0, F_X6_drawn (a0 + 7) h)], h) Q
  refine WP.istore_n (L' := [(6, a0), (0, F_X6_drawn (a0 + 7) h), pU, pU, pU]) rfl rfl ?_
  refine WP.aload_n rfl rfl ⟨by decide, by decide⟩ ?_
  refine WP.getR rfl rfl ?_
  refine WP.getI rfl rfl ?_
  refine WP.aload_n rfl rfl ⟨by decide, by decide⟩ ?_
  refine WP.getR rfl rfl ?_
  refine WP.callF (c_X8_canGive (a0 + 18) h) rfl rfl (pm_cok rfl rfl (Or.inr ⟨_, _, rfl⟩) rfl rfl) rfl rfl ?_
  show WP 28 (10, [(6, a0), (0, F_X6_drawn (a0 + 7) h), pU, pU, pU], [(0, fx_min (h (a0 + 18) 4) (h (a0 + 18) 6)), (0, h (a0 + 18) 2)], h) Q
  refine WP.iaddE rfl o2 ?_
  refine WP.istore_n (L' := [(6, a0), (0, F_X6_drawn (a0 + 7) h), (0, (h (a0 + 18) 2) + (fx_min (h (a0 + 18) 4) (h (a0 + 18) 6))), pU, pU]) rfl rfl ?_
  refine WP.aload_n rfl rfl ⟨by decide, by decide⟩ ?_
  refine WP.getR rfl rfl ?_
  refine WP.getI rfl rfl ?_
  refine WP.iconst rfl ?_
  refine WP.isubE rfl o3 ?_
  refine WP.istore_n (L' := [(6, a0), (0, F_X6_drawn (a0 + 7) h), (0, (h (a0 + 18) 2) + (fx_min (h (a0 + 18) 4) (h (a0 + 18) 6))), (0, (h (a0 + 21) 15) - 1), pU]) rfl rfl ?_
  refine lp_X4_shedWorks_18 a0 ((h (a0 + 18) 2) + (fx_min (h (a0 + 18) 4) (h (a0 + 18) 6))) (F_X6_drawn (a0 + 7) h) ((h (a0 + 21) 15) - 1) h o19 (fun us20 => ?_) [pU]
  show WP 28 (49, [(6, a0), (0, s_X4_shedWorks_3 a0 h), (0, (h (a0 + 18) 2) + (fx_min (h (a0 + 18) 4) (h (a0 + 18) 6))), (0, s_X4_shedWorks_4 a0 h), us20.getD 0 pU], [], s_X4_shedWorks_5 a0 h) Q
  refine WP.aload_n rfl rfl ⟨by decide, by decide⟩ ?_
  refine WP.getR rfl rfl ?_
  refine WP.iload_n rfl rfl ?_
  refine WP.putI rfl rfl ?_
  show WP 28 (53, [(6, a0), (0, s_X4_shedWorks_3 a0 h), (0, (h (a0 + 18) 2) + (fx_min (h (a0 + 18) 4) (h (a0 + 18) 6))), (0, s_X4_shedWorks_4 a0 h), us20.getD 0 pU], [], s_X4_shedWorks_6 a0 h) Q
  refine WP.retv rfl ?_; exact kk
theorem c_X4_shedWorks (a0 : Int) (h : pH) (hp : P_X4_shedWorks a0 h) : CP 28 [(6, a0)] h (fun r h1 => r = none ∧ h1 = H_X4_shedWorks a0 h) := w_X4_shedWorks a0 h hp ⟨rfl, rfl⟩
noncomputable def s_X4_failMachines_1 (a0 : Int) (x1 : Int) (h : pH) : pH := pm_upd (H_X5_draw (a0 + 42) (h (a0 + 2) (h (a0 + 8) x1)) h) (a0 + 14) x1 1
noncomputable def s_X4_failMachines_2 (a0 : Int) (x1 : Int) (h : pH) : pH := pm_upd (s_X4_failMachines_1 a0 x1 h) (a0 + 34) (h (a0 + 15) x1) 5
noncomputable def s_X4_failMachines_3 (a0 : Int) (x1 : Int) (h : pH) : pH := if h (a0 + 15) x1 = (-1) then h else if h (a0 + 16) x1 ≤ 0 then h else if F_X5_draw (a0 + 42) (h (a0 + 2) (h (a0 + 8) x1)) h = 0 then H_X5_draw (a0 + 42) (h (a0 + 2) (h (a0 + 8) x1)) h else s_X4_failMachines_2 a0 x1 h
def C_X4_failMachines_2 (a0 : Int) (x1 : Int) (h : pH) : Prop := x1 < h (a0 + 7) 10
noncomputable def B_X4_failMachines_2 (a0 : Int) (x1 : Int) (h : pH) : Int × pH := (x1 + 1, s_X4_failMachines_3 a0 x1 h)
noncomputable def P_X4_failMachines_2 (a0 : Int) (x1 : Int) (h : pH) : Prop := ((x1 < h (a0 + 7) 10) → (0 ≤ x1 ∧ x1 < 10) ∧ (((¬ h (a0 + 15) x1 = (-1)) → (((0 < h (a0 + 16) x1) → ((0 ≤ h (a0 + 8) x1 ∧ h (a0 + 8) x1 < 12) ∧ (P_X5_draw (a0 + 42) (h (a0 + 2) (h (a0 + 8) x1)) h) ∧ ((¬ F_X5_draw (a0 + 42) (h (a0 + 2) (h (a0 + 8) x1)) h = 0) → ((0 ≤ h (a0 + 15) x1 ∧ h (a0 + 15) x1 < 16)))))))) ∧ (fx_i (x1 + 1)))
noncomputable def L_X4_failMachines_2 (a0 : Int) (x1 : Int) (h : pH) : Int × pH := fx_wh (σ := Int × pH) (fun s => C_X4_failMachines_2 a0 s.1 s.2) (fun s => B_X4_failMachines_2 a0 s.1 s.2) (x1, h)
def O_X4_failMachines_2 (a0 : Int) (x1 : Int) (h : pH) : Prop := fx_ok (σ := Int × pH) (fun s => C_X4_failMachines_2 a0 s.1 s.2) (fun s => B_X4_failMachines_2 a0 s.1 s.2) (fun s => P_X4_failMachines_2 a0 s.1 s.2) (x1, h)
set_option maxHeartbeats 4000000 in
theorem lp_X4_failMachines_2 (a0 : Int) (x1 : Int) (h : pH) {Q : Option pV → pH → Prop} (hp : O_X4_failMachines_2 a0 x1 h) (kk : ∀ us : List pV, WP 29 (49, [(6, a0), (0, (L_X4_failMachines_2 a0 x1 h).1), us.getD 0 pU], [], (L_X4_failMachines_2 a0 x1 h).2) Q) : ∀ us : List pV, WP 29 (2, [(6, a0), (0, x1), us.getD 0 pU], [], h) Q := by
  refine WP.wh (σ := Int × pH) (fun s => C_X4_failMachines_2 a0 s.1 s.2) (fun s => B_X4_failMachines_2 a0 s.1 s.2) (fun s => P_X4_failMachines_2 a0 s.1 s.2) (fun s us => (2, [(6, a0), (0, s.1), us.getD 0 pU], [], s.2)) (x1, h) hp ?_ ?_
  · intro s us hP hc kk
    obtain ⟨x1, h⟩ := s
    change P_X4_failMachines_2 a0 x1 h at hP
    change x1 < h (a0 + 7) 10 at hc
    replace kk : ∀ (us' : List pV) (s' : Int × pH), s' = B_X4_failMachines_2 a0 x1 h → WP 29 (2, [(6, a0), (0, s'.1), us'.getD 0 pU], [], s'.2) Q := fun us' s' e => by subst e; exact kk us'
    unfold P_X4_failMachines_2 at hP
    obtain ⟨o3, q15, o16⟩ := hP hc
    show WP 29 (2, [(6, a0), (0, x1), us.getD 0 pU], [], h) Q
    refine WP.iload_n rfl rfl ?_
    refine WP.aload_n rfl rfl ⟨by decide, by decide⟩ ?_
    refine WP.getR rfl rfl ?_
    refine WP.getI rfl rfl ?_
    refine WP.ni_ge rfl (fun c2 => ?_) (fun c2 => ?_)
    · exact absurd hc (Int.not_lt.mpr c2)
    · refine WP.aload_n rfl rfl ⟨by decide, by decide⟩ ?_
      refine WP.getR rfl rfl ?_
      refine WP.getRF (b := a0 + 15) rfl rfl (fx_ad rfl) ?_
      refine WP.iload_n rfl rfl ?_
      refine WP.iaload rfl ⟨by decide, by decide, by decide⟩ o3 ?_
      refine WP.istore_n (L' := [(6, a0), (0, x1), (0, h (a0 + 15) x1)]) rfl rfl ?_
      refine WP.iload_n rfl rfl ?_
      refine WP.iconst rfl ?_
      have k4 : ∀ Q' : Option pV → pH → Prop, (WP 29 (47, [(6, a0), (0, x1), (0, h (a0 + 15) x1)], [], s_X4_failMachines_3 a0 x1 h) Q') → WP 29 (15, [(6, a0), (0, x1), (0, h (a0 + 15) x1)], [(0, (-1)), (0, h (a0 + 15) x1)], h) Q' := fun Q' kk => by
        have q13 := q15
        refine WP.ni_eq rfl (fun c5 => ?_) (fun c5 => ?_)
        · have e := kk; simp only [s_X4_failMachines_3, if_pos c5] at e ⊢; exact e
        · have q12 := q13 c5
          refine WP.aload_n rfl rfl ⟨by decide, by decide⟩ ?_
          refine WP.getR rfl rfl ?_
          refine WP.getRF (b := a0 + 16) rfl rfl (fx_ad rfl) ?_
          refine WP.iload_n rfl rfl ?_
          refine WP.iaload rfl ⟨by decide, by decide, by decide⟩ o3 ?_
          refine WP.nz_le rfl (fun c6 => ?_) (fun c6 => ?_)
          · have e := kk; simp only [s_X4_failMachines_3, if_neg (c5), if_pos c6] at e ⊢; exact e
          · obtain ⟨o7, o8, q11⟩ := q12 c6
            refine WP.aload_n rfl rfl ⟨by decide, by decide⟩ ?_
            refine WP.getR rfl rfl ?_
            refine WP.aload_n rfl rfl ⟨by decide, by decide⟩ ?_
            refine WP.getR rfl rfl ?_
            refine WP.getRF (b := a0 + 2) rfl rfl (fx_ad rfl) ?_
            refine WP.aload_n rfl rfl ⟨by decide, by decide⟩ ?_
            refine WP.getR rfl rfl ?_
            refine WP.getRF (b := a0 + 8) rfl rfl (fx_ad rfl) ?_
            refine WP.iload_n rfl rfl ?_
            refine WP.iaload rfl ⟨by decide, by decide, by decide⟩ o3 ?_
            refine WP.iaload rfl ⟨by decide, by decide, by decide⟩ o7 ?_
            refine WP.callF (c_X5_draw (a0 + 42) (h (a0 + 2) (h (a0 + 8) x1)) h o8) rfl rfl (pm_cok rfl rfl (Or.inr ⟨_, _, rfl⟩) rfl rfl) rfl rfl ?_
            show WP 29 (34, [(6, a0), (0, x1), (0, h (a0 + 15) x1)], [(0, F_X5_draw (a0 + 42) (h (a0 + 2) (h (a0 + 8) x1)) h)], H_X5_draw (a0 + 42) (h (a0 + 2) (h (a0 + 8) x1)) h) Q'
            refine WP.nz_eq rfl (fun c9 => ?_) (fun c9 => ?_)
            · have e := kk; simp only [s_X4_failMachines_3, if_neg (c5), if_neg (Int.not_le.mpr c6), if_pos c9] at e ⊢; exact e
            · have o10 := q11 c9
              refine WP.aload_n rfl rfl ⟨by decide, by decide⟩ ?_
              refine WP.getR rfl rfl ?_
              refine WP.getRF (b := a0 + 14) rfl rfl (fx_ad rfl) ?_
              refine WP.iload_n rfl rfl ?_
              refine WP.iconst rfl ?_
              refine WP.iastore rfl ⟨by decide, by decide, by decide⟩ o3 ?_
              show WP 29 (41, [(6, a0), (0, x1), (0, h (a0 + 15) x1)], [], s_X4_failMachines_1 a0 x1 h) Q'
              refine WP.aload_n rfl rfl ⟨by decide, by decide⟩ ?_
              refine WP.getR rfl rfl ?_
              refine WP.getRF (b := a0 + 34) rfl rfl (fx_ad rfl) ?_
              refine WP.iload_n rfl rfl ?_
              refine WP.iconst rfl ?_
              refine WP.iastore rfl ⟨by decide, by decide, by decide⟩ o10 ?_
              show WP 29 (47, [(6, a0), (0, x1), (0, h (a0 + 15) x1)], [], s_X4_failMachines_2 a0 x1 h) Q'
              have e := kk; simp only [s_X4_failMachines_3, if_neg (c5), if_neg (Int.not_le.mpr c6), if_neg (c9)] at e ⊢; exact e
      refine k4 _ ?_
      refine WP.iincE (L' := [(6, a0), (0, x1 + 1), (0, h (a0 + 15) x1)]) rfl rfl o16 rfl ?_
      refine WP.goto rfl ?_
      exact kk [(0, h (a0 + 15) x1)] (x1 + 1, s_X4_failMachines_3 a0 x1 h) (rfl)
  · intro hP hc
    generalize hs : (L_X4_failMachines_2 a0 x1 h : Int × pH) = s at kk
    change P_X4_failMachines_2 a0 (L_X4_failMachines_2 a0 x1 h).1 (L_X4_failMachines_2 a0 x1 h).2 at hP
    change ¬ C_X4_failMachines_2 a0 (L_X4_failMachines_2 a0 x1 h).1 (L_X4_failMachines_2 a0 x1 h).2 at hc
    intro us
    show WP 29 (2, [(6, a0), (0, (L_X4_failMachines_2 a0 x1 h).1), us.getD 0 pU], [], (L_X4_failMachines_2 a0 x1 h).2) Q
    rw [hs] at hP hc ⊢
    obtain ⟨x1, h⟩ := s
    change P_X4_failMachines_2 a0 x1 h at hP
    change ¬ (x1 < h (a0 + 7) 10) at hc
    unfold P_X4_failMachines_2 at hP
    show WP 29 (2, [(6, a0), (0, x1), us.getD 0 pU], [], h) Q
    refine WP.iload_n rfl rfl ?_
    refine WP.aload_n rfl rfl ⟨by decide, by decide⟩ ?_
    refine WP.getR rfl rfl ?_
    refine WP.getI rfl rfl ?_
    refine WP.ni_ge rfl (fun c1 => ?_) (fun c1 => ?_)
    · exact kk [us.getD 0 pU]
    · exact absurd (show x1 < h (a0 + 7) 10 from c1) hc
noncomputable def H_X4_failMachines (a0 : Int) (h : pH) : pH := (L_X4_failMachines_2 a0 0 h).2
noncomputable def P_X4_failMachines (a0 : Int) (h : pH) : Prop := O_X4_failMachines_2 a0 0 h
set_option maxHeartbeats 4000000 in
theorem w_X4_failMachines (a0 : Int) (h : pH) {Q : Option pV → pH → Prop} (hp : P_X4_failMachines a0 h) (kk : Q (none) (H_X4_failMachines a0 h)) : WP 29 (0, [(6, a0), pU, pU], [], h) Q := by
  unfold P_X4_failMachines at hp
  have o17 := hp
  refine WP.iconst rfl ?_
  refine WP.istore_n (L' := [(6, a0), (0, 0), pU]) rfl rfl ?_
  refine lp_X4_failMachines_2 a0 0 h o17 (fun us18 => ?_) [pU]
  show WP 29 (49, [(6, a0), (0, (L_X4_failMachines_2 a0 0 h).1), us18.getD 0 pU], [], (L_X4_failMachines_2 a0 0 h).2) Q
  refine WP.retv rfl ?_; exact kk
theorem c_X4_failMachines (a0 : Int) (h : pH) (hp : P_X4_failMachines a0 h) : CP 29 [(6, a0)] h (fun r h1 => r = none ∧ h1 = H_X4_failMachines a0 h) := w_X4_failMachines a0 h hp ⟨rfl, rfl⟩
noncomputable def s_X4_finishWorks_1 (a0 : Int) (x1 : Int) (h : pH) : Int := if h (a0 + 35) x1 = (-1) then 0 else h (a0 + 16) (h (a0 + 35) x1)
noncomputable def s_X4_finishWorks_2 (a0 : Int) (x1 : Int) (h : pH) : pH := if h (a0 + 32) x1 = 1 then H_X10_finish (a0 + 21) x1 (s_X4_finishWorks_1 a0 x1 h) h else h
def C_X4_finishWorks_2 (a0 : Int) (x1 : Int) (h : pH) : Prop := x1 < h (a0 + 21) 15
noncomputable def B_X4_finishWorks_2 (a0 : Int) (x1 : Int) (h : pH) : Int × pH := (x1 + 1, s_X4_finishWorks_2 a0 x1 h)
noncomputable def P_X4_finishWorks_2 (a0 : Int) (x1 : Int) (h : pH) : Prop := ((x1 < h (a0 + 21) 15) → (0 ≤ x1 ∧ x1 < 16) ∧ (((h (a0 + 32) x1 = 1) → ((((¬ h (a0 + 35) x1 = (-1)) → ((0 ≤ h (a0 + 35) x1 ∧ h (a0 + 35) x1 < 10)))) ∧ (P_X10_finish (a0 + 21) x1 (s_X4_finishWorks_1 a0 x1 h) h)))) ∧ (fx_i (x1 + 1)))
noncomputable def L_X4_finishWorks_2 (a0 : Int) (x1 : Int) (h : pH) : Int × pH := fx_wh (σ := Int × pH) (fun s => C_X4_finishWorks_2 a0 s.1 s.2) (fun s => B_X4_finishWorks_2 a0 s.1 s.2) (x1, h)
def O_X4_finishWorks_2 (a0 : Int) (x1 : Int) (h : pH) : Prop := fx_ok (σ := Int × pH) (fun s => C_X4_finishWorks_2 a0 s.1 s.2) (fun s => B_X4_finishWorks_2 a0 s.1 s.2) (fun s => P_X4_finishWorks_2 a0 s.1 s.2) (x1, h)
set_option maxHeartbeats 4000000 in
theorem lp_X4_finishWorks_2 (a0 : Int) (x1 : Int) (h : pH) {Q : Option pV → pH → Prop} (hp : O_X4_finishWorks_2 a0 x1 h) (kk : ∀ us : List pV, WP 30 (36, [(6, a0), (0, (L_X4_finishWorks_2 a0 x1 h).1), us.getD 0 pU], [], (L_X4_finishWorks_2 a0 x1 h).2) Q) : ∀ us : List pV, WP 30 (2, [(6, a0), (0, x1), us.getD 0 pU], [], h) Q := by
  refine WP.wh (σ := Int × pH) (fun s => C_X4_finishWorks_2 a0 s.1 s.2) (fun s => B_X4_finishWorks_2 a0 s.1 s.2) (fun s => P_X4_finishWorks_2 a0 s.1 s.2) (fun s us => (2, [(6, a0), (0, s.1), us.getD 0 pU], [], s.2)) (x1, h) hp ?_ ?_
  · intro s us hP hc kk
    obtain ⟨x1, h⟩ := s
    change P_X4_finishWorks_2 a0 x1 h at hP
    change x1 < h (a0 + 21) 15 at hc
    replace kk : ∀ (us' : List pV) (s' : Int × pH), s' = B_X4_finishWorks_2 a0 x1 h → WP 30 (2, [(6, a0), (0, s'.1), us'.getD 0 pU], [], s'.2) Q := fun us' s' e => by subst e; exact kk us'
    unfold P_X4_finishWorks_2 at hP
    obtain ⟨o3, q15, o16⟩ := hP hc
    show WP 30 (2, [(6, a0), (0, x1), us.getD 0 pU], [], h) Q
    refine WP.iload_n rfl rfl ?_
    refine WP.aload_n rfl rfl ⟨by decide, by decide⟩ ?_
    refine WP.getR rfl rfl ?_
    refine WP.getI rfl rfl ?_
    refine WP.ni_ge rfl (fun c2 => ?_) (fun c2 => ?_)
    · exact absurd hc (Int.not_lt.mpr c2)
    · refine WP.aload_n rfl rfl ⟨by decide, by decide⟩ ?_
      refine WP.getR rfl rfl ?_
      refine WP.getRF (b := a0 + 32) rfl rfl (fx_ad rfl) ?_
      refine WP.iload_n rfl rfl ?_
      refine WP.iaload rfl ⟨by decide, by decide, by decide⟩ o3 ?_
      refine WP.iconst rfl ?_
      have k4 : ∀ Q' : Option pV → pH → Prop, (∀ us14 : List pV, WP 30 (34, [(6, a0), (0, x1), us14.getD 0 pU], [], s_X4_finishWorks_2 a0 x1 h) Q') → WP 30 (13, [(6, a0), (0, x1), us.getD 0 pU], [(0, 1), (0, h (a0 + 32) x1)], h) Q' := fun Q' kk => by
        have q13 := q15
        refine WP.ni_ne rfl (fun c5 => ?_) (fun c5 => ?_)
        · have e := kk [us.getD 0 pU]; simp only [s_X4_finishWorks_2, if_neg (c5)] at e ⊢; exact e
        · obtain ⟨q11, o12⟩ := q13 c5
          refine WP.aload_n rfl rfl ⟨by decide, by decide⟩ ?_
          refine WP.getR rfl rfl ?_
          refine WP.getRF (b := a0 + 35) rfl rfl (fx_ad rfl) ?_
          refine WP.iload_n rfl rfl ?_
          refine WP.iaload rfl ⟨by decide, by decide, by decide⟩ o3 ?_
          refine WP.istore_n (L' := [(6, a0), (0, x1), (0, h (a0 + 35) x1)]) rfl rfl ?_
          refine WP.aload_n rfl rfl ⟨by decide, by decide⟩ ?_
          refine WP.getR rfl rfl ?_
          refine WP.iload_n rfl rfl ?_
          refine WP.iload_n rfl rfl ?_
          refine WP.iconst rfl ?_
          have k6 : ∀ Q' : Option pV → pH → Prop, (WP 30 (33, [(6, a0), (0, x1), (0, h (a0 + 35) x1)], [(0, s_X4_finishWorks_1 a0 x1 h), (0, x1), (12, a0 + 21)], h) Q') → WP 30 (25, [(6, a0), (0, x1), (0, h (a0 + 35) x1)], [(0, (-1)), (0, h (a0 + 35) x1), (0, x1), (12, a0 + 21)], h) Q' := fun Q' kk => by
            have q9 := q11
            refine WP.ni_ne rfl (fun c7 => ?_) (fun c7 => ?_)
            · have o8 := q9 c7
              refine WP.aload_n rfl rfl ⟨by decide, by decide⟩ ?_
              refine WP.getR rfl rfl ?_
              refine WP.getRF (b := a0 + 16) rfl rfl (fx_ad rfl) ?_
              refine WP.iload_n rfl rfl ?_
              refine WP.iaload rfl ⟨by decide, by decide, by decide⟩ o8 ?_
              have e := kk; simp only [s_X4_finishWorks_1, if_neg (c7)] at e ⊢; exact e
            · refine WP.iconst rfl ?_
              refine WP.goto rfl ?_
              have e := kk; simp only [s_X4_finishWorks_1, if_pos c7] at e ⊢; exact e
          refine k6 _ ?_
          refine WP.callF (c_X10_finish (a0 + 21) x1 (s_X4_finishWorks_1 a0 x1 h) h o12) rfl rfl (pm_cok rfl rfl (Or.inr ⟨_, _, rfl⟩) rfl rfl) rfl rfl ?_
          show WP 30 (34, [(6, a0), (0, x1), (0, h (a0 + 35) x1)], [], H_X10_finish (a0 + 21) x1 (s_X4_finishWorks_1 a0 x1 h) h) Q'
          have e := kk [(0, h (a0 + 35) x1)]; simp only [s_X4_finishWorks_2, if_pos c5] at e ⊢; exact e
      refine k4 _ (fun us14 => ?_)
      refine WP.iincE (L' := [(6, a0), (0, x1 + 1), us14.getD 0 pU]) rfl rfl o16 rfl ?_
      refine WP.goto rfl ?_
      exact kk [us14.getD 0 pU] (x1 + 1, s_X4_finishWorks_2 a0 x1 h) (rfl)
  · intro hP hc
    generalize hs : (L_X4_finishWorks_2 a0 x1 h : Int × pH) = s at kk
    change P_X4_finishWorks_2 a0 (L_X4_finishWorks_2 a0 x1 h).1 (L_X4_finishWorks_2 a0 x1 h).2 at hP
    change ¬ C_X4_finishWorks_2 a0 (L_X4_finishWorks_2 a0 x1 h).1 (L_X4_finishWorks_2 a0 x1 h).2 at hc
    intro us
    show WP 30 (2, [(6, a0), (0, (L_X4_finishWorks_2 a0 x1 h).1), us.getD 0 pU], [], (L_X4_finishWorks_2 a0 x1 h).2) Q
    rw [hs] at hP hc ⊢
    obtain ⟨x1, h⟩ := s
    change P_X4_finishWorks_2 a0 x1 h at hP
    change ¬ (x1 < h (a0 + 21) 15) at hc
    unfold P_X4_finishWorks_2 at hP
    show WP 30 (2, [(6, a0), (0, x1), us.getD 0 pU], [], h) Q
    refine WP.iload_n rfl rfl ?_
    refine WP.aload_n rfl rfl ⟨by decide, by decide⟩ ?_
    refine WP.getR rfl rfl ?_
    refine WP.getI rfl rfl ?_
    refine WP.ni_ge rfl (fun c1 => ?_) (fun c1 => ?_)
    · exact kk [us.getD 0 pU]
    · exact absurd (show x1 < h (a0 + 21) 15 from c1) hc
noncomputable def H_X4_finishWorks (a0 : Int) (h : pH) : pH := (L_X4_finishWorks_2 a0 0 h).2
noncomputable def P_X4_finishWorks (a0 : Int) (h : pH) : Prop := O_X4_finishWorks_2 a0 0 h
set_option maxHeartbeats 4000000 in
theorem w_X4_finishWorks (a0 : Int) (h : pH) {Q : Option pV → pH → Prop} (hp : P_X4_finishWorks a0 h) (kk : Q (none) (H_X4_finishWorks a0 h)) : WP 30 (0, [(6, a0), pU, pU], [], h) Q := by
  unfold P_X4_finishWorks at hp
  have o17 := hp
  refine WP.iconst rfl ?_
  refine WP.istore_n (L' := [(6, a0), (0, 0), pU]) rfl rfl ?_
  refine lp_X4_finishWorks_2 a0 0 h o17 (fun us18 => ?_) [pU]
  show WP 30 (36, [(6, a0), (0, (L_X4_finishWorks_2 a0 0 h).1), us18.getD 0 pU], [], (L_X4_finishWorks_2 a0 0 h).2) Q
  refine WP.retv rfl ?_; exact kk
theorem c_X4_finishWorks (a0 : Int) (h : pH) (hp : P_X4_finishWorks a0 h) : CP 30 [(6, a0)] h (fun r h1 => r = none ∧ h1 = H_X4_finishWorks a0 h) := w_X4_finishWorks a0 h hp ⟨rfl, rfl⟩
noncomputable def s_X4_makeOther_1 (a0 : Int) (a2 : Int) (h : pH) : pH := pm_upd h (a0 + 1) 5 (fx_max 0 (fx_min ((h (a0 + 1) 5) + a2) 500))
noncomputable def s_X4_makeOther_2 (a0 : Int) (a2 : Int) (h : pH) : pH := pm_upd h (a0 + 18) 2 (fx_max 0 (fx_min ((h (a0 + 18) 2) + a2) 100000))
noncomputable def s_X4_makeOther_3 (a0 : Int) (a2 : Int) (h : pH) : pH := pm_upd h (a0 + 1) 7 (fx_max 0 (fx_min ((h (a0 + 1) 7) + a2) 200))
noncomputable def s_X4_makeOther_4 (a0 : Int) (a2 : Int) (h : pH) : pH := pm_upd h (a0 + 18) 4 (fx_max 0 (fx_min ((h (a0 + 18) 4) + a2) 10000))
noncomputable def s_X4_makeOther_5 (a0 : Int) (a1 : Int) (a2 : Int) (h : pH) : pH := if a1 = 0 then s_X4_makeOther_1 a0 a2 h else if a1 = 1 then s_X4_makeOther_2 a0 a2 h else if a1 = 2 then s_X4_makeOther_3 a0 a2 h else if a1 = 3 then H_X0_moveAims (a0 + 1) a2 h else if a1 = 4 then s_X4_makeOther_4 a0 a2 h else H_X6_addLikeFirst (a0 + 7) a2 h
noncomputable def H_X4_makeOther (a0 : Int) (a1 : Int) (a2 : Int) (h : pH) : pH := s_X4_makeOther_5 a0 a1 a2 h
noncomputable def P_X4_makeOther (a0 : Int) (a1 : Int) (a2 : Int) (h : pH) : Prop := ((((a1 = 0) → ((fx_i ((h (a0 + 1) 5) + a2)))) ∧ ((¬ a1 = 0) → ((((a1 = 1) → ((fx_i ((h (a0 + 18) 2) + a2)))) ∧ ((¬ a1 = 1) → ((((a1 = 2) → ((fx_i ((h (a0 + 1) 7) + a2)))) ∧ ((¬ a1 = 2) → ((((a1 = 3) → ((P_X0_moveAims (a0 + 1) a2 h))) ∧ ((¬ a1 = 3) → ((((a1 = 4) → ((fx_i ((h (a0 + 18) 4) + a2)))) ∧ ((¬ a1 = 4) → ((P_X6_addLikeFirst (a0 + 7) a2 h)))))))))))))))))
set_option maxHeartbeats 4000000 in
theorem w_X4_makeOther (a0 : Int) (a1 : Int) (a2 : Int) (h : pH) {Q : Option pV → pH → Prop} (hp : P_X4_makeOther a0 a1 a2 h) (kk : Q (none) (H_X4_makeOther a0 a1 a2 h)) : WP 31 (0, [(6, a0), (0, a1), (0, a2)], [], h) Q := by
  unfold P_X4_makeOther at hp
  have q19 := hp
  refine WP.iload_n rfl rfl ?_
  have k1 : ∀ Q' : Option pV → pH → Prop, (WP 31 (55, [(6, a0), (0, a1), (0, a2)], [], s_X4_makeOther_5 a0 a1 a2 h) Q') → WP 31 (1, [(6, a0), (0, a1), (0, a2)], [(0, a1)], h) Q' := fun Q' kk => by
    have q17 := q19
    refine WP.ntsw rfl rfl ?_
    show WP 31 (fx_sw 0 [2, 13, 24, 35, 40] 51 a1, [(6, a0), (0, a1), (0, a2)], [], h) Q'
    refine WP.nsl rfl (fun (c2 : a1 = 0) => ?_) (fun (c2 : ¬ a1 = 0) => ?_)
    · have o3 := q17.1 c2
      show WP 31 (2, [(6, a0), (0, a1), (0, a2)], [], h) Q'
      refine WP.aload_n rfl rfl ⟨by decide, by decide⟩ ?_
      refine WP.getR rfl rfl ?_
      refine WP.aload_n rfl rfl ⟨by decide, by decide⟩ ?_
      refine WP.getR rfl rfl ?_
      refine WP.getI rfl rfl ?_
      refine WP.iload_n rfl rfl ?_
      refine WP.iaddE rfl o3 ?_
      refine WP.sipush rfl ?_
      refine WP.callF (c_X11_brought ((h (a0 + 1) 5) + a2) 500 h) rfl rfl (pm_cok rfl rfl (Or.inl rfl) rfl rfl) rfl rfl ?_
      show WP 31 (11, [(6, a0), (0, a1), (0, a2)], [(0, fx_max 0 (fx_min ((h (a0 + 1) 5) + a2) 500)), (2, a0 + 1)], h) Q'
      refine WP.putI rfl rfl ?_
      show WP 31 (12, [(6, a0), (0, a1), (0, a2)], [], s_X4_makeOther_1 a0 a2 h) Q'
      refine WP.goto rfl ?_
      have e := kk; simp only [s_X4_makeOther_5, if_pos c2] at e ⊢; exact e
    · have q16 := q17.2 c2
      refine WP.nsl rfl (fun (c4 : a1 = 1) => ?_) (fun (c4 : ¬ a1 = 1) => ?_)
      · have o5 := q16.1 c4
        show WP 31 (13, [(6, a0), (0, a1), (0, a2)], [], h) Q'
        refine WP.aload_n rfl rfl ⟨by decide, by decide⟩ ?_
        refine WP.getR rfl rfl ?_
        refine WP.aload_n rfl rfl ⟨by decide, by decide⟩ ?_
        refine WP.getR rfl rfl ?_
        refine WP.getI rfl rfl ?_
        refine WP.iload_n rfl rfl ?_
        refine WP.iaddE rfl o5 ?_
        refine WP.ldc_w rfl ?_
        refine WP.callF (c_X11_brought ((h (a0 + 18) 2) + a2) 100000 h) rfl rfl (pm_cok rfl rfl (Or.inl rfl) rfl rfl) rfl rfl ?_
        show WP 31 (22, [(6, a0), (0, a1), (0, a2)], [(0, fx_max 0 (fx_min ((h (a0 + 18) 2) + a2) 100000)), (10, a0 + 18)], h) Q'
        refine WP.putI rfl rfl ?_
        show WP 31 (23, [(6, a0), (0, a1), (0, a2)], [], s_X4_makeOther_2 a0 a2 h) Q'
        refine WP.goto rfl ?_
        have e := kk; simp only [s_X4_makeOther_5, if_neg (c2), if_pos c4] at e ⊢; exact e
      · have q15 := q16.2 c4
        refine WP.nsl rfl (fun (c6 : a1 = 2) => ?_) (fun (c6 : ¬ a1 = 2) => ?_)
        · have o7 := q15.1 c6
          show WP 31 (24, [(6, a0), (0, a1), (0, a2)], [], h) Q'
          refine WP.aload_n rfl rfl ⟨by decide, by decide⟩ ?_
          refine WP.getR rfl rfl ?_
          refine WP.aload_n rfl rfl ⟨by decide, by decide⟩ ?_
          refine WP.getR rfl rfl ?_
          refine WP.getI rfl rfl ?_
          refine WP.iload_n rfl rfl ?_
          refine WP.iaddE rfl o7 ?_
          refine WP.sipush rfl ?_
          refine WP.callF (c_X11_brought ((h (a0 + 1) 7) + a2) 200 h) rfl rfl (pm_cok rfl rfl (Or.inl rfl) rfl rfl) rfl rfl ?_
          show WP 31 (33, [(6, a0), (0, a1), (0, a2)], [(0, fx_max 0 (fx_min ((h (a0 + 1) 7) + a2) 200)), (2, a0 + 1)], h) Q'
          refine WP.putI rfl rfl ?_
          show WP 31 (34, [(6, a0), (0, a1), (0, a2)], [], s_X4_makeOther_3 a0 a2 h) Q'
          refine WP.goto rfl ?_
          have e := kk; simp only [s_X4_makeOther_5, if_neg (c2), if_neg (c4), if_pos c6] at e ⊢; exact e
        · have q14 := q15.2 c6
          refine WP.nsl rfl (fun (c8 : a1 = 3) => ?_) (fun (c8 : ¬ a1 = 3) => ?_)
          · have o9 := q14.1 c8
            show WP 31 (35, [(6, a0), (0, a1), (0, a2)], [], h) Q'
            refine WP.aload_n rfl rfl ⟨by decide, by decide⟩ ?_
            refine WP.getR rfl rfl ?_
            refine WP.iload_n rfl rfl ?_
            refine WP.callF (c_X0_moveAims (a0 + 1) a2 h o9) rfl rfl (pm_cok rfl rfl (Or.inr ⟨_, _, rfl⟩) rfl rfl) rfl rfl ?_
            show WP 31 (39, [(6, a0), (0, a1), (0, a2)], [], H_X0_moveAims (a0 + 1) a2 h) Q'
            refine WP.goto rfl ?_
            have e := kk; simp only [s_X4_makeOther_5, if_neg (c2), if_neg (c4), if_neg (c6), if_pos c8] at e ⊢; exact e
          · have q13 := q14.2 c8
            refine WP.nsl rfl (fun (c10 : a1 = 4) => ?_) (fun (c10 : ¬ a1 = 4) => ?_)
            · have o11 := q13.1 c10
              show WP 31 (40, [(6, a0), (0, a1), (0, a2)], [], h) Q'
              refine WP.aload_n rfl rfl ⟨by decide, by decide⟩ ?_
              refine WP.getR rfl rfl ?_
              refine WP.aload_n rfl rfl ⟨by decide, by decide⟩ ?_
              refine WP.getR rfl rfl ?_
              refine WP.getI rfl rfl ?_
              refine WP.iload_n rfl rfl ?_
              refine WP.iaddE rfl o11 ?_
              refine WP.sipush rfl ?_
              refine WP.callF (c_X11_brought ((h (a0 + 18) 4) + a2) 10000 h) rfl rfl (pm_cok rfl rfl (Or.inl rfl) rfl rfl) rfl rfl ?_
              show WP 31 (49, [(6, a0), (0, a1), (0, a2)], [(0, fx_max 0 (fx_min ((h (a0 + 18) 4) + a2) 10000)), (10, a0 + 18)], h) Q'
              refine WP.putI rfl rfl ?_
              show WP 31 (50, [(6, a0), (0, a1), (0, a2)], [], s_X4_makeOther_4 a0 a2 h) Q'
              refine WP.goto rfl ?_
              have e := kk; simp only [s_X4_makeOther_5, if_neg (c2), if_neg (c4), if_neg (c6), if_neg (c8), if_pos c10] at e ⊢; exact e
            · have o12 := q13.2 c10
              show WP 31 (51, [(6, a0), (0, a1), (0, a2)], [], h) Q'
              refine WP.aload_n rfl rfl ⟨by decide, by decide⟩ ?_
              refine WP.getR rfl rfl ?_
              refine WP.iload_n rfl rfl ?_
              refine WP.callF (c_X6_addLikeFirst (a0 + 7) a2 h o12) rfl rfl (pm_cok rfl rfl (Or.inr ⟨_, _, rfl⟩) rfl rfl) rfl rfl ?_
              show WP 31 (55, [(6, a0), (0, a1), (0, a2)], [], H_X6_addLikeFirst (a0 + 7) a2 h) Q'
              have e := kk; simp only [s_X4_makeOther_5, if_neg (c2), if_neg (c4), if_neg (c6), if_neg (c8), if_neg (c10)] at e ⊢; exact e
  refine k1 _ ?_
  refine WP.retv rfl ?_; exact kk
theorem c_X4_makeOther (a0 : Int) (a1 : Int) (a2 : Int) (h : pH) (hp : P_X4_makeOther a0 a1 a2 h) : CP 31 [(6, a0), (0, a1), (0, a2)] h (fun r h1 => r = none ∧ h1 = H_X4_makeOther a0 a1 a2 h) := w_X4_makeOther a0 a1 a2 h hp ⟨rfl, rfl⟩
noncomputable def B_X7_firstChoice_13 (a1 : Int) (a2 : Int) (a3 : Int) (h : pH) (x5 : Int) : Int × Int := if h 147 6 ≤ x5 then (1, x5) else if pm_and (pm_shr a2 x5) 1 = 1 ∧ (h 149 a1 = (-1) ∨ h 149 a1 = x5) then if (F_X7_bestFrom (a1 + 1) (pm_and a2 (pm_xor (pm_shl 1 x5) (-1))) h) + (1099511627776 - (h 151 x5)) = a3 then (2, x5) else (0, x5 + 1) else (0, x5 + 1)
noncomputable def P_X7_firstChoice_13 (a1 : Int) (a2 : Int) (a3 : Int) (h : pH) (x5 : Int) : Prop := ((x5 < h 147 6) → ((((pm_and (pm_shr a2 x5) 1 = 1) → ((0 ≤ a1 ∧ a1 < 8)))) ∧ (((pm_and (pm_shr a2 x5) 1 = 1 ∧ (h 149 a1 = (-1) ∨ h 149 a1 = x5)) → ((fx_i (a1 + 1)) ∧ (P_X7_bestFrom (a1 + 1) (pm_and a2 (pm_xor (pm_shl 1 x5) (-1))) h) ∧ P_X7_worth x5 h ∧ (fx_l ((F_X7_bestFrom (a1 + 1) (pm_and a2 (pm_xor (pm_shl 1 x5) (-1))) h) + (1099511627776 - (h 151 x5)))) ∧ ((¬ (F_X7_bestFrom (a1 + 1) (pm_and a2 (pm_xor (pm_shl 1 x5) (-1))) h) + (1099511627776 - (h 151 x5)) = a3) → ((fx_i (x5 + 1)))))) ∧ ((¬ (pm_and (pm_shr a2 x5) 1 = 1 ∧ (h 149 a1 = (-1) ∨ h 149 a1 = x5))) → ((fx_i (x5 + 1)))))))
noncomputable def L_X7_firstChoice_13 (a1 : Int) (a2 : Int) (a3 : Int) (h : pH) (x5 : Int) : Int × Int := fx_wh (σ := Int × Int) (fun s => s.1 = 0) (fun s => B_X7_firstChoice_13 a1 a2 a3 h s.2) (0, x5)
def O_X7_firstChoice_13 (a1 : Int) (a2 : Int) (a3 : Int) (h : pH) (x5 : Int) : Prop := fx_ok (σ := Int × Int) (fun s => s.1 = 0) (fun s => B_X7_firstChoice_13 a1 a2 a3 h s.2) (fun s => s.1 = 0 → P_X7_firstChoice_13 a1 a2 a3 h s.2) (0, x5)
set_option maxHeartbeats 4000000 in
theorem lp_X7_firstChoice_13 (a1 : Int) (a2 : Int) (a3 : Int) (h : pH) (x5 : Int) {Q : Option pV → pH → Prop} (hp : O_X7_firstChoice_13 a1 a2 a3 h x5) (kk : (L_X7_firstChoice_13 a1 a2 a3 h x5).1 = 1 → ∀ us : List pV, WP 50 (65, [(9, 147), (0, a1), (0, a2), (1, a3), pU, (0, (L_X7_firstChoice_13 a1 a2 a3 h x5).2), us.getD 0 pU], [], h) Q) (kk2 : ¬ (L_X7_firstChoice_13 a1 a2 a3 h x5).1 = 1 → ∀ us : List pV, WP 50 (61, [(9, 147), (0, a1), (0, a2), (1, a3), pU, (0, (L_X7_firstChoice_13 a1 a2 a3 h x5).2), us.getD 0 pU], [], h) Q) : ∀ us : List pV, WP 50 (13, [(9, 147), (0, a1), (0, a2), (1, a3), pU, (0, x5), us.getD 0 pU], [], h) Q := by
  refine WP.wh (σ := Int × Int) (fun s => s.1 = 0) (fun s => B_X7_firstChoice_13 a1 a2 a3 h s.2) (fun s => s.1 = 0 → P_X7_firstChoice_13 a1 a2 a3 h s.2) (fun s us => if s.1 = 0 then (13, [(9, 147), (0, a1), (0, a2), (1, a3), pU, (0, s.2), us.getD 0 pU], [], h) else if s.1 = 1 then (65, [(9, 147), (0, a1), (0, a2), (1, a3), pU, (0, s.2), us.getD 0 pU], [], h) else (61, [(9, 147), (0, a1), (0, a2), (1, a3), pU, (0, s.2), us.getD 0 pU], [], h)) (0, x5) hp ?_ ?_
  · intro s us hP hc kk
    obtain ⟨fl, x5⟩ := s
    change fl = 0 at hc
    subst hc
    replace hP := hP rfl
    change P_X7_firstChoice_13 a1 a2 a3 h x5 at hP
    replace kk : ∀ (us' : List pV) (s' : Int × Int), s' = B_X7_firstChoice_13 a1 a2 a3 h x5 → WP 50 ((fun s us => if s.1 = 0 then (13, [(9, 147), (0, a1), (0, a2), (1, a3), pU, (0, s.2), us.getD 0 pU], [], h) else if s.1 = 1 then (65, [(9, 147), (0, a1), (0, a2), (1, a3), pU, (0, s.2), us.getD 0 pU], [], h) else (61, [(9, 147), (0, a1), (0, a2), (1, a3), pU, (0, s.2), us.getD 0 pU], [], h)) s' us') Q := fun us' s' e => by subst e; exact kk us'
    unfold P_X7_firstChoice_13 at hP
    have q23 := hP
    show WP 50 (13, [(9, 147), (0, a1), (0, a2), (1, a3), pU, (0, x5), us.getD 0 pU], [], h) Q
    refine WP.iload rfl rfl ?_
    refine WP.aload_n rfl rfl ⟨by decide, by decide⟩ ?_
    refine WP.getI rfl rfl ?_
    refine WP.ni_ge rfl (fun c4 => ?_) (fun c4 => ?_)
    · exact kk [us.getD 0 pU] (1, x5) (by simp only [B_X7_firstChoice_13, if_pos c4])
    · obtain ⟨q12, q22⟩ := q23 c4
      refine WP.iload_n rfl rfl ?_
      refine WP.iload rfl rfl ?_
      refine WP.ishr rfl ?_
      refine WP.iconst rfl ?_
      refine WP.iand rfl ?_
      refine WP.iconst rfl ?_
      have k5 : ∀ Q' : Option pV → pH → Prop, (WP 50 (39, [(9, 147), (0, a1), (0, a2), (1, a3), pU, (0, x5), us.getD 0 pU], [(0, if pm_and (pm_shr a2 x5) 1 = 1 ∧ (h 149 a1 = (-1) ∨ h 149 a1 = x5) then 1 else 0)], h) Q') → WP 50 (23, [(9, 147), (0, a1), (0, a2), (1, a3), pU, (0, x5), us.getD 0 pU], [(0, 1), (0, pm_and (pm_shr a2 x5) 1)], h) Q' := fun Q' kk => by
        have q10 := q12
        refine WP.ni_ne rfl (fun c6 => ?_) (fun c6 => ?_)
        · refine WP.iconst rfl ?_
          have e := kk; simp only [if_neg (c6), if_neg (show ¬ (pm_and (pm_shr a2 x5) 1 = 1 ∧ (h 149 a1 = (-1) ∨ h 149 a1 = x5)) from fun q => (c6) q.1)] at e ⊢; exact e
        · have o7 := q10 c6
          refine WP.aload_n rfl rfl ⟨by decide, by decide⟩ ?_
          refine WP.getRF (b := 149) rfl rfl rfl ?_
          refine WP.iload_n rfl rfl ?_
          refine WP.iaload rfl ⟨by decide, by decide, by decide⟩ o7 ?_
          refine WP.iconst rfl ?_
          refine WP.ni_eq rfl (fun c8 => ?_) (fun c8 => ?_)
          · refine WP.iconst rfl ?_
            refine WP.goto rfl ?_
            have e := kk; simp only [if_pos c6, if_pos c8, if_pos (show pm_and (pm_shr a2 x5) 1 = 1 ∧ (h 149 a1 = (-1) ∨ h 149 a1 = x5) from ⟨c6, Or.inl c8⟩)] at e ⊢; exact e
          · refine WP.aload_n rfl rfl ⟨by decide, by decide⟩ ?_
            refine WP.getRF (b := 149) rfl rfl rfl ?_
            refine WP.iload_n rfl rfl ?_
            refine WP.iaload rfl ⟨by decide, by decide, by decide⟩ o7 ?_
            refine WP.iload rfl rfl ?_
            refine WP.ni_ne rfl (fun c9 => ?_) (fun c9 => ?_)
            · refine WP.iconst rfl ?_
              have e := kk; simp only [if_pos c6, if_neg (c8), if_neg (c9), if_neg (show ¬ (pm_and (pm_shr a2 x5) 1 = 1 ∧ (h 149 a1 = (-1) ∨ h 149 a1 = x5)) from fun q => (fun q => q.elim (c8) (c9)) q.2)] at e ⊢; exact e
            · refine WP.iconst rfl ?_
              refine WP.goto rfl ?_
              have e := kk; simp only [if_pos c6, if_neg (c8), if_pos c9, if_pos (show pm_and (pm_shr a2 x5) 1 = 1 ∧ (h 149 a1 = (-1) ∨ h 149 a1 = x5) from ⟨c6, Or.inr c9⟩)] at e ⊢; exact e
      refine k5 _ ?_
      refine WP.istore (L' := [(9, 147), (0, a1), (0, a2), (1, a3), pU, (0, x5), (0, if pm_and (pm_shr a2 x5) 1 = 1 ∧ (h 149 a1 = (-1) ∨ h 149 a1 = x5) then 1 else 0)]) rfl rfl ?_
      refine WP.iload rfl rfl ?_
      refine WP.nb_eq rfl (fun c13 => ?_) (fun c13 => ?_)
      · have o21 := q22.2 c13
        refine WP.iincE (L' := [(9, 147), (0, a1), (0, a2), (1, a3), pU, (0, x5 + 1), (0, if pm_and (pm_shr a2 x5) 1 = 1 ∧ (h 149 a1 = (-1) ∨ h 149 a1 = x5) then 1 else 0)]) rfl rfl o21 rfl ?_
        refine WP.goto rfl ?_
        exact kk [(0, if pm_and (pm_shr a2 x5) 1 = 1 ∧ (h 149 a1 = (-1) ∨ h 149 a1 = x5) then 1 else 0)] (0, x5 + 1) (by simp only [B_X7_firstChoice_13, if_neg (Int.not_le.mpr c4), if_neg (c13)])
      · obtain ⟨o14, o15, o16, o17, q20⟩ := q22.1 c13
        refine WP.aload_n rfl rfl ⟨by decide, by decide⟩ ?_
        refine WP.iload_n rfl rfl ?_
        refine WP.iconst rfl ?_
        refine WP.iaddE rfl o14 ?_
        refine WP.iload_n rfl rfl ?_
        refine WP.iconst rfl ?_
        refine WP.iload rfl rfl ?_
        refine WP.ishl rfl ?_
        refine WP.iconst rfl ?_
        refine WP.ixor rfl ?_
        refine WP.iand rfl ?_
        refine WP.callF (c_X7_bestFrom (a1 + 1) (pm_and a2 (pm_xor (pm_shl 1 x5) (-1))) h o15) rfl rfl (pm_cok rfl rfl (Or.inr ⟨_, _, rfl⟩) rfl rfl) rfl rfl ?_
        show WP 50 (54, [(9, 147), (0, a1), (0, a2), (1, a3), pU, (0, x5), (0, if pm_and (pm_shr a2 x5) 1 = 1 ∧ (h 149 a1 = (-1) ∨ h 149 a1 = x5) then 1 else 0)], [(1, F_X7_bestFrom (a1 + 1) (pm_and a2 (pm_xor (pm_shl 1 x5) (-1))) h)], h) Q
        refine WP.aload_n rfl rfl ⟨by decide, by decide⟩ ?_
        refine WP.iload rfl rfl ?_
        refine WP.callF (c_X7_worth x5 h o16) rfl rfl (pm_cok rfl rfl (Or.inr ⟨_, _, rfl⟩) rfl rfl) rfl rfl ?_
        show WP 50 (57, [(9, 147), (0, a1), (0, a2), (1, a3), pU, (0, x5), (0, if pm_and (pm_shr a2 x5) 1 = 1 ∧ (h 149 a1 = (-1) ∨ h 149 a1 = x5) then 1 else 0)], [(1, 1099511627776 - (h 151 x5)), (1, F_X7_bestFrom (a1 + 1) (pm_and a2 (pm_xor (pm_shl 1 x5) (-1))) h)], h) Q
        refine WP.laddE rfl o17 ?_
        refine WP.lload_n rfl rfl ?_
        refine WP.lcmp rfl ?_
        refine WP.nl_ne rfl (fun c18 => ?_) (fun c18 => ?_)
        · have o19 := q20 c18
          refine WP.iincE (L' := [(9, 147), (0, a1), (0, a2), (1, a3), pU, (0, x5 + 1), (0, if pm_and (pm_shr a2 x5) 1 = 1 ∧ (h 149 a1 = (-1) ∨ h 149 a1 = x5) then 1 else 0)]) rfl rfl o19 rfl ?_
          refine WP.goto rfl ?_
          exact kk [(0, if pm_and (pm_shr a2 x5) 1 = 1 ∧ (h 149 a1 = (-1) ∨ h 149 a1 = x5) then 1 else 0)] (0, x5 + 1) (by simp only [B_X7_firstChoice_13, if_neg (Int.not_le.mpr c4), if_pos c13, if_neg (c18)])
        · exact kk [(0, if pm_and (pm_shr a2 x5) 1 = 1 ∧ (h 149 a1 = (-1) ∨ h 149 a1 = x5) then 1 else 0)] (2, x5) (by simp only [B_X7_firstChoice_13, if_neg (Int.not_le.mpr c4), if_pos c13, if_pos c18])
  · intro hP hc
    intro us
    change ¬ (L_X7_firstChoice_13 a1 a2 a3 h x5).1 = 0 at hc
    show WP 50 (if (L_X7_firstChoice_13 a1 a2 a3 h x5).1 = 0 then (13, [(9, 147), (0, a1), (0, a2), (1, a3), pU, (0, (L_X7_firstChoice_13 a1 a2 a3 h x5).2), us.getD 0 pU], [], h) else if (L_X7_firstChoice_13 a1 a2 a3 h x5).1 = 1 then (65, [(9, 147), (0, a1), (0, a2), (1, a3), pU, (0, (L_X7_firstChoice_13 a1 a2 a3 h x5).2), us.getD 0 pU], [], h) else (61, [(9, 147), (0, a1), (0, a2), (1, a3), pU, (0, (L_X7_firstChoice_13 a1 a2 a3 h x5).2), us.getD 0 pU], [], h)) Q
    rw [if_neg hc]
    by_cases e : (L_X7_firstChoice_13 a1 a2 a3 h x5).1 = 1
    · rw [if_pos e]; exact kk e us
    · rw [if_neg e]; exact kk2 e us
noncomputable def s_X7_firstChoice_1 (a1 : Int) (a2 : Int) (a3 : Int) (h : pH) : Int := (L_X7_firstChoice_13 a1 a2 a3 h 0).2
noncomputable def s_X7_firstChoice_2 (a1 : Int) (a2 : Int) (a3 : Int) (h : pH) : Int := (L_X7_firstChoice_13 a1 a2 a3 h 0).1
noncomputable def F_X7_firstChoice (a1 : Int) (a2 : Int) (a3 : Int) (h : pH) : Int := if F_X7_bestFrom (a1 + 1) a2 h = a3 then (-1) else if s_X7_firstChoice_2 a1 a2 a3 h = 1 then (-1) else s_X7_firstChoice_1 a1 a2 a3 h
noncomputable def P_X7_firstChoice (a1 : Int) (a2 : Int) (a3 : Int) (h : pH) : Prop := (fx_i (a1 + 1)) ∧ (P_X7_bestFrom (a1 + 1) a2 h) ∧ ((¬ F_X7_bestFrom (a1 + 1) a2 h = a3) → O_X7_firstChoice_13 a1 a2 a3 h 0)
set_option maxHeartbeats 4000000 in
theorem w_X7_firstChoice (a1 : Int) (a2 : Int) (a3 : Int) (h : pH) {Q : Option pV → pH → Prop} (hp : P_X7_firstChoice a1 a2 a3 h) (kk : Q (some (0, F_X7_firstChoice a1 a2 a3 h)) (h)) : WP 50 (0, [(9, 147), (0, a1), (0, a2), (1, a3), pU, pU, pU], [], h) Q := by
  unfold P_X7_firstChoice at hp
  obtain ⟨o1, o2, q27⟩ := hp
  refine WP.aload_n rfl rfl ⟨by decide, by decide⟩ ?_
  refine WP.iload_n rfl rfl ?_
  refine WP.iconst rfl ?_
  refine WP.iaddE rfl o1 ?_
  refine WP.iload_n rfl rfl ?_
  refine WP.callF (c_X7_bestFrom (a1 + 1) a2 h o2) rfl rfl (pm_cok rfl rfl (Or.inr ⟨_, _, rfl⟩) rfl rfl) rfl rfl ?_
  show WP 50 (6, [(9, 147), (0, a1), (0, a2), (1, a3), pU, pU, pU], [(1, F_X7_bestFrom (a1 + 1) a2 h)], h) Q
  refine WP.lload_n rfl rfl ?_
  refine WP.lcmp rfl ?_
  refine WP.nl_ne rfl (fun c3 => ?_) (fun c3 => ?_)
  · have o24 := q27 c3
    refine WP.iconst rfl ?_
    refine WP.istore (L' := [(9, 147), (0, a1), (0, a2), (1, a3), pU, (0, 0), pU]) rfl rfl ?_
    refine lp_X7_firstChoice_13 a1 a2 a3 h 0 o24 (fun (c26 : s_X7_firstChoice_2 a1 a2 a3 h = 1) us25 => ?_) (fun (c26 : ¬ s_X7_firstChoice_2 a1 a2 a3 h = 1) us25 => ?_) [pU]
    · show WP 50 (65, [(9, 147), (0, a1), (0, a2), (1, a3), pU, (0, s_X7_firstChoice_1 a1 a2 a3 h), us25.getD 0 pU], [], h) Q
      refine WP.iconst rfl ?_
      refine WP.reti rfl ?_; have e := kk; simp only [F_X7_firstChoice, if_neg (c3), if_pos c26] at e ⊢; exact e
    · show WP 50 (61, [(9, 147), (0, a1), (0, a2), (1, a3), pU, (0, s_X7_firstChoice_1 a1 a2 a3 h), us25.getD 0 pU], [], h) Q
      refine WP.iload rfl rfl ?_
      refine WP.reti rfl ?_; have e := kk; simp only [F_X7_firstChoice, if_neg (c3), if_neg (c26)] at e ⊢; exact e
  · refine WP.iconst rfl ?_
    refine WP.reti rfl ?_; have e := kk; simp only [F_X7_firstChoice, if_pos c3] at e ⊢; exact e
theorem c_X7_firstChoice (a1 : Int) (a2 : Int) (a3 : Int) (h : pH) (hp : P_X7_firstChoice a1 a2 a3 h) : CP 50 [(9, 147), (0, a1), (0, a2), (1, a3)] h (fun r h1 => r = some (0, F_X7_firstChoice a1 a2 a3 h) ∧ h1 = h) := w_X7_firstChoice a1 a2 a3 h hp ⟨rfl, rfl⟩
noncomputable def s_X9_readDigit_1 (a0 : Int) (a2 : Int) (h : pH) : pH := pm_upd (pm_upd h a0 10 ((h a0 10) + 1)) (a0 + 2) (((pm_upd h a0 10 ((h a0 10) + 1)) a0 6) - 1) ((((pm_upd h a0 10 ((h a0 10) + 1)) (a0 + 2) (((pm_upd h a0 10 ((h a0 10) + 1)) a0 6) - 1)) * 10) + a2)
noncomputable def s_X9_readDigit_2 (a0 : Int) (a1 : Int) (a2 : Int) (h : pH) : pH := if h a0 10 = 0 then if h a0 12 = 0 then H_X9_refuse a0 a1 1 h else H_X9_putUnit a0 a2 (pm_upd (pm_upd h a0 11 a1) a0 10 1) else if h a0 10 = 6 then H_X9_refuse a0 (h a0 11) 2 h else if h a0 6 ≤ 0 then h else s_X9_readDigit_1 a0 a2 h
noncomputable def H_X9_readDigit (a0 : Int) (a1 : Int) (a2 : Int) (h : pH) : pH := s_X9_readDigit_2 a0 a1 a2 h
noncomputable def P_X9_readDigit (a0 : Int) (a1 : Int) (a2 : Int) (h : pH) : Prop := ((((h a0 10 = 0) → ((((h a0 12 = 0) → P_X9_refuse a0 a1 1 h) ∧ ((¬ h a0 12 = 0) → ((P_X9_putUnit a0 a2 (pm_upd (pm_upd h a0 11 a1) a0 10 1))))))) ∧ ((¬ h a0 10 = 0) → ((((h a0 10 = 6) → ((P_X9_refuse a0 (h a0 11) 2 h))) ∧ ((¬ h a0 10 = 6) → (((0 < h a0 6) → ((fx_i ((h a0 10) + 1)) ∧ (fx_i (((pm_upd h a0 10 ((h a0 10) + 1)) a0 6) - 1)) ∧ (0 ≤ ((pm_upd h a0 10 ((h a0 10) + 1)) a0 6) - 1 ∧ ((pm_upd h a0 10 ((h a0 10) + 1)) a0 6) - 1 < 60) ∧ (fx_i (((pm_upd h a0 10 ((h a0 10) + 1)) (a0 + 2) (((pm_upd h a0 10 ((h a0 10) + 1)) a0 6) - 1)) * 10)) ∧ (fx_i ((((pm_upd h a0 10 ((h a0 10) + 1)) (a0 + 2) (((pm_upd h a0 10 ((h a0 10) + 1)) a0 6) - 1)) * 10) + a2)))))))))))
set_option maxHeartbeats 4000000 in
theorem w_X9_readDigit (a0 : Int) (a1 : Int) (a2 : Int) (h : pH) {Q : Option pV → pH → Prop} (hp : P_X9_readDigit a0 a1 a2 h) (kk : Q (none) (H_X9_readDigit a0 a1 a2 h)) : WP 64 (0, [(11, a0), (0, a1), (0, a2)], [], h) Q := by
  unfold P_X9_readDigit at hp
  have q21 := hp
  refine WP.aload_n rfl rfl ⟨by decide, by decide⟩ ?_
  refine WP.getI rfl rfl ?_
  have k1 : ∀ Q' : Option pV → pH → Prop, (WP 64 (61, [(11, a0), (0, a1), (0, a2)], [], s_X9_readDigit_2 a0 a1 a2 h) Q') → WP 64 (2, [(11, a0), (0, a1), (0, a2)], [(0, h a0 10)], h) Q' := fun Q' kk => by
    have q19 := q21
    refine WP.nz_ne rfl (fun c2 => ?_) (fun c2 => ?_)
    · have q18 := q19.2 c2
      refine WP.aload_n rfl rfl ⟨by decide, by decide⟩ ?_
      refine WP.getI rfl rfl ?_
      refine WP.nz_ne rfl (fun c8 => ?_) (fun c8 => ?_)
      · refine WP.aload_n rfl rfl ⟨by decide, by decide⟩ ?_
        refine WP.getI rfl rfl ?_
        refine WP.bipush rfl ?_
        refine WP.ni_ne rfl (fun c9 => ?_) (fun c9 => ?_)
        · have q17 := q18.2 c9
          refine WP.aload_n rfl rfl ⟨by decide, by decide⟩ ?_
          refine WP.getI rfl rfl ?_
          refine WP.nz_le rfl (fun c11 => ?_) (fun c11 => ?_)
          · have e := kk; simp only [s_X9_readDigit_2, if_neg (c2), if_neg (c9), if_pos c11] at e ⊢; exact e
          · obtain ⟨o12, o13, o14, o15, o16⟩ := q17 c11
            refine WP.aload_n rfl rfl ⟨by decide, by decide⟩ ?_
            refine WP.dup rfl (by decide) ?_
            refine WP.getI rfl rfl ?_
            refine WP.iconst rfl ?_
            refine WP.iaddE rfl o12 ?_
            refine WP.putI rfl rfl ?_
            refine WP.aload_n rfl rfl ⟨by decide, by decide⟩ ?_
            refine WP.getR rfl rfl ?_
            refine WP.aload_n rfl rfl ⟨by decide, by decide⟩ ?_
            refine WP.getI rfl rfl ?_
            refine WP.iconst rfl ?_
            refine WP.isubE rfl o13 ?_
            refine WP.aload_n rfl rfl ⟨by decide, by decide⟩ ?_
            refine WP.getR rfl rfl ?_
            refine WP.aload_n rfl rfl ⟨by decide, by decide⟩ ?_
            refine WP.getI rfl rfl ?_
            refine WP.iconst rfl ?_
            refine WP.isubE rfl o13 ?_
            refine WP.iaload rfl ⟨by decide, by decide, by decide⟩ o14 ?_
            refine WP.bipush rfl ?_
            refine WP.imulE rfl o15 ?_
            refine WP.iload_n rfl rfl ?_
            refine WP.iaddE rfl o16 ?_
            refine WP.iastore rfl ⟨by decide, by decide, by decide⟩ o14 ?_
            show WP 64 (61, [(11, a0), (0, a1), (0, a2)], [], s_X9_readDigit_1 a0 a2 h) Q'
            have e := kk; simp only [s_X9_readDigit_2, if_neg (c2), if_neg (c9), if_neg (Int.not_le.mpr c11)] at e ⊢; exact e
        · have o10 := q18.1 c9
          refine WP.aload_n rfl rfl ⟨by decide, by decide⟩ ?_
          refine WP.aload_n rfl rfl ⟨by decide, by decide⟩ ?_
          refine WP.getI rfl rfl ?_
          refine WP.iconst rfl ?_
          refine WP.callF (c_X9_refuse a0 (h a0 11) 2 h o10) rfl rfl (pm_cok rfl rfl (Or.inr ⟨_, _, rfl⟩) rfl rfl) rfl rfl ?_
          show WP 64 (33, [(11, a0), (0, a1), (0, a2)], [], H_X9_refuse a0 (h a0 11) 2 h) Q'
          refine WP.goto rfl ?_
          have e := kk; simp only [s_X9_readDigit_2, if_neg (c2), if_pos c9] at e ⊢; exact e
      · exact absurd c8 (c2)
    · have q7 := q19.1 c2
      refine WP.aload_n rfl rfl ⟨by decide, by decide⟩ ?_
      refine WP.getZ rfl rfl ?_
      refine WP.nz_ne rfl (fun c3 => ?_) (fun c3 => ?_)
      · have o6 := q7.2 c3
        refine WP.aload_n rfl rfl ⟨by decide, by decide⟩ ?_
        refine WP.getI rfl rfl ?_
        refine WP.nz_ne rfl (fun c5 => ?_) (fun c5 => ?_)
        · exact absurd c2 (c5)
        · refine WP.aload_n rfl rfl ⟨by decide, by decide⟩ ?_
          refine WP.iload_n rfl rfl ?_
          refine WP.putI rfl rfl ?_
          refine WP.aload_n rfl rfl ⟨by decide, by decide⟩ ?_
          refine WP.iconst rfl ?_
          refine WP.putI rfl rfl ?_
          refine WP.aload_n rfl rfl ⟨by decide, by decide⟩ ?_
          refine WP.iload_n rfl rfl ?_
          refine WP.callF (c_X9_putUnit a0 a2 (pm_upd (pm_upd h a0 11 a1) a0 10 1) o6) rfl rfl (pm_cok rfl rfl (Or.inr ⟨_, _, rfl⟩) rfl rfl) rfl rfl ?_
          show WP 64 (23, [(11, a0), (0, a1), (0, a2)], [], H_X9_putUnit a0 a2 (pm_upd (pm_upd h a0 11 a1) a0 10 1)) Q'
          refine WP.goto rfl ?_
          have e := kk; simp only [s_X9_readDigit_2, if_pos c2, if_neg (c3)] at e ⊢; exact e
      · have o4 := q7.1 c3
        refine WP.aload_n rfl rfl ⟨by decide, by decide⟩ ?_
        refine WP.iload_n rfl rfl ?_
        refine WP.iconst rfl ?_
        refine WP.callF (c_X9_refuse a0 a1 1 h o4) rfl rfl (pm_cok rfl rfl (Or.inr ⟨_, _, rfl⟩) rfl rfl) rfl rfl ?_
        show WP 64 (10, [(11, a0), (0, a1), (0, a2)], [], H_X9_refuse a0 a1 1 h) Q'
        refine WP.goto rfl ?_
        have e := kk; simp only [s_X9_readDigit_2, if_pos c2, if_pos c3] at e ⊢; exact e
  refine k1 _ ?_
  refine WP.retv rfl ?_; exact kk
theorem c_X9_readDigit (a0 : Int) (a1 : Int) (a2 : Int) (h : pH) (hp : P_X9_readDigit a0 a1 a2 h) : CP 64 [(11, a0), (0, a1), (0, a2)] h (fun r h1 => r = none ∧ h1 = H_X9_readDigit a0 a1 a2 h) := w_X9_readDigit a0 a1 a2 h hp ⟨rfl, rfl⟩
noncomputable def s_X9_readClosing_1 (a0 : Int) (h : pH) : pH := pm_upd (H_X9_putWaiting a0 (F_X9_binding 124 h) h) a0 7 (((H_X9_putWaiting a0 (F_X9_binding 124 h) h) a0 7) - 1)
noncomputable def s_X9_readClosing_2 (a0 : Int) (h : pH) : pH := if (H_X9_putWaiting a0 (F_X9_binding 124 h) h) a0 7 ≤ 0 then H_X9_putWaiting a0 (F_X9_binding 124 h) h else s_X9_readClosing_1 a0 h
noncomputable def s_X9_readClosing_3 (a0 : Int) (h : pH) : pH := pm_upd (s_X9_readClosing_2 a0 h) a0 8 (((s_X9_readClosing_2 a0 h) a0 8) - 1)
noncomputable def H_X9_readClosing (a0 : Int) (a1 : Int) (h : pH) : pH := if h a0 8 = 0 then H_X9_refuse a0 a1 1 h else s_X9_readClosing_3 a0 h
noncomputable def P_X9_readClosing (a0 : Int) (a1 : Int) (h : pH) : Prop := (((h a0 8 = 0) → P_X9_refuse a0 a1 1 h) ∧ ((¬ h a0 8 = 0) → ((P_X9_putWaiting a0 (F_X9_binding 124 h) h) ∧ (((0 < (H_X9_putWaiting a0 (F_X9_binding 124 h) h) a0 7) → ((fx_i (((H_X9_putWaiting a0 (F_X9_binding 124 h) h) a0 7) - 1))))) ∧ (fx_i (((s_X9_readClosing_2 a0 h) a0 8) - 1)))))
set_option maxHeartbeats 4000000 in
theorem w_X9_readClosing (a0 : Int) (a1 : Int) (h : pH) {Q : Option pV → pH → Prop} (hp : P_X9_readClosing a0 a1 h) (kk : Q (none) (H_X9_readClosing a0 a1 h)) : WP 66 (0, [(11, a0), (0, a1)], [], h) Q := by
  unfold P_X9_readClosing at hp
  have q11 := hp
  refine WP.aload_n rfl rfl ⟨by decide, by decide⟩ ?_
  refine WP.getI rfl rfl ?_
  refine WP.nz_ne rfl (fun c1 => ?_) (fun c1 => ?_)
  · obtain ⟨o3, q9, o10⟩ := q11.2 c1
    refine WP.aload_n rfl rfl ⟨by decide, by decide⟩ ?_
    refine WP.bipush rfl ?_
    refine WP.callF (c_X9_binding 124 h) rfl rfl (pm_cok rfl rfl (Or.inl rfl) rfl rfl) rfl rfl ?_
    show WP 66 (11, [(11, a0), (0, a1)], [(0, F_X9_binding 124 h), (11, a0)], h) Q
    refine WP.callF (c_X9_putWaiting a0 (F_X9_binding 124 h) h o3) rfl rfl (pm_cok rfl rfl (Or.inr ⟨_, _, rfl⟩) rfl rfl) rfl rfl ?_
    show WP 66 (12, [(11, a0), (0, a1)], [], H_X9_putWaiting a0 (F_X9_binding 124 h) h) Q
    refine WP.aload_n rfl rfl ⟨by decide, by decide⟩ ?_
    refine WP.getI rfl rfl ?_
    have k4 : ∀ Q' : Option pV → pH → Prop, (WP 66 (21, [(11, a0), (0, a1)], [], s_X9_readClosing_2 a0 h) Q') → WP 66 (14, [(11, a0), (0, a1)], [(0, (H_X9_putWaiting a0 (F_X9_binding 124 h) h) a0 7)], H_X9_putWaiting a0 (F_X9_binding 124 h) h) Q' := fun Q' kk => by
      have q7 := q9
      refine WP.nz_le rfl (fun c5 => ?_) (fun c5 => ?_)
      · have e := kk; simp only [s_X9_readClosing_2, if_pos c5] at e ⊢; exact e
      · have o6 := q7 c5
        refine WP.aload_n rfl rfl ⟨by decide, by decide⟩ ?_
        refine WP.dup rfl (by decide) ?_
        refine WP.getI rfl rfl ?_
        refine WP.iconst rfl ?_
        refine WP.isubE rfl o6 ?_
        refine WP.putI rfl rfl ?_
        show WP 66 (21, [(11, a0), (0, a1)], [], s_X9_readClosing_1 a0 h) Q'
        have e := kk; simp only [s_X9_readClosing_2, if_neg (Int.not_le.mpr c5)] at e ⊢; exact e
    refine k4 _ ?_
    refine WP.aload_n rfl rfl ⟨by decide, by decide⟩ ?_
    refine WP.dup rfl (by decide) ?_
    refine WP.getI rfl rfl ?_
    refine WP.iconst rfl ?_
    refine WP.isubE rfl o10 ?_
    refine WP.putI rfl rfl ?_
    show WP 66 (27, [(11, a0), (0, a1)], [], s_X9_readClosing_3 a0 h) Q
    refine WP.retv rfl ?_; have e := kk; simp only [H_X9_readClosing, if_neg (c1)] at e ⊢; exact e
  · have o2 := q11.1 c1
    refine WP.aload_n rfl rfl ⟨by decide, by decide⟩ ?_
    refine WP.iload_n rfl rfl ?_
    refine WP.iconst rfl ?_
    refine WP.callF (c_X9_refuse a0 a1 1 h o2) rfl rfl (pm_cok rfl rfl (Or.inr ⟨_, _, rfl⟩) rfl rfl) rfl rfl ?_
    show WP 66 (7, [(11, a0), (0, a1)], [], H_X9_refuse a0 a1 1 h) Q
    refine WP.retv rfl ?_; have e := kk; simp only [H_X9_readClosing, if_pos c1] at e ⊢; exact e
theorem c_X9_readClosing (a0 : Int) (a1 : Int) (h : pH) (hp : P_X9_readClosing a0 a1 h) : CP 66 [(11, a0), (0, a1)] h (fun r h1 => r = none ∧ h1 = H_X9_readClosing a0 a1 h) := w_X9_readClosing a0 a1 h hp ⟨rfl, rfl⟩
noncomputable def s_X9_readJoin_1 (a0 : Int) (a2 : Int) (h : pH) : pH := H_X9_putWaiting a0 (F_X9_binding a2 h) (pm_upd h a0 9 (pm_or (h a0 9) (pm_shl 1 (h a0 8))))
noncomputable def s_X9_readJoin_2 (a0 : Int) (h : pH) : pH := pm_upd h a0 9 (pm_and (h a0 9) (pm_xor (pm_shl 1 (h a0 8)) (-1)))
noncomputable def s_X9_readJoin_3 (a0 : Int) (a2 : Int) (h : pH) : pH := if F_X9_binding 61 h ≤ F_X9_binding a2 h then h else s_X9_readJoin_2 a0 h
noncomputable def s_X9_readJoin_4 (a0 : Int) (a2 : Int) (h : pH) : pH := H_X9_putWaiting a0 (F_X9_binding a2 h) (s_X9_readJoin_3 a0 a2 h)
noncomputable def H_X9_readJoin (a0 : Int) (a1 : Int) (a2 : Int) (h : pH) : pH := if F_X9_binding a2 h = 0 then H_X9_refuse a0 a1 1 h else if F_X9_binding a2 h = F_X9_binding 33 h then H_X9_refuse a0 a1 1 h else if F_X9_binding a2 h = F_X9_binding 61 h then if pm_and (h a0 9) (pm_shl 1 (h a0 8)) = 0 then pm_upd (H_X9_await a0 a2 (s_X9_readJoin_1 a0 a2 h)) a0 12 1 else H_X9_refuse a0 a1 1 h else pm_upd (H_X9_await a0 a2 (s_X9_readJoin_4 a0 a2 h)) a0 12 1
noncomputable def P_X9_readJoin (a0 : Int) (a1 : Int) (a2 : Int) (h : pH) : Prop := (((F_X9_binding a2 h = 0) → P_X9_refuse a0 a1 1 h) ∧ ((¬ F_X9_binding a2 h = 0) → ((((F_X9_binding a2 h = F_X9_binding 33 h) → P_X9_refuse a0 a1 1 h) ∧ ((¬ F_X9_binding a2 h = F_X9_binding 33 h) → ((((F_X9_binding a2 h = F_X9_binding 61 h) → ((((pm_and (h a0 9) (pm_shl 1 (h a0 8)) = 0) → ((P_X9_putWaiting a0 (F_X9_binding a2 h) (pm_upd h a0 9 (pm_or (h a0 9) (pm_shl 1 (h a0 8))))) ∧ (P_X9_await a0 a2 (s_X9_readJoin_1 a0 a2 h)))) ∧ ((¬ pm_and (h a0 9) (pm_shl 1 (h a0 8)) = 0) → P_X9_refuse a0 a1 1 h)))) ∧ ((¬ (F_X9_binding a2 h = F_X9_binding 61 h)) → ((P_X9_putWaiting a0 (F_X9_binding a2 h) (s_X9_readJoin_3 a0 a2 h)) ∧ (P_X9_await a0 a2 (s_X9_readJoin_4 a0 a2 h)))))))))))
set_option maxHeartbeats 4000000 in
theorem w_X9_readJoin (a0 : Int) (a1 : Int) (a2 : Int) (h : pH) {Q : Option pV → pH → Prop} (hp : P_X9_readJoin a0 a1 a2 h) (kk : Q (none) (H_X9_readJoin a0 a1 a2 h)) : WP 67 (0, [(11, a0), (0, a1), (0, a2), pU, pU, pU], [], h) Q := by
  unfold P_X9_readJoin at hp
  have q25 := hp
  refine WP.iload_n rfl rfl ?_
  refine WP.callF (c_X9_binding a2 h) rfl rfl (pm_cok rfl rfl (Or.inl rfl) rfl rfl) rfl rfl ?_
  show WP 67 (2, [(11, a0), (0, a1), (0, a2), pU, pU, pU], [(0, F_X9_binding a2 h)], h) Q
  refine WP.istore_n (L' := [(11, a0), (0, a1), (0, a2), (0, F_X9_binding a2 h), pU, pU]) rfl rfl ?_
  refine WP.iconst rfl ?_
  refine WP.aload_n rfl rfl ⟨by decide, by decide⟩ ?_
  refine WP.getI rfl rfl ?_
  refine WP.ishl rfl ?_
  refine WP.istore (L' := [(11, a0), (0, a1), (0, a2), (0, F_X9_binding a2 h), (0, pm_shl 1 (h a0 8)), pU]) rfl rfl ?_
  refine WP.iload_n rfl rfl ?_
  refine WP.bipush rfl ?_
  refine WP.callF (c_X9_binding 61 h) rfl rfl (pm_cok rfl rfl (Or.inl rfl) rfl rfl) rfl rfl ?_
  show WP 67 (11, [(11, a0), (0, a1), (0, a2), (0, F_X9_binding a2 h), (0, pm_shl 1 (h a0 8)), pU], [(0, F_X9_binding 61 h), (0, F_X9_binding a2 h)], h) Q
  have k1 : ∀ Q' : Option pV → pH → Prop, (WP 67 (15, [(11, a0), (0, a1), (0, a2), (0, F_X9_binding a2 h), (0, pm_shl 1 (h a0 8)), pU], [(0, if F_X9_binding a2 h = F_X9_binding 61 h then 1 else 0)], h) Q') → WP 67 (11, [(11, a0), (0, a1), (0, a2), (0, F_X9_binding a2 h), (0, pm_shl 1 (h a0 8)), pU], [(0, F_X9_binding 61 h), (0, F_X9_binding a2 h)], h) Q' := fun Q' kk => by
    refine WP.ni_ne rfl (fun c2 => ?_) (fun c2 => ?_)
    · refine WP.iconst rfl ?_
      have e := kk; simp only [if_neg (c2), if_neg (show ¬ (F_X9_binding a2 h = F_X9_binding 61 h) from c2)] at e ⊢; exact e
    · refine WP.iconst rfl ?_
      refine WP.goto rfl ?_
      have e := kk; simp only [if_pos c2, if_pos (show F_X9_binding a2 h = F_X9_binding 61 h from c2)] at e ⊢; exact e
  refine k1 _ ?_
  refine WP.istore (L' := [(11, a0), (0, a1), (0, a2), (0, F_X9_binding a2 h), (0, pm_shl 1 (h a0 8)), (0, if F_X9_binding a2 h = F_X9_binding 61 h then 1 else 0)]) rfl rfl ?_
  refine WP.iload_n rfl rfl ?_
  refine WP.nz_eq rfl (fun c4 => ?_) (fun c4 => ?_)
  · have o5 := q25.1 c4
    refine WP.aload_n rfl rfl ⟨by decide, by decide⟩ ?_
    refine WP.iload_n rfl rfl ?_
    refine WP.iconst rfl ?_
    refine WP.callF (c_X9_refuse a0 a1 1 h o5) rfl rfl (pm_cok rfl rfl (Or.inr ⟨_, _, rfl⟩) rfl rfl) rfl rfl ?_
    show WP 67 (33, [(11, a0), (0, a1), (0, a2), (0, F_X9_binding a2 h), (0, pm_shl 1 (h a0 8)), (0, if F_X9_binding a2 h = F_X9_binding 61 h then 1 else 0)], [], H_X9_refuse a0 a1 1 h) Q
    refine WP.retv rfl ?_; have e := kk; simp only [H_X9_readJoin, if_pos c4] at e ⊢; exact e
  · have q24 := q25.2 c4
    refine WP.iload_n rfl rfl ?_
    refine WP.bipush rfl ?_
    refine WP.callF (c_X9_binding 33 h) rfl rfl (pm_cok rfl rfl (Or.inl rfl) rfl rfl) rfl rfl ?_
    show WP 67 (21, [(11, a0), (0, a1), (0, a2), (0, F_X9_binding a2 h), (0, pm_shl 1 (h a0 8)), (0, if F_X9_binding a2 h = F_X9_binding 61 h then 1 else 0)], [(0, F_X9_binding 33 h), (0, F_X9_binding a2 h)], h) Q
    refine WP.ni_eq rfl (fun c6 => ?_) (fun c6 => ?_)
    · have o7 := q24.1 c6
      refine WP.aload_n rfl rfl ⟨by decide, by decide⟩ ?_
      refine WP.iload_n rfl rfl ?_
      refine WP.iconst rfl ?_
      refine WP.callF (c_X9_refuse a0 a1 1 h o7) rfl rfl (pm_cok rfl rfl (Or.inr ⟨_, _, rfl⟩) rfl rfl) rfl rfl ?_
      show WP 67 (33, [(11, a0), (0, a1), (0, a2), (0, F_X9_binding a2 h), (0, pm_shl 1 (h a0 8)), (0, if F_X9_binding a2 h = F_X9_binding 61 h then 1 else 0)], [], H_X9_refuse a0 a1 1 h) Q
      refine WP.retv rfl ?_; have e := kk; simp only [H_X9_readJoin, if_neg (c4), if_pos c6] at e ⊢; exact e
    · have q23 := q24.2 c6
      refine WP.iload rfl rfl ?_
      refine WP.nb_eq rfl (fun c8 => ?_) (fun c8 => ?_)
      · obtain ⟨o21, o22⟩ := q23.2 c8
        refine WP.iload rfl rfl ?_
        have k17 : ∀ Q' : Option pV → pH → Prop, (WP 67 (55, [(11, a0), (0, a1), (0, a2), (0, F_X9_binding a2 h), (0, pm_shl 1 (h a0 8)), (0, if F_X9_binding a2 h = F_X9_binding 61 h then 1 else 0)], [], s_X9_readJoin_3 a0 a2 h) Q') → WP 67 (35, [(11, a0), (0, a1), (0, a2), (0, F_X9_binding a2 h), (0, pm_shl 1 (h a0 8)), (0, if F_X9_binding a2 h = F_X9_binding 61 h then 1 else 0)], [(0, if F_X9_binding a2 h = F_X9_binding 61 h then 1 else 0)], h) Q' := fun Q' kk => by
          refine WP.nb_eq rfl (fun c18 => ?_) (fun c18 => ?_)
          · refine WP.iload_n rfl rfl ?_
            refine WP.bipush rfl ?_
            refine WP.callF (c_X9_binding 61 h) rfl rfl (pm_cok rfl rfl (Or.inl rfl) rfl rfl) rfl rfl ?_
            show WP 67 (46, [(11, a0), (0, a1), (0, a2), (0, F_X9_binding a2 h), (0, pm_shl 1 (h a0 8)), (0, if F_X9_binding a2 h = F_X9_binding 61 h then 1 else 0)], [(0, F_X9_binding 61 h), (0, F_X9_binding a2 h)], h) Q'
            refine WP.ni_ge rfl (fun c19 => ?_) (fun c19 => ?_)
            · have e := kk; simp only [s_X9_readJoin_3, if_pos c19] at e ⊢; exact e
            · refine WP.aload_n rfl rfl ⟨by decide, by decide⟩ ?_
              refine WP.dup rfl (by decide) ?_
              refine WP.getI rfl rfl ?_
              refine WP.iload rfl rfl ?_
              refine WP.iconst rfl ?_
              refine WP.ixor rfl ?_
              refine WP.iand rfl ?_
              refine WP.putI rfl rfl ?_
              show WP 67 (55, [(11, a0), (0, a1), (0, a2), (0, F_X9_binding a2 h), (0, pm_shl 1 (h a0 8)), (0, if F_X9_binding a2 h = F_X9_binding 61 h then 1 else 0)], [], s_X9_readJoin_2 a0 h) Q'
              have e := kk; simp only [s_X9_readJoin_3, if_neg (Int.not_le.mpr c19)] at e ⊢; exact e
          · exact absurd c18 (c8)
        refine k17 _ ?_
        refine WP.aload_n rfl rfl ⟨by decide, by decide⟩ ?_
        refine WP.iload_n rfl rfl ?_
        refine WP.callF (c_X9_putWaiting a0 (F_X9_binding a2 h) (s_X9_readJoin_3 a0 a2 h) o21) rfl rfl (pm_cok rfl rfl (Or.inr ⟨_, _, rfl⟩) rfl rfl) rfl rfl ?_
        show WP 67 (58, [(11, a0), (0, a1), (0, a2), (0, F_X9_binding a2 h), (0, pm_shl 1 (h a0 8)), (0, if F_X9_binding a2 h = F_X9_binding 61 h then 1 else 0)], [], s_X9_readJoin_4 a0 a2 h) Q
        refine WP.aload_n rfl rfl ⟨by decide, by decide⟩ ?_
        refine WP.iload_n rfl rfl ?_
        refine WP.callF (c_X9_await a0 a2 (s_X9_readJoin_4 a0 a2 h) o22) rfl rfl (pm_cok rfl rfl (Or.inr ⟨_, _, rfl⟩) rfl rfl) rfl rfl ?_
        show WP 67 (61, [(11, a0), (0, a1), (0, a2), (0, F_X9_binding a2 h), (0, pm_shl 1 (h a0 8)), (0, if F_X9_binding a2 h = F_X9_binding 61 h then 1 else 0)], [], H_X9_await a0 a2 (s_X9_readJoin_4 a0 a2 h)) Q
        refine WP.aload_n rfl rfl ⟨by decide, by decide⟩ ?_
        refine WP.iconst rfl ?_
        refine WP.putZ rfl rfl (by decide) ?_
        refine WP.retv rfl ?_; have e := kk; simp only [H_X9_readJoin, if_neg (c4), if_neg (c6), if_neg (c8)] at e ⊢; exact e
      · have q16 := q23.1 c8
        refine WP.aload_n rfl rfl ⟨by decide, by decide⟩ ?_
        refine WP.getI rfl rfl ?_
        refine WP.iload rfl rfl ?_
        refine WP.iand rfl ?_
        refine WP.nz_eq rfl (fun c9 => ?_) (fun c9 => ?_)
        · obtain ⟨o13, o14⟩ := q16.1 c9
          refine WP.iload rfl rfl ?_
          have k10 : ∀ Q' : Option pV → pH → Prop, (WP 67 (55, [(11, a0), (0, a1), (0, a2), (0, F_X9_binding a2 h), (0, pm_shl 1 (h a0 8)), (0, if F_X9_binding a2 h = F_X9_binding 61 h then 1 else 0)], [], pm_upd h a0 9 (pm_or (h a0 9) (pm_shl 1 (h a0 8)))) Q') → WP 67 (35, [(11, a0), (0, a1), (0, a2), (0, F_X9_binding a2 h), (0, pm_shl 1 (h a0 8)), (0, if F_X9_binding a2 h = F_X9_binding 61 h then 1 else 0)], [(0, if F_X9_binding a2 h = F_X9_binding 61 h then 1 else 0)], h) Q' := fun Q' kk => by
            refine WP.nb_eq rfl (fun c11 => ?_) (fun c11 => ?_)
            · exact absurd c8 (c11)
            · refine WP.aload_n rfl rfl ⟨by decide, by decide⟩ ?_
              refine WP.dup rfl (by decide) ?_
              refine WP.getI rfl rfl ?_
              refine WP.iload rfl rfl ?_
              refine WP.ior rfl ?_
              refine WP.putI rfl rfl ?_
              refine WP.goto rfl ?_
              exact kk
          refine k10 _ ?_
          refine WP.aload_n rfl rfl ⟨by decide, by decide⟩ ?_
          refine WP.iload_n rfl rfl ?_
          refine WP.callF (c_X9_putWaiting a0 (F_X9_binding a2 h) (pm_upd h a0 9 (pm_or (h a0 9) (pm_shl 1 (h a0 8)))) o13) rfl rfl (pm_cok rfl rfl (Or.inr ⟨_, _, rfl⟩) rfl rfl) rfl rfl ?_
          show WP 67 (58, [(11, a0), (0, a1), (0, a2), (0, F_X9_binding a2 h), (0, pm_shl 1 (h a0 8)), (0, if F_X9_binding a2 h = F_X9_binding 61 h then 1 else 0)], [], s_X9_readJoin_1 a0 a2 h) Q
          refine WP.aload_n rfl rfl ⟨by decide, by decide⟩ ?_
          refine WP.iload_n rfl rfl ?_
          refine WP.callF (c_X9_await a0 a2 (s_X9_readJoin_1 a0 a2 h) o14) rfl rfl (pm_cok rfl rfl (Or.inr ⟨_, _, rfl⟩) rfl rfl) rfl rfl ?_
          show WP 67 (61, [(11, a0), (0, a1), (0, a2), (0, F_X9_binding a2 h), (0, pm_shl 1 (h a0 8)), (0, if F_X9_binding a2 h = F_X9_binding 61 h then 1 else 0)], [], H_X9_await a0 a2 (s_X9_readJoin_1 a0 a2 h)) Q
          refine WP.aload_n rfl rfl ⟨by decide, by decide⟩ ?_
          refine WP.iconst rfl ?_
          refine WP.putZ rfl rfl (by decide) ?_
          refine WP.retv rfl ?_; have e := kk; simp only [H_X9_readJoin, if_neg (c4), if_neg (c6), if_pos c8, if_pos c9] at e ⊢; exact e
        · have o15 := q16.2 c9
          refine WP.aload_n rfl rfl ⟨by decide, by decide⟩ ?_
          refine WP.iload_n rfl rfl ?_
          refine WP.iconst rfl ?_
          refine WP.callF (c_X9_refuse a0 a1 1 h o15) rfl rfl (pm_cok rfl rfl (Or.inr ⟨_, _, rfl⟩) rfl rfl) rfl rfl ?_
          show WP 67 (33, [(11, a0), (0, a1), (0, a2), (0, F_X9_binding a2 h), (0, pm_shl 1 (h a0 8)), (0, if F_X9_binding a2 h = F_X9_binding 61 h then 1 else 0)], [], H_X9_refuse a0 a1 1 h) Q
          refine WP.retv rfl ?_; have e := kk; simp only [H_X9_readJoin, if_neg (c4), if_neg (c6), if_pos c8, if_neg (c9)] at e ⊢; exact e
theorem c_X9_readJoin (a0 : Int) (a1 : Int) (a2 : Int) (h : pH) (hp : P_X9_readJoin a0 a1 a2 h) : CP 67 [(11, a0), (0, a1), (0, a2)] h (fun r h1 => r = none ∧ h1 = H_X9_readJoin a0 a1 a2 h) := w_X9_readJoin a0 a1 a2 h hp ⟨rfl, rfl⟩
def C_X10_putInOrder_8 (a0 : Int) (x1 : Int) (x2 : Int) (h : pH) : Prop := 0 < x2 ∧ F_X10_placeInOrder a0 x1 h < F_X10_placeInOrder a0 (h (a0 + 15) (x2 - 1)) h
noncomputable def B_X10_putInOrder_8 (a0 : Int) (x1 : Int) (x2 : Int) (h : pH) : Int × pH := (x2 + (-1), pm_upd h (a0 + 15) x2 (h (a0 + 15) (x2 - 1)))
noncomputable def P_X10_putInOrder_8 (a0 : Int) (x1 : Int) (x2 : Int) (h : pH) : Prop := (((0 < x2) → ((fx_i (x2 - 1)) ∧ (0 ≤ x2 - 1 ∧ x2 - 1 < 16) ∧ (P_X10_isAhead a0 x1 (h (a0 + 15) (x2 - 1)) h)))) ∧ ((0 < x2 ∧ F_X10_placeInOrder a0 x1 h < F_X10_placeInOrder a0 (h (a0 + 15) (x2 - 1)) h) → ((fx_i (x2 - 1)) ∧ (0 ≤ x2 - 1 ∧ x2 - 1 < 16) ∧ (P_X10_isAhead a0 x1 (h (a0 + 15) (x2 - 1)) h) ∧ (0 ≤ x2 ∧ x2 < 16) ∧ (fx_i (x2 + (-1)))))
noncomputable def L_X10_putInOrder_8 (a0 : Int) (x1 : Int) (x2 : Int) (h : pH) : Int × pH := fx_wh (σ := Int × pH) (fun s => C_X10_putInOrder_8 a0 x1 s.1 s.2) (fun s => B_X10_putInOrder_8 a0 x1 s.1 s.2) (x2, h)
def O_X10_putInOrder_8 (a0 : Int) (x1 : Int) (x2 : Int) (h : pH) : Prop := fx_ok (σ := Int × pH) (fun s => C_X10_putInOrder_8 a0 x1 s.1 s.2) (fun s => B_X10_putInOrder_8 a0 x1 s.1 s.2) (fun s => P_X10_putInOrder_8 a0 x1 s.1 s.2) (x2, h)
set_option maxHeartbeats 4000000 in
theorem lp_X10_putInOrder_8 (a0 : Int) (x1 : Int) (x2 : Int) (h : pH) {Q : Option pV → pH → Prop} (hp : O_X10_putInOrder_8 a0 x1 x2 h) (kk : ∀ us : List pV, WP 80 (32, [(12, a0), (0, x1), (0, (L_X10_putInOrder_8 a0 x1 x2 h).1)], [], (L_X10_putInOrder_8 a0 x1 x2 h).2) Q) : ∀ us : List pV, WP 80 (8, [(12, a0), (0, x1), (0, x2)], [], h) Q := by
  refine WP.wh (σ := Int × pH) (fun s => C_X10_putInOrder_8 a0 x1 s.1 s.2) (fun s => B_X10_putInOrder_8 a0 x1 s.1 s.2) (fun s => P_X10_putInOrder_8 a0 x1 s.1 s.2) (fun s us => (8, [(12, a0), (0, x1), (0, s.1)], [], s.2)) (x2, h) hp ?_ ?_
  · intro s us hP hc kk
    obtain ⟨x2, h⟩ := s
    change P_X10_putInOrder_8 a0 x1 x2 h at hP
    change 0 < x2 ∧ F_X10_placeInOrder a0 x1 h < F_X10_placeInOrder a0 (h (a0 + 15) (x2 - 1)) h at hc
    replace kk : ∀ (us' : List pV) (s' : Int × pH), s' = B_X10_putInOrder_8 a0 x1 x2 h → WP 80 (8, [(12, a0), (0, x1), (0, s'.1)], [], s'.2) Q := fun us' s' e => by subst e; exact kk us'
    unfold P_X10_putInOrder_8 at hP
    obtain ⟨hPc, hPb⟩ := hP
    have q8 := hPc
    obtain ⟨o10, o11, o12, o14, o15⟩ := hPb hc
    show WP 80 (8, [(12, a0), (0, x1), (0, x2)], [], h) Q
    refine WP.iload_n rfl rfl ?_
    refine WP.nz_le rfl (fun c9 => ?_) (fun c9 => ?_)
    · exact absurd hc (fun q => (Int.not_lt.mpr c9) q.1)
    · refine WP.aload_n rfl rfl ⟨by decide, by decide⟩ ?_
      refine WP.iload_n rfl rfl ?_
      refine WP.aload_n rfl rfl ⟨by decide, by decide⟩ ?_
      refine WP.getR rfl rfl ?_
      refine WP.iload_n rfl rfl ?_
      refine WP.iconst rfl ?_
      refine WP.isubE rfl o10 ?_
      refine WP.iaload rfl ⟨by decide, by decide, by decide⟩ o11 ?_
      refine WP.callF (c_X10_isAhead a0 x1 (h (a0 + 15) (x2 - 1)) h o12) rfl rfl (pm_cok rfl rfl (Or.inr ⟨_, _, rfl⟩) rfl rfl) rfl rfl ?_
      show WP 80 (19, [(12, a0), (0, x1), (0, x2)], [(0, if F_X10_placeInOrder a0 x1 h < F_X10_placeInOrder a0 (h (a0 + 15) (x2 - 1)) h then 1 else 0)], h) Q
      refine WP.nb_eq rfl (fun c13 => ?_) (fun c13 => ?_)
      · exact absurd hc (fun q => (c13) q.2)
      · refine WP.aload_n rfl rfl ⟨by decide, by decide⟩ ?_
        refine WP.getR rfl rfl ?_
        refine WP.iload_n rfl rfl ?_
        refine WP.aload_n rfl rfl ⟨by decide, by decide⟩ ?_
        refine WP.getR rfl rfl ?_
        refine WP.iload_n rfl rfl ?_
        refine WP.iconst rfl ?_
        refine WP.isubE rfl o10 ?_
        refine WP.iaload rfl ⟨by decide, by decide, by decide⟩ o11 ?_
        refine WP.iastore rfl ⟨by decide, by decide, by decide⟩ o14 ?_
        refine WP.iincE (L' := [(12, a0), (0, x1), (0, x2 + (-1))]) rfl rfl o15 rfl ?_
        refine WP.goto rfl ?_
        exact kk [] (x2 + (-1), pm_upd h (a0 + 15) x2 (h (a0 + 15) (x2 - 1))) (rfl)
  · intro hP hc
    generalize hs : (L_X10_putInOrder_8 a0 x1 x2 h : Int × pH) = s at kk
    change P_X10_putInOrder_8 a0 x1 (L_X10_putInOrder_8 a0 x1 x2 h).1 (L_X10_putInOrder_8 a0 x1 x2 h).2 at hP
    change ¬ C_X10_putInOrder_8 a0 x1 (L_X10_putInOrder_8 a0 x1 x2 h).1 (L_X10_putInOrder_8 a0 x1 x2 h).2 at hc
    intro us
    show WP 80 (8, [(12, a0), (0, x1), (0, (L_X10_putInOrder_8 a0 x1 x2 h).1)], [], (L_X10_putInOrder_8 a0 x1 x2 h).2) Q
    rw [hs] at hP hc ⊢
    obtain ⟨x2, h⟩ := s
    change P_X10_putInOrder_8 a0 x1 x2 h at hP
    change ¬ (0 < x2 ∧ F_X10_placeInOrder a0 x1 h < F_X10_placeInOrder a0 (h (a0 + 15) (x2 - 1)) h) at hc
    unfold P_X10_putInOrder_8 at hP
    have q8 := hP.1
    show WP 80 (8, [(12, a0), (0, x1), (0, x2)], [], h) Q
    refine WP.iload_n rfl rfl ?_
    refine WP.nz_le rfl (fun c3 => ?_) (fun c3 => ?_)
    · exact kk []
    · obtain ⟨o4, o5, o6⟩ := q8 c3
      refine WP.aload_n rfl rfl ⟨by decide, by decide⟩ ?_
      refine WP.iload_n rfl rfl ?_
      refine WP.aload_n rfl rfl ⟨by decide, by decide⟩ ?_
      refine WP.getR rfl rfl ?_
      refine WP.iload_n rfl rfl ?_
      refine WP.iconst rfl ?_
      refine WP.isubE rfl o4 ?_
      refine WP.iaload rfl ⟨by decide, by decide, by decide⟩ o5 ?_
      refine WP.callF (c_X10_isAhead a0 x1 (h (a0 + 15) (x2 - 1)) h o6) rfl rfl (pm_cok rfl rfl (Or.inr ⟨_, _, rfl⟩) rfl rfl) rfl rfl ?_
      show WP 80 (19, [(12, a0), (0, x1), (0, x2)], [(0, if F_X10_placeInOrder a0 x1 h < F_X10_placeInOrder a0 (h (a0 + 15) (x2 - 1)) h then 1 else 0)], h) Q
      refine WP.nb_eq rfl (fun c7 => ?_) (fun c7 => ?_)
      · exact kk []
      · exact absurd (show 0 < x2 ∧ F_X10_placeInOrder a0 x1 h < F_X10_placeInOrder a0 (h (a0 + 15) (x2 - 1)) h from ⟨c3, c7⟩) hc
noncomputable def s_X10_putInOrder_1 (a0 : Int) (x1 : Int) (h : pH) : Int := (L_X10_putInOrder_8 a0 x1 x1 h).1
noncomputable def s_X10_putInOrder_2 (a0 : Int) (x1 : Int) (h : pH) : pH := (L_X10_putInOrder_8 a0 x1 x1 h).2
noncomputable def s_X10_putInOrder_3 (a0 : Int) (x1 : Int) (h : pH) : pH := pm_upd (s_X10_putInOrder_2 a0 x1 h) (a0 + 15) (s_X10_putInOrder_1 a0 x1 h) x1
def C_X10_putInOrder_2 (a0 : Int) (x1 : Int) (h : pH) : Prop := x1 < h a0 15
noncomputable def B_X10_putInOrder_2 (a0 : Int) (x1 : Int) (h : pH) : Int × pH := (x1 + 1, s_X10_putInOrder_3 a0 x1 h)
noncomputable def P_X10_putInOrder_2 (a0 : Int) (x1 : Int) (h : pH) : Prop := ((x1 < h a0 15) → O_X10_putInOrder_8 a0 x1 x1 h ∧ (0 ≤ s_X10_putInOrder_1 a0 x1 h ∧ s_X10_putInOrder_1 a0 x1 h < 16) ∧ (fx_i (x1 + 1)))
noncomputable def L_X10_putInOrder_2 (a0 : Int) (x1 : Int) (h : pH) : Int × pH := fx_wh (σ := Int × pH) (fun s => C_X10_putInOrder_2 a0 s.1 s.2) (fun s => B_X10_putInOrder_2 a0 s.1 s.2) (x1, h)
def O_X10_putInOrder_2 (a0 : Int) (x1 : Int) (h : pH) : Prop := fx_ok (σ := Int × pH) (fun s => C_X10_putInOrder_2 a0 s.1 s.2) (fun s => B_X10_putInOrder_2 a0 s.1 s.2) (fun s => P_X10_putInOrder_2 a0 s.1 s.2) (x1, h)
set_option maxHeartbeats 4000000 in
theorem lp_X10_putInOrder_2 (a0 : Int) (x1 : Int) (h : pH) {Q : Option pV → pH → Prop} (hp : O_X10_putInOrder_2 a0 x1 h) (kk : ∀ us : List pV, WP 80 (39, [(12, a0), (0, (L_X10_putInOrder_2 a0 x1 h).1), us.getD 0 pU], [], (L_X10_putInOrder_2 a0 x1 h).2) Q) : ∀ us : List pV, WP 80 (2, [(12, a0), (0, x1), us.getD 0 pU], [], h) Q := by
  refine WP.wh (σ := Int × pH) (fun s => C_X10_putInOrder_2 a0 s.1 s.2) (fun s => B_X10_putInOrder_2 a0 s.1 s.2) (fun s => P_X10_putInOrder_2 a0 s.1 s.2) (fun s us => (2, [(12, a0), (0, s.1), us.getD 0 pU], [], s.2)) (x1, h) hp ?_ ?_
  · intro s us hP hc kk
    obtain ⟨x1, h⟩ := s
    change P_X10_putInOrder_2 a0 x1 h at hP
    change x1 < h a0 15 at hc
    replace kk : ∀ (us' : List pV) (s' : Int × pH), s' = B_X10_putInOrder_2 a0 x1 h → WP 80 (2, [(12, a0), (0, s'.1), us'.getD 0 pU], [], s'.2) Q := fun us' s' e => by subst e; exact kk us'
    unfold P_X10_putInOrder_2 at hP
    obtain ⟨o16, o18, o19⟩ := hP hc
    show WP 80 (2, [(12, a0), (0, x1), us.getD 0 pU], [], h) Q
    refine WP.iload_n rfl rfl ?_
    refine WP.aload_n rfl rfl ⟨by decide, by decide⟩ ?_
    refine WP.getI rfl rfl ?_
    refine WP.ni_ge rfl (fun c2 => ?_) (fun c2 => ?_)
    · exact absurd hc (Int.not_lt.mpr c2)
    · refine WP.iload_n rfl rfl ?_
      refine WP.istore_n (L' := [(12, a0), (0, x1), (0, x1)]) rfl rfl ?_
      refine lp_X10_putInOrder_8 a0 x1 x1 h o16 (fun us17 => ?_) []
      show WP 80 (32, [(12, a0), (0, x1), (0, s_X10_putInOrder_1 a0 x1 h)], [], s_X10_putInOrder_2 a0 x1 h) Q
      refine WP.aload_n rfl rfl ⟨by decide, by decide⟩ ?_
      refine WP.getR rfl rfl ?_
      refine WP.iload_n rfl rfl ?_
      refine WP.iload_n rfl rfl ?_
      refine WP.iastore rfl ⟨by decide, by decide, by decide⟩ o18 ?_
      show WP 80 (37, [(12, a0), (0, x1), (0, s_X10_putInOrder_1 a0 x1 h)], [], s_X10_putInOrder_3 a0 x1 h) Q
      refine WP.iincE (L' := [(12, a0), (0, x1 + 1), (0, s_X10_putInOrder_1 a0 x1 h)]) rfl rfl o19 rfl ?_
      refine WP.goto rfl ?_
      exact kk [(0, s_X10_putInOrder_1 a0 x1 h)] (x1 + 1, s_X10_putInOrder_3 a0 x1 h) (rfl)
  · intro hP hc
    generalize hs : (L_X10_putInOrder_2 a0 x1 h : Int × pH) = s at kk
    change P_X10_putInOrder_2 a0 (L_X10_putInOrder_2 a0 x1 h).1 (L_X10_putInOrder_2 a0 x1 h).2 at hP
    change ¬ C_X10_putInOrder_2 a0 (L_X10_putInOrder_2 a0 x1 h).1 (L_X10_putInOrder_2 a0 x1 h).2 at hc
    intro us
    show WP 80 (2, [(12, a0), (0, (L_X10_putInOrder_2 a0 x1 h).1), us.getD 0 pU], [], (L_X10_putInOrder_2 a0 x1 h).2) Q
    rw [hs] at hP hc ⊢
    obtain ⟨x1, h⟩ := s
    change P_X10_putInOrder_2 a0 x1 h at hP
    change ¬ (x1 < h a0 15) at hc
    unfold P_X10_putInOrder_2 at hP
    show WP 80 (2, [(12, a0), (0, x1), us.getD 0 pU], [], h) Q
    refine WP.iload_n rfl rfl ?_
    refine WP.aload_n rfl rfl ⟨by decide, by decide⟩ ?_
    refine WP.getI rfl rfl ?_
    refine WP.ni_ge rfl (fun c1 => ?_) (fun c1 => ?_)
    · exact kk [us.getD 0 pU]
    · exact absurd (show x1 < h a0 15 from c1) hc
noncomputable def H_X10_putInOrder (a0 : Int) (h : pH) : pH := (L_X10_putInOrder_2 a0 0 h).2
noncomputable def P_X10_putInOrder (a0 : Int) (h : pH) : Prop := O_X10_putInOrder_2 a0 0 h
set_option maxHeartbeats 4000000 in
theorem w_X10_putInOrder (a0 : Int) (h : pH) {Q : Option pV → pH → Prop} (hp : P_X10_putInOrder a0 h) (kk : Q (none) (H_X10_putInOrder a0 h)) : WP 80 (0, [(12, a0), pU, pU], [], h) Q := by
  unfold P_X10_putInOrder at hp
  have o20 := hp
  refine WP.iconst rfl ?_
  refine WP.istore_n (L' := [(12, a0), (0, 0), pU]) rfl rfl ?_
  refine lp_X10_putInOrder_2 a0 0 h o20 (fun us21 => ?_) [pU]
  show WP 80 (39, [(12, a0), (0, (L_X10_putInOrder_2 a0 0 h).1), us21.getD 0 pU], [], (L_X10_putInOrder_2 a0 0 h).2) Q
  refine WP.retv rfl ?_; exact kk
theorem c_X10_putInOrder (a0 : Int) (h : pH) (hp : P_X10_putInOrder a0 h) : CP 80 [(12, a0)] h (fun r h1 => r = none ∧ h1 = H_X10_putInOrder a0 h) := w_X10_putInOrder a0 h hp ⟨rfl, rfl⟩
noncomputable def F_X11_heat (a1 : Int) (a2 : Int) (h : pH) : Int := if 0 ≤ a1 ∧ a1 ≤ 11 then if 0 ≤ a2 ∧ a2 ≤ 100000 then h 3 a1 else (-2000000000) else (-2000000000)
noncomputable def H_X11_heat (a1 : Int) (a2 : Int) (h : pH) : pH := if 0 ≤ a1 ∧ a1 ≤ 11 then if 0 ≤ a2 ∧ a2 ≤ 100000 then pm_upd h 3 a1 a2 else h else h
noncomputable def P_X11_heat (a1 : Int) (a2 : Int) (h : pH) : Prop := ((0 ≤ a1 ∧ a1 ≤ 11) → (((0 ≤ a2 ∧ a2 ≤ 100000) → ((0 ≤ a1 ∧ a1 < 12)))))
set_option maxHeartbeats 4000000 in
theorem w_X11_heat (a1 : Int) (a2 : Int) (h : pH) {Q : Option pV → pH → Prop} (hp : P_X11_heat a1 a2 h) (kk : Q (some (0, F_X11_heat a1 a2 h)) (H_X11_heat a1 a2 h)) : WP 97 (0, [(13, 0), (0, a1), (0, a2), pU], [], h) Q := by
  unfold P_X11_heat at hp
  have q5 := hp
  refine WP.iload_n rfl rfl ?_
  refine WP.callF (c_X11_isCell a1 h) rfl rfl (pm_cok rfl rfl (Or.inl rfl) rfl rfl) rfl rfl ?_
  show WP 97 (2, [(13, 0), (0, a1), (0, a2), pU], [(0, if 0 ≤ a1 ∧ a1 ≤ 11 then 1 else 0)], h) Q
  refine WP.nb_eq rfl (fun c1 => ?_) (fun c1 => ?_)
  · refine WP.ldc rfl ?_
    refine WP.reti rfl ?_; have e := kk; simp only [F_X11_heat, H_X11_heat, if_neg (c1)] at e ⊢; exact e
  · have q4 := q5 c1
    refine WP.iload_n rfl rfl ?_
    refine WP.iconst rfl ?_
    refine WP.ldc rfl ?_
    refine WP.callF (c_X11_within a2 0 100000 h) rfl rfl (pm_cok rfl rfl (Or.inl rfl) rfl rfl) rfl rfl ?_
    show WP 97 (7, [(13, 0), (0, a1), (0, a2), pU], [(0, if 0 ≤ a2 ∧ a2 ≤ 100000 then 1 else 0)], h) Q
    refine WP.nb_ne rfl (fun c2 => ?_) (fun c2 => ?_)
    · have o3 := q4 c2
      refine WP.aload_n rfl rfl ⟨by decide, by decide⟩ ?_
      refine WP.getRF (b := 1) rfl rfl rfl ?_
      refine WP.getRF (b := 2) rfl rfl rfl ?_
      refine WP.getRF (b := 3) rfl rfl rfl ?_
      refine WP.iload_n rfl rfl ?_
      refine WP.iaload rfl ⟨by decide, by decide, by decide⟩ o3 ?_
      refine WP.istore_n (L' := [(13, 0), (0, a1), (0, a2), (0, h 3 a1)]) rfl rfl ?_
      refine WP.aload_n rfl rfl ⟨by decide, by decide⟩ ?_
      refine WP.getRF (b := 1) rfl rfl rfl ?_
      refine WP.getRF (b := 2) rfl rfl rfl ?_
      refine WP.getRF (b := 3) rfl rfl rfl ?_
      refine WP.iload_n rfl rfl ?_
      refine WP.iload_n rfl rfl ?_
      refine WP.iastore rfl ⟨by decide, by decide, by decide⟩ o3 ?_
      refine WP.iload_n rfl rfl ?_
      refine WP.reti rfl ?_; have e := kk; simp only [F_X11_heat, H_X11_heat, if_pos c1, if_pos c2] at e ⊢; exact e
    · refine WP.ldc rfl ?_
      refine WP.reti rfl ?_; have e := kk; simp only [F_X11_heat, H_X11_heat, if_pos c1, if_neg (c2)] at e ⊢; exact e
theorem c_X11_heat (a1 : Int) (a2 : Int) (h : pH) (hp : P_X11_heat a1 a2 h) : CP 97 [(13, 0), (0, a1), (0, a2)] h (fun r h1 => r = some (0, F_X11_heat a1 a2 h) ∧ h1 = H_X11_heat a1 a2 h) := w_X11_heat a1 a2 h hp ⟨rfl, rfl⟩
noncomputable def F_X11_cooler (a1 : Int) (a2 : Int) (a3 : Int) (h : pH) : Int := if 0 ≤ a1 ∧ a1 ≤ 11 then if 0 ≤ a2 ∧ a2 ≤ 10000 then if 0 ≤ a3 ∧ a3 ≤ 5000 then 1 else (-2) else (-2) else (-2)
noncomputable def H_X11_cooler (a1 : Int) (a2 : Int) (a3 : Int) (h : pH) : pH := if 0 ≤ a1 ∧ a1 ≤ 11 then if 0 ≤ a2 ∧ a2 ≤ 10000 then if 0 ≤ a3 ∧ a3 ≤ 5000 then pm_upd (pm_upd h 4 a1 a2) 5 a1 a3 else h else h else h
noncomputable def P_X11_cooler (a1 : Int) (a2 : Int) (a3 : Int) (h : pH) : Prop := ((0 ≤ a1 ∧ a1 ≤ 11) → (((0 ≤ a2 ∧ a2 ≤ 10000) → (((0 ≤ a3 ∧ a3 ≤ 5000) → ((0 ≤ a1 ∧ a1 < 12)))))))
set_option maxHeartbeats 4000000 in
theorem w_X11_cooler (a1 : Int) (a2 : Int) (a3 : Int) (h : pH) {Q : Option pV → pH → Prop} (hp : P_X11_cooler a1 a2 a3 h) (kk : Q (some (0, F_X11_cooler a1 a2 a3 h)) (H_X11_cooler a1 a2 a3 h)) : WP 98 (0, [(13, 0), (0, a1), (0, a2), (0, a3)], [], h) Q := by
  unfold P_X11_cooler at hp
  have q7 := hp
  refine WP.iload_n rfl rfl ?_
  refine WP.callF (c_X11_isCell a1 h) rfl rfl (pm_cok rfl rfl (Or.inl rfl) rfl rfl) rfl rfl ?_
  show WP 98 (2, [(13, 0), (0, a1), (0, a2), (0, a3)], [(0, if 0 ≤ a1 ∧ a1 ≤ 11 then 1 else 0)], h) Q
  refine WP.nb_eq rfl (fun c1 => ?_) (fun c1 => ?_)
  · refine WP.bipush rfl ?_
    refine WP.reti rfl ?_; have e := kk; simp only [F_X11_cooler, H_X11_cooler, if_neg (c1)] at e ⊢; exact e
  · have q6 := q7 c1
    refine WP.iload_n rfl rfl ?_
    refine WP.iconst rfl ?_
    refine WP.sipush rfl ?_
    refine WP.callF (c_X11_within a2 0 10000 h) rfl rfl (pm_cok rfl rfl (Or.inl rfl) rfl rfl) rfl rfl ?_
    show WP 98 (7, [(13, 0), (0, a1), (0, a2), (0, a3)], [(0, if 0 ≤ a2 ∧ a2 ≤ 10000 then 1 else 0)], h) Q
    refine WP.nb_eq rfl (fun c2 => ?_) (fun c2 => ?_)
    · refine WP.bipush rfl ?_
      refine WP.reti rfl ?_; have e := kk; simp only [F_X11_cooler, H_X11_cooler, if_pos c1, if_neg (c2)] at e ⊢; exact e
    · have q5 := q6 c2
      refine WP.iload_n rfl rfl ?_
      refine WP.iconst rfl ?_
      refine WP.sipush rfl ?_
      refine WP.callF (c_X11_within a3 0 5000 h) rfl rfl (pm_cok rfl rfl (Or.inl rfl) rfl rfl) rfl rfl ?_
      show WP 98 (12, [(13, 0), (0, a1), (0, a2), (0, a3)], [(0, if 0 ≤ a3 ∧ a3 ≤ 5000 then 1 else 0)], h) Q
      refine WP.nb_ne rfl (fun c3 => ?_) (fun c3 => ?_)
      · have o4 := q5 c3
        refine WP.aload_n rfl rfl ⟨by decide, by decide⟩ ?_
        refine WP.getRF (b := 1) rfl rfl rfl ?_
        refine WP.getRF (b := 2) rfl rfl rfl ?_
        refine WP.getRF (b := 4) rfl rfl rfl ?_
        refine WP.iload_n rfl rfl ?_
        refine WP.iload_n rfl rfl ?_
        refine WP.iastore rfl ⟨by decide, by decide, by decide⟩ o4 ?_
        refine WP.aload_n rfl rfl ⟨by decide, by decide⟩ ?_
        refine WP.getRF (b := 1) rfl rfl rfl ?_
        refine WP.getRF (b := 2) rfl rfl rfl ?_
        refine WP.getRF (b := 5) rfl rfl rfl ?_
        refine WP.iload_n rfl rfl ?_
        refine WP.iload_n rfl rfl ?_
        refine WP.iastore rfl ⟨by decide, by decide, by decide⟩ o4 ?_
        refine WP.iconst rfl ?_
        refine WP.reti rfl ?_; have e := kk; simp only [F_X11_cooler, H_X11_cooler, if_pos c1, if_pos c2, if_pos c3] at e ⊢; exact e
      · refine WP.bipush rfl ?_
        refine WP.reti rfl ?_; have e := kk; simp only [F_X11_cooler, H_X11_cooler, if_pos c1, if_pos c2, if_neg (c3)] at e ⊢; exact e
theorem c_X11_cooler (a1 : Int) (a2 : Int) (a3 : Int) (h : pH) (hp : P_X11_cooler a1 a2 a3 h) : CP 98 [(13, 0), (0, a1), (0, a2), (0, a3)] h (fun r h1 => r = some (0, F_X11_cooler a1 a2 a3 h) ∧ h1 = H_X11_cooler a1 a2 a3 h) := w_X11_cooler a1 a2 a3 h hp ⟨rfl, rfl⟩
noncomputable def F_X11_machine (a1 : Int) (a2 : Int) (a3 : Int) (a4 : Int) (a5 : Int) (h : pH) : Int := if 0 ≤ a1 ∧ a1 ≤ 11 then if 0 ≤ a2 ∧ a2 ≤ 500 then if 0 ≤ a3 ∧ a3 ≤ 500 then if 1 ≤ a4 ∧ a4 ≤ 5000 then if 0 ≤ a5 ∧ a5 ≤ 3 then F_X6_add 8 a1 a2 a3 a4 a5 h else (-2) else (-2) else (-2) else (-2) else (-2)
noncomputable def H_X11_machine (a1 : Int) (a2 : Int) (a3 : Int) (a4 : Int) (a5 : Int) (h : pH) : pH := if 0 ≤ a1 ∧ a1 ≤ 11 then if 0 ≤ a2 ∧ a2 ≤ 500 then if 0 ≤ a3 ∧ a3 ≤ 500 then if 1 ≤ a4 ∧ a4 ≤ 5000 then if 0 ≤ a5 ∧ a5 ≤ 3 then H_X6_add 8 a1 a2 a3 a4 a5 h else h else h else h else h else h
noncomputable def P_X11_machine (a1 : Int) (a2 : Int) (a3 : Int) (a4 : Int) (a5 : Int) (h : pH) : Prop := ((0 ≤ a1 ∧ a1 ≤ 11) → (((0 ≤ a2 ∧ a2 ≤ 500) → (((0 ≤ a3 ∧ a3 ≤ 500) → (((1 ≤ a4 ∧ a4 ≤ 5000) → (((0 ≤ a5 ∧ a5 ≤ 3) → P_X6_add 8 a1 a2 a3 a4 a5 h)))))))))
set_option maxHeartbeats 4000000 in
theorem w_X11_machine (a1 : Int) (a2 : Int) (a3 : Int) (a4 : Int) (a5 : Int) (h : pH) {Q : Option pV → pH → Prop} (hp : P_X11_machine a1 a2 a3 a4 a5 h) (kk : Q (some (0, F_X11_machine a1 a2 a3 a4 a5 h)) (H_X11_machine a1 a2 a3 a4 a5 h)) : WP 99 (0, [(13, 0), (0, a1), (0, a2), (0, a3), (0, a4), (0, a5)], [], h) Q := by
  unfold P_X11_machine at hp
  have q11 := hp
  refine WP.iload_n rfl rfl ?_
  refine WP.callF (c_X11_isCell a1 h) rfl rfl (pm_cok rfl rfl (Or.inl rfl) rfl rfl) rfl rfl ?_
  show WP 99 (2, [(13, 0), (0, a1), (0, a2), (0, a3), (0, a4), (0, a5)], [(0, if 0 ≤ a1 ∧ a1 ≤ 11 then 1 else 0)], h) Q
  refine WP.nb_eq rfl (fun c1 => ?_) (fun c1 => ?_)
  · refine WP.bipush rfl ?_
    refine WP.reti rfl ?_; have e := kk; simp only [F_X11_machine, H_X11_machine, if_neg (c1)] at e ⊢; exact e
  · have q10 := q11 c1
    refine WP.iload_n rfl rfl ?_
    refine WP.iconst rfl ?_
    refine WP.sipush rfl ?_
    refine WP.callF (c_X11_within a2 0 500 h) rfl rfl (pm_cok rfl rfl (Or.inl rfl) rfl rfl) rfl rfl ?_
    show WP 99 (7, [(13, 0), (0, a1), (0, a2), (0, a3), (0, a4), (0, a5)], [(0, if 0 ≤ a2 ∧ a2 ≤ 500 then 1 else 0)], h) Q
    refine WP.nb_eq rfl (fun c2 => ?_) (fun c2 => ?_)
    · refine WP.bipush rfl ?_
      refine WP.reti rfl ?_; have e := kk; simp only [F_X11_machine, H_X11_machine, if_pos c1, if_neg (c2)] at e ⊢; exact e
    · have q9 := q10 c2
      refine WP.iload_n rfl rfl ?_
      refine WP.iconst rfl ?_
      refine WP.sipush rfl ?_
      refine WP.callF (c_X11_within a3 0 500 h) rfl rfl (pm_cok rfl rfl (Or.inl rfl) rfl rfl) rfl rfl ?_
      show WP 99 (12, [(13, 0), (0, a1), (0, a2), (0, a3), (0, a4), (0, a5)], [(0, if 0 ≤ a3 ∧ a3 ≤ 500 then 1 else 0)], h) Q
      refine WP.nb_eq rfl (fun c3 => ?_) (fun c3 => ?_)
      · refine WP.bipush rfl ?_
        refine WP.reti rfl ?_; have e := kk; simp only [F_X11_machine, H_X11_machine, if_pos c1, if_pos c2, if_neg (c3)] at e ⊢; exact e
      · have q8 := q9 c3
        refine WP.iload rfl rfl ?_
        refine WP.iconst rfl ?_
        refine WP.sipush rfl ?_
        refine WP.callF (c_X11_within a4 1 5000 h) rfl rfl (pm_cok rfl rfl (Or.inl rfl) rfl rfl) rfl rfl ?_
        show WP 99 (17, [(13, 0), (0, a1), (0, a2), (0, a3), (0, a4), (0, a5)], [(0, if 1 ≤ a4 ∧ a4 ≤ 5000 then 1 else 0)], h) Q
        refine WP.nb_eq rfl (fun c4 => ?_) (fun c4 => ?_)
        · refine WP.bipush rfl ?_
          refine WP.reti rfl ?_; have e := kk; simp only [F_X11_machine, H_X11_machine, if_pos c1, if_pos c2, if_pos c3, if_neg (c4)] at e ⊢; exact e
        · have q7 := q8 c4
          refine WP.iload rfl rfl ?_
          refine WP.iconst rfl ?_
          refine WP.iconst rfl ?_
          refine WP.callF (c_X11_within a5 0 3 h) rfl rfl (pm_cok rfl rfl (Or.inl rfl) rfl rfl) rfl rfl ?_
          show WP 99 (22, [(13, 0), (0, a1), (0, a2), (0, a3), (0, a4), (0, a5)], [(0, if 0 ≤ a5 ∧ a5 ≤ 3 then 1 else 0)], h) Q
          refine WP.nb_ne rfl (fun c5 => ?_) (fun c5 => ?_)
          · have o6 := q7 c5
            refine WP.aload_n rfl rfl ⟨by decide, by decide⟩ ?_
            refine WP.getRF (b := 1) rfl rfl rfl ?_
            refine WP.getRF (b := 8) rfl rfl rfl ?_
            refine WP.iload_n rfl rfl ?_
            refine WP.iload_n rfl rfl ?_
            refine WP.iload_n rfl rfl ?_
            refine WP.iload rfl rfl ?_
            refine WP.iload rfl rfl ?_
            refine WP.callF (c_X6_add 8 a1 a2 a3 a4 a5 h o6) rfl rfl (pm_cok rfl rfl (Or.inr ⟨_, _, rfl⟩) rfl rfl) rfl rfl ?_
            show WP 99 (34, [(13, 0), (0, a1), (0, a2), (0, a3), (0, a4), (0, a5)], [(0, F_X6_add 8 a1 a2 a3 a4 a5 h)], H_X6_add 8 a1 a2 a3 a4 a5 h) Q
            refine WP.reti rfl ?_; have e := kk; simp only [F_X11_machine, H_X11_machine, if_pos c1, if_pos c2, if_pos c3, if_pos c4, if_pos c5] at e ⊢; exact e
          · refine WP.bipush rfl ?_
            refine WP.reti rfl ?_; have e := kk; simp only [F_X11_machine, H_X11_machine, if_pos c1, if_pos c2, if_pos c3, if_pos c4, if_neg (c5)] at e ⊢; exact e
theorem c_X11_machine (a1 : Int) (a2 : Int) (a3 : Int) (a4 : Int) (a5 : Int) (h : pH) (hp : P_X11_machine a1 a2 a3 a4 a5 h) : CP 99 [(13, 0), (0, a1), (0, a2), (0, a3), (0, a4), (0, a5)] h (fun r h1 => r = some (0, F_X11_machine a1 a2 a3 a4 a5 h) ∧ h1 = H_X11_machine a1 a2 a3 a4 a5 h) := w_X11_machine a1 a2 a3 a4 a5 h hp ⟨rfl, rfl⟩
noncomputable def s_X11_cell_1 (a1 : Int) (a2 : Int) (h : pH) : Int := if a2 = 0 then h 3 a1 else s_X0_gauge_1 2 a1 h
noncomputable def F_X11_cell (a1 : Int) (a2 : Int) (h : pH) : Int := if 0 ≤ a1 ∧ a1 ≤ 11 then if 0 ≤ a2 ∧ a2 ≤ 1 then s_X11_cell_1 a1 a2 h else (-2000000000) else (-2000000000)
noncomputable def P_X11_cell (a1 : Int) (a2 : Int) (h : pH) : Prop := ((0 ≤ a1 ∧ a1 ≤ 11) → (((0 ≤ a2 ∧ a2 ≤ 1) → (((((a2 = 0) → ((0 ≤ a1 ∧ a1 < 12))) ∧ ((¬ a2 = 0) → P_X0_gauge 2 a1 h)))))))
set_option maxHeartbeats 4000000 in
theorem w_X11_cell (a1 : Int) (a2 : Int) (h : pH) {Q : Option pV → pH → Prop} (hp : P_X11_cell a1 a2 h) (kk : Q (some (0, F_X11_cell a1 a2 h)) (h)) : WP 113 (0, [(13, 0), (0, a1), (0, a2)], [], h) Q := by
  unfold P_X11_cell at hp
  have q11 := hp
  refine WP.iload_n rfl rfl ?_
  refine WP.callF (c_X11_isCell a1 h) rfl rfl (pm_cok rfl rfl (Or.inl rfl) rfl rfl) rfl rfl ?_
  show WP 113 (2, [(13, 0), (0, a1), (0, a2)], [(0, if 0 ≤ a1 ∧ a1 ≤ 11 then 1 else 0)], h) Q
  refine WP.nb_eq rfl (fun c1 => ?_) (fun c1 => ?_)
  · refine WP.ldc rfl ?_
    refine WP.reti rfl ?_; have e := kk; simp only [F_X11_cell, if_neg (c1)] at e ⊢; exact e
  · have q10 := q11 c1
    refine WP.iload_n rfl rfl ?_
    refine WP.iconst rfl ?_
    refine WP.iconst rfl ?_
    refine WP.callF (c_X11_within a2 0 1 h) rfl rfl (pm_cok rfl rfl (Or.inl rfl) rfl rfl) rfl rfl ?_
    show WP 113 (7, [(13, 0), (0, a1), (0, a2)], [(0, if 0 ≤ a2 ∧ a2 ≤ 1 then 1 else 0)], h) Q
    refine WP.nb_ne rfl (fun c2 => ?_) (fun c2 => ?_)
    · have q9 := q10 c2
      refine WP.iload_n rfl rfl ?_
      have k3 : ∀ Q' : Option pV → pH → Prop, (WP 113 (24, [(13, 0), (0, a1), (0, a2)], [(0, s_X11_cell_1 a1 a2 h)], h) Q') → WP 113 (11, [(13, 0), (0, a1), (0, a2)], [(0, a2)], h) Q' := fun Q' kk => by
        have q7 := q9
        refine WP.nz_ne rfl (fun c4 => ?_) (fun c4 => ?_)
        · have o6 := q7.2 c4
          refine WP.aload_n rfl rfl ⟨by decide, by decide⟩ ?_
          refine WP.getRF (b := 1) rfl rfl rfl ?_
          refine WP.getRF (b := 2) rfl rfl rfl ?_
          refine WP.iload_n rfl rfl ?_
          refine WP.callF (c_X0_gauge 2 a1 h o6) rfl rfl (pm_cok rfl rfl (Or.inr ⟨_, _, rfl⟩) rfl rfl) rfl rfl ?_
          show WP 113 (24, [(13, 0), (0, a1), (0, a2)], [(0, s_X0_gauge_1 2 a1 h)], h) Q'
          have e := kk; simp only [s_X11_cell_1, if_neg (c4)] at e ⊢; exact e
        · have o5 := q7.1 c4
          refine WP.aload_n rfl rfl ⟨by decide, by decide⟩ ?_
          refine WP.getRF (b := 1) rfl rfl rfl ?_
          refine WP.getRF (b := 2) rfl rfl rfl ?_
          refine WP.getRF (b := 3) rfl rfl rfl ?_
          refine WP.iload_n rfl rfl ?_
          refine WP.iaload rfl ⟨by decide, by decide, by decide⟩ o5 ?_
          refine WP.goto rfl ?_
          have e := kk; simp only [s_X11_cell_1, if_pos c4] at e ⊢; exact e
      refine k3 _ ?_
      refine WP.reti rfl ?_; have e := kk; simp only [F_X11_cell, if_pos c1, if_pos c2] at e ⊢; exact e
    · refine WP.ldc rfl ?_
      refine WP.reti rfl ?_; have e := kk; simp only [F_X11_cell, if_pos c1, if_neg (c2)] at e ⊢; exact e
theorem c_X11_cell (a1 : Int) (a2 : Int) (h : pH) (hp : P_X11_cell a1 a2 h) : CP 113 [(13, 0), (0, a1), (0, a2)] h (fun r h1 => r = some (0, F_X11_cell a1 a2 h) ∧ h1 = h) := w_X11_cell a1 a2 h hp ⟨rfl, rfl⟩
noncomputable def F_X11_of (a1 : Int) (a2 : Int) (h : pH) : Int := F_X6_tell 8 a1 a2 h
noncomputable def P_X11_of (a1 : Int) (a2 : Int) (h : pH) : Prop := P_X6_tell 8 a1 a2 h
set_option maxHeartbeats 4000000 in
theorem w_X11_of (a1 : Int) (a2 : Int) (h : pH) {Q : Option pV → pH → Prop} (hp : P_X11_of a1 a2 h) (kk : Q (some (0, F_X11_of a1 a2 h)) (h)) : WP 114 (0, [(13, 0), (0, a1), (0, a2)], [], h) Q := by
  unfold P_X11_of at hp
  have o1 := hp
  refine WP.aload_n rfl rfl ⟨by decide, by decide⟩ ?_
  refine WP.getRF (b := 1) rfl rfl rfl ?_
  refine WP.getRF (b := 8) rfl rfl rfl ?_
  refine WP.iload_n rfl rfl ?_
  refine WP.iload_n rfl rfl ?_
  refine WP.callF (c_X6_tell 8 a1 a2 h o1) rfl rfl (pm_cok rfl rfl (Or.inr ⟨_, _, rfl⟩) rfl rfl) rfl rfl ?_
  show WP 114 (6, [(13, 0), (0, a1), (0, a2)], [(0, F_X6_tell 8 a1 a2 h)], h) Q
  refine WP.reti rfl ?_; exact kk
theorem c_X11_of (a1 : Int) (a2 : Int) (h : pH) (hp : P_X11_of a1 a2 h) : CP 114 [(13, 0), (0, a1), (0, a2)] h (fun r h1 => r = some (0, F_X11_of a1 a2 h) ∧ h1 = h) := w_X11_of a1 a2 h hp ⟨rfl, rfl⟩
noncomputable def F_X11_work (a1 : Int) (a2 : Int) (h : pH) : Int := F_X10_tell 22 a1 a2 h
noncomputable def P_X11_work (a1 : Int) (a2 : Int) (h : pH) : Prop := P_X10_tell 22 a1 a2 h
set_option maxHeartbeats 4000000 in
theorem w_X11_work (a1 : Int) (a2 : Int) (h : pH) {Q : Option pV → pH → Prop} (hp : P_X11_work a1 a2 h) (kk : Q (some (0, F_X11_work a1 a2 h)) (h)) : WP 115 (0, [(13, 0), (0, a1), (0, a2)], [], h) Q := by
  unfold P_X11_work at hp
  have o1 := hp
  refine WP.aload_n rfl rfl ⟨by decide, by decide⟩ ?_
  refine WP.getRF (b := 1) rfl rfl rfl ?_
  refine WP.getRF (b := 22) rfl rfl rfl ?_
  refine WP.iload_n rfl rfl ?_
  refine WP.iload_n rfl rfl ?_
  refine WP.callF (c_X10_tell 22 a1 a2 h o1) rfl rfl (pm_cok rfl rfl (Or.inr ⟨_, _, rfl⟩) rfl rfl) rfl rfl ?_
  show WP 115 (6, [(13, 0), (0, a1), (0, a2)], [(0, F_X10_tell 22 a1 a2 h)], h) Q
  refine WP.reti rfl ?_; exact kk
theorem c_X11_work (a1 : Int) (a2 : Int) (h : pH) (hp : P_X11_work a1 a2 h) : CP 115 [(13, 0), (0, a1), (0, a2)] h (fun r h1 => r = some (0, F_X11_work a1 a2 h) ∧ h1 = h) := w_X11_work a1 a2 h hp ⟨rfl, rfl⟩
noncomputable def s_X11_bill_1 (a1 : Int) (h : pH) : Int := if 0 ≤ a1 ∧ a1 ≤ 7 then F_X10_billOf 22 a1 h else (-100000000)
noncomputable def F_X11_bill (a1 : Int) (h : pH) : Int := s_X11_bill_1 a1 h
noncomputable def P_X11_bill (a1 : Int) (h : pH) : Prop := (((0 ≤ a1 ∧ a1 ≤ 7) → P_X10_billOf 22 a1 h))
set_option maxHeartbeats 4000000 in
theorem w_X11_bill (a1 : Int) (h : pH) {Q : Option pV → pH → Prop} (hp : P_X11_bill a1 h) (kk : Q (some (0, F_X11_bill a1 h)) (h)) : WP 126 (0, [(13, 0), (0, a1)], [], h) Q := by
  unfold P_X11_bill at hp
  have q6 := hp
  refine WP.iload_n rfl rfl ?_
  refine WP.callF (c_X11_isHouse a1 h) rfl rfl (pm_cok rfl rfl (Or.inl rfl) rfl rfl) rfl rfl ?_
  show WP 126 (2, [(13, 0), (0, a1)], [(0, if 0 ≤ a1 ∧ a1 ≤ 7 then 1 else 0)], h) Q
  have k1 : ∀ Q' : Option pV → pH → Prop, (WP 126 (10, [(13, 0), (0, a1)], [(0, s_X11_bill_1 a1 h)], h) Q') → WP 126 (2, [(13, 0), (0, a1)], [(0, if 0 ≤ a1 ∧ a1 ≤ 7 then 1 else 0)], h) Q' := fun Q' kk => by
    have q4 := q6
    refine WP.nb_eq rfl (fun c2 => ?_) (fun c2 => ?_)
    · refine WP.ldc_w rfl ?_
      have e := kk; simp only [s_X11_bill_1, if_neg (c2)] at e ⊢; exact e
    · have o3 := q4 c2
      refine WP.aload_n rfl rfl ⟨by decide, by decide⟩ ?_
      refine WP.getRF (b := 1) rfl rfl rfl ?_
      refine WP.getRF (b := 22) rfl rfl rfl ?_
      refine WP.iload_n rfl rfl ?_
      refine WP.callF (c_X10_billOf 22 a1 h o3) rfl rfl (pm_cok rfl rfl (Or.inr ⟨_, _, rfl⟩) rfl rfl) rfl rfl ?_
      show WP 126 (8, [(13, 0), (0, a1)], [(0, F_X10_billOf 22 a1 h)], h) Q'
      refine WP.goto rfl ?_
      have e := kk; simp only [s_X11_bill_1, if_pos c2] at e ⊢; exact e
  refine k1 _ ?_
  refine WP.reti rfl ?_; exact kk
theorem c_X11_bill (a1 : Int) (h : pH) (hp : P_X11_bill a1 h) : CP 126 [(13, 0), (0, a1)] h (fun r h1 => r = some (0, F_X11_bill a1 h) ∧ h1 = h) := w_X11_bill a1 h hp ⟨rfl, rfl⟩
noncomputable def F_X11_image (a1 : Int) (h : pH) : Int := if 0 ≤ a1 ∧ a1 ≤ 1 then 1 else (-2)
noncomputable def H_X11_image (a1 : Int) (h : pH) : pH := if 0 ≤ a1 ∧ a1 ≤ 1 then pm_upd (H_X4_copyFrom (156 + 46 * a1) 1 h) 94 a1 1 else h
noncomputable def P_X11_image (a1 : Int) (h : pH) : Prop := ((0 ≤ a1 ∧ a1 ≤ 1) → ((0 ≤ a1 ∧ a1 < 2)))
set_option maxHeartbeats 4000000 in
theorem w_X11_image (a1 : Int) (h : pH) {Q : Option pV → pH → Prop} (hp : P_X11_image a1 h) (kk : Q (some (0, F_X11_image a1 h)) (H_X11_image a1 h)) : WP 131 (0, [(13, 0), (0, a1)], [], h) Q := by
  unfold P_X11_image at hp
  have q3 := hp
  refine WP.iload_n rfl rfl ?_
  refine WP.iconst rfl ?_
  refine WP.iconst rfl ?_
  refine WP.callF (c_X11_within a1 0 1 h) rfl rfl (pm_cok rfl rfl (Or.inl rfl) rfl rfl) rfl rfl ?_
  show WP 131 (4, [(13, 0), (0, a1)], [(0, if 0 ≤ a1 ∧ a1 ≤ 1 then 1 else 0)], h) Q
  refine WP.nb_ne rfl (fun c1 => ?_) (fun c1 => ?_)
  · have o2 := q3 c1
    refine WP.aload_n rfl rfl ⟨by decide, by decide⟩ ?_
    refine WP.getRF (b := 93) rfl rfl rfl ?_
    refine WP.iload_n rfl rfl ?_
    refine WP.aaload rfl ⟨by decide, by decide, by decide⟩ o2 ?_
    refine WP.aload_n rfl rfl ⟨by decide, by decide⟩ ?_
    refine WP.getRF (b := 1) rfl rfl rfl ?_
    refine WP.callF (c_X4_copyFrom (156 + 46 * a1) 1 h) rfl rfl (pm_cok rfl rfl (Or.inr ⟨_, _, rfl⟩) rfl rfl) rfl rfl ?_
    show WP 131 (14, [(13, 0), (0, a1)], [], H_X4_copyFrom (156 + 46 * a1) 1 h) Q
    refine WP.aload_n rfl rfl ⟨by decide, by decide⟩ ?_
    refine WP.getRF (b := 94) rfl rfl rfl ?_
    refine WP.iload_n rfl rfl ?_
    refine WP.iconst rfl ?_
    refine WP.bastore rfl ⟨by decide, by decide, by decide⟩ o2 (by decide) ?_
    refine WP.iconst rfl ?_
    refine WP.reti rfl ?_; have e := kk; simp only [F_X11_image, H_X11_image, if_pos c1] at e ⊢; exact e
  · refine WP.bipush rfl ?_
    refine WP.reti rfl ?_; have e := kk; simp only [F_X11_image, H_X11_image, if_neg (c1)] at e ⊢; exact e
theorem c_X11_image (a1 : Int) (h : pH) (hp : P_X11_image a1 h) : CP 131 [(13, 0), (0, a1)] h (fun r h1 => r = some (0, F_X11_image a1 h) ∧ h1 = H_X11_image a1 h) := w_X11_image a1 h hp ⟨rfl, rfl⟩
noncomputable def F_X11_from (a1 : Int) (h : pH) : Int := if 0 ≤ a1 ∧ a1 ≤ 1 then if h 94 a1 = 0 then (-3) else 1 else (-2)
noncomputable def H_X11_from (a1 : Int) (h : pH) : pH := if 0 ≤ a1 ∧ a1 ≤ 1 then if h 94 a1 = 0 then h else H_X4_copyFrom 1 (156 + 46 * a1) h else h
noncomputable def P_X11_from (a1 : Int) (h : pH) : Prop := ((0 ≤ a1 ∧ a1 ≤ 1) → ((0 ≤ a1 ∧ a1 < 2)))
set_option maxHeartbeats 4000000 in
theorem w_X11_from (a1 : Int) (h : pH) {Q : Option pV → pH → Prop} (hp : P_X11_from a1 h) (kk : Q (some (0, F_X11_from a1 h)) (H_X11_from a1 h)) : WP 132 (0, [(13, 0), (0, a1)], [], h) Q := by
  unfold P_X11_from at hp
  have q4 := hp
  refine WP.iload_n rfl rfl ?_
  refine WP.iconst rfl ?_
  refine WP.iconst rfl ?_
  refine WP.callF (c_X11_within a1 0 1 h) rfl rfl (pm_cok rfl rfl (Or.inl rfl) rfl rfl) rfl rfl ?_
  show WP 132 (4, [(13, 0), (0, a1)], [(0, if 0 ≤ a1 ∧ a1 ≤ 1 then 1 else 0)], h) Q
  refine WP.nb_ne rfl (fun c1 => ?_) (fun c1 => ?_)
  · have o2 := q4 c1
    refine WP.aload_n rfl rfl ⟨by decide, by decide⟩ ?_
    refine WP.getRF (b := 94) rfl rfl rfl ?_
    refine WP.iload_n rfl rfl ?_
    refine WP.baload rfl ⟨by decide, by decide, by decide⟩ o2 ?_
    refine WP.nz_ne rfl (fun c3 => ?_) (fun c3 => ?_)
    · refine WP.aload_n rfl rfl ⟨by decide, by decide⟩ ?_
      refine WP.getRF (b := 1) rfl rfl rfl ?_
      refine WP.aload_n rfl rfl ⟨by decide, by decide⟩ ?_
      refine WP.getRF (b := 93) rfl rfl rfl ?_
      refine WP.iload_n rfl rfl ?_
      refine WP.aaload rfl ⟨by decide, by decide, by decide⟩ o2 ?_
      refine WP.callF (c_X4_copyFrom 1 (156 + 46 * a1) h) rfl rfl (pm_cok rfl rfl (Or.inr ⟨_, _, rfl⟩) rfl rfl) rfl rfl ?_
      show WP 132 (21, [(13, 0), (0, a1)], [], H_X4_copyFrom 1 (156 + 46 * a1) h) Q
      refine WP.iconst rfl ?_
      refine WP.reti rfl ?_; have e := kk; simp only [F_X11_from, H_X11_from, if_pos c1, if_neg (c3)] at e ⊢; exact e
    · refine WP.bipush rfl ?_
      refine WP.reti rfl ?_; have e := kk; simp only [F_X11_from, H_X11_from, if_pos c1, if_pos c3] at e ⊢; exact e
  · refine WP.bipush rfl ?_
    refine WP.reti rfl ?_; have e := kk; simp only [F_X11_from, H_X11_from, if_neg (c1)] at e ⊢; exact e
theorem c_X11_from (a1 : Int) (h : pH) (hp : P_X11_from a1 h) : CP 132 [(13, 0), (0, a1)] h (fun r h1 => r = some (0, F_X11_from a1 h) ∧ h1 = H_X11_from a1 h) := w_X11_from a1 h hp ⟨rfl, rfl⟩
def C_X11_digest_4 (h : pH) (x1 : Int) (x3 : Int) : Prop := x3 ≤ 6
noncomputable def B_X11_digest_4 (h : pH) (x1 : Int) (x3 : Int) : Int × Int := (pm_wl ((pm_wl (31 * x1)) + (F_X11_count x3 h)), x3 + 1)
noncomputable def P_X11_digest_4 (h : pH) (x1 : Int) (x3 : Int) : Prop := ((x3 ≤ 6) → P_X11_count x3 h ∧ (fx_i (x3 + 1)))
noncomputable def L_X11_digest_4 (h : pH) (x1 : Int) (x3 : Int) : Int × Int := fx_wh (σ := Int × Int) (fun s => C_X11_digest_4 h s.1 s.2) (fun s => B_X11_digest_4 h s.1 s.2) (x1, x3)
def O_X11_digest_4 (h : pH) (x1 : Int) (x3 : Int) : Prop := fx_ok (σ := Int × Int) (fun s => C_X11_digest_4 h s.1 s.2) (fun s => B_X11_digest_4 h s.1 s.2) (fun s => P_X11_digest_4 h s.1 s.2) (x1, x3)
set_option maxHeartbeats 4000000 in
theorem lp_X11_digest_4 (h : pH) (x1 : Int) (x3 : Int) {Q : Option pV → pH → Prop} (hp : O_X11_digest_4 h x1 x3) (kk : ∀ us : List pV, WP 134 (18, [(13, 0), (1, (L_X11_digest_4 h x1 x3).1), pU, (0, (L_X11_digest_4 h x1 x3).2), us.getD 0 pU], [], h) Q) : ∀ us : List pV, WP 134 (4, [(13, 0), (1, x1), pU, (0, x3), us.getD 0 pU], [], h) Q := by
  refine WP.wh (σ := Int × Int) (fun s => C_X11_digest_4 h s.1 s.2) (fun s => B_X11_digest_4 h s.1 s.2) (fun s => P_X11_digest_4 h s.1 s.2) (fun s us => (4, [(13, 0), (1, s.1), pU, (0, s.2), us.getD 0 pU], [], h)) (x1, x3) hp ?_ ?_
  · intro s us hP hc kk
    obtain ⟨x1, x3⟩ := s
    change P_X11_digest_4 h x1 x3 at hP
    change x3 ≤ 6 at hc
    replace kk : ∀ (us' : List pV) (s' : Int × Int), s' = B_X11_digest_4 h x1 x3 → WP 134 (4, [(13, 0), (1, s'.1), pU, (0, s'.2), us'.getD 0 pU], [], h) Q := fun us' s' e => by subst e; exact kk us'
    unfold P_X11_digest_4 at hP
    obtain ⟨o3, o4⟩ := hP hc
    show WP 134 (4, [(13, 0), (1, x1), pU, (0, x3), us.getD 0 pU], [], h) Q
    refine WP.iload_n rfl rfl ?_
    refine WP.bipush rfl ?_
    refine WP.ni_gt rfl (fun c2 => ?_) (fun c2 => ?_)
    · exact absurd hc (Int.not_le.mpr c2)
    · refine WP.ldc2_w rfl ?_
      refine WP.lload_n rfl rfl ?_
      refine WP.lmul rfl ?_
      refine WP.aload_n rfl rfl ⟨by decide, by decide⟩ ?_
      refine WP.iload_n rfl rfl ?_
      refine WP.callF (c_X11_count x3 h o3) rfl rfl (pm_cok rfl rfl (Or.inr ⟨_, _, rfl⟩) rfl rfl) rfl rfl ?_
      show WP 134 (13, [(13, 0), (1, x1), pU, (0, x3), us.getD 0 pU], [(0, F_X11_count x3 h), (1, pm_wl (31 * x1))], h) Q
      refine WP.i2l rfl ?_
      refine WP.ladd rfl ?_
      refine WP.lstore_n (L' := [(13, 0), (1, pm_wl ((pm_wl (31 * x1)) + (F_X11_count x3 h))), pU, (0, x3), us.getD 0 pU]) rfl rfl ?_
      refine WP.iincE (L' := [(13, 0), (1, pm_wl ((pm_wl (31 * x1)) + (F_X11_count x3 h))), pU, (0, x3 + 1), us.getD 0 pU]) rfl rfl o4 rfl ?_
      refine WP.goto rfl ?_
      exact kk [us.getD 0 pU] (pm_wl ((pm_wl (31 * x1)) + (F_X11_count x3 h)), x3 + 1) (rfl)
  · intro hP hc
    generalize hs : (L_X11_digest_4 h x1 x3 : Int × Int) = s at kk
    change P_X11_digest_4 h (L_X11_digest_4 h x1 x3).1 (L_X11_digest_4 h x1 x3).2 at hP
    change ¬ C_X11_digest_4 h (L_X11_digest_4 h x1 x3).1 (L_X11_digest_4 h x1 x3).2 at hc
    intro us
    show WP 134 (4, [(13, 0), (1, (L_X11_digest_4 h x1 x3).1), pU, (0, (L_X11_digest_4 h x1 x3).2), us.getD 0 pU], [], h) Q
    rw [hs] at hP hc ⊢
    obtain ⟨x1, x3⟩ := s
    change P_X11_digest_4 h x1 x3 at hP
    change ¬ (x3 ≤ 6) at hc
    unfold P_X11_digest_4 at hP
    show WP 134 (4, [(13, 0), (1, x1), pU, (0, x3), us.getD 0 pU], [], h) Q
    refine WP.iload_n rfl rfl ?_
    refine WP.bipush rfl ?_
    refine WP.ni_gt rfl (fun c1 => ?_) (fun c1 => ?_)
    · exact kk [us.getD 0 pU]
    · exact absurd (show x3 ≤ 6 from c1) hc
def C_X11_digest_20 (h : pH) (x1 : Int) (x3 : Int) : Prop := x3 ≤ 7
noncomputable def B_X11_digest_20 (h : pH) (x1 : Int) (x3 : Int) : Int × Int := (pm_wl ((pm_wl (31 * x1)) + (F_X11_now x3 h)), x3 + 1)
noncomputable def P_X11_digest_20 (h : pH) (x1 : Int) (x3 : Int) : Prop := ((x3 ≤ 7) → P_X11_now x3 h ∧ (fx_i (x3 + 1)))
noncomputable def L_X11_digest_20 (h : pH) (x1 : Int) (x3 : Int) : Int × Int := fx_wh (σ := Int × Int) (fun s => C_X11_digest_20 h s.1 s.2) (fun s => B_X11_digest_20 h s.1 s.2) (x1, x3)
def O_X11_digest_20 (h : pH) (x1 : Int) (x3 : Int) : Prop := fx_ok (σ := Int × Int) (fun s => C_X11_digest_20 h s.1 s.2) (fun s => B_X11_digest_20 h s.1 s.2) (fun s => P_X11_digest_20 h s.1 s.2) (x1, x3)
set_option maxHeartbeats 4000000 in
theorem lp_X11_digest_20 (h : pH) (x1 : Int) (x3 : Int) {Q : Option pV → pH → Prop} (hp : O_X11_digest_20 h x1 x3) (kk : ∀ us : List pV, WP 134 (33, [(13, 0), (1, (L_X11_digest_20 h x1 x3).1), pU, (0, (L_X11_digest_20 h x1 x3).2), us.getD 0 pU], [], h) Q) : ∀ us : List pV, WP 134 (20, [(13, 0), (1, x1), pU, (0, x3), us.getD 0 pU], [], h) Q := by
  refine WP.wh (σ := Int × Int) (fun s => C_X11_digest_20 h s.1 s.2) (fun s => B_X11_digest_20 h s.1 s.2) (fun s => P_X11_digest_20 h s.1 s.2) (fun s us => (20, [(13, 0), (1, s.1), pU, (0, s.2), us.getD 0 pU], [], h)) (x1, x3) hp ?_ ?_
  · intro s us hP hc kk
    obtain ⟨x1, x3⟩ := s
    change P_X11_digest_20 h x1 x3 at hP
    change x3 ≤ 7 at hc
    replace kk : ∀ (us' : List pV) (s' : Int × Int), s' = B_X11_digest_20 h x1 x3 → WP 134 (20, [(13, 0), (1, s'.1), pU, (0, s'.2), us'.getD 0 pU], [], h) Q := fun us' s' e => by subst e; exact kk us'
    unfold P_X11_digest_20 at hP
    obtain ⟨o9, o10⟩ := hP hc
    show WP 134 (20, [(13, 0), (1, x1), pU, (0, x3), us.getD 0 pU], [], h) Q
    refine WP.iload_n rfl rfl ?_
    refine WP.bipush rfl ?_
    refine WP.ni_gt rfl (fun c8 => ?_) (fun c8 => ?_)
    · exact absurd hc (Int.not_le.mpr c8)
    · refine WP.ldc2_w rfl ?_
      refine WP.lload_n rfl rfl ?_
      refine WP.lmul rfl ?_
      refine WP.aload_n rfl rfl ⟨by decide, by decide⟩ ?_
      refine WP.iload_n rfl rfl ?_
      refine WP.callF (c_X11_now x3 h o9) rfl rfl (pm_cok rfl rfl (Or.inr ⟨_, _, rfl⟩) rfl rfl) rfl rfl ?_
      show WP 134 (29, [(13, 0), (1, x1), pU, (0, x3), us.getD 0 pU], [(1, F_X11_now x3 h), (1, pm_wl (31 * x1))], h) Q
      refine WP.ladd rfl ?_
      refine WP.lstore_n (L' := [(13, 0), (1, pm_wl ((pm_wl (31 * x1)) + (F_X11_now x3 h))), pU, (0, x3), us.getD 0 pU]) rfl rfl ?_
      refine WP.iincE (L' := [(13, 0), (1, pm_wl ((pm_wl (31 * x1)) + (F_X11_now x3 h))), pU, (0, x3 + 1), us.getD 0 pU]) rfl rfl o10 rfl ?_
      refine WP.goto rfl ?_
      exact kk [us.getD 0 pU] (pm_wl ((pm_wl (31 * x1)) + (F_X11_now x3 h)), x3 + 1) (rfl)
  · intro hP hc
    generalize hs : (L_X11_digest_20 h x1 x3 : Int × Int) = s at kk
    change P_X11_digest_20 h (L_X11_digest_20 h x1 x3).1 (L_X11_digest_20 h x1 x3).2 at hP
    change ¬ C_X11_digest_20 h (L_X11_digest_20 h x1 x3).1 (L_X11_digest_20 h x1 x3).2 at hc
    intro us
    show WP 134 (20, [(13, 0), (1, (L_X11_digest_20 h x1 x3).1), pU, (0, (L_X11_digest_20 h x1 x3).2), us.getD 0 pU], [], h) Q
    rw [hs] at hP hc ⊢
    obtain ⟨x1, x3⟩ := s
    change P_X11_digest_20 h x1 x3 at hP
    change ¬ (x3 ≤ 7) at hc
    unfold P_X11_digest_20 at hP
    show WP 134 (20, [(13, 0), (1, x1), pU, (0, x3), us.getD 0 pU], [], h) Q
    refine WP.iload_n rfl rfl ?_
    refine WP.bipush rfl ?_
    refine WP.ni_gt rfl (fun c7 => ?_) (fun c7 => ?_)
    · exact kk [us.getD 0 pU]
    · exact absurd (show x3 ≤ 7 from c7) hc
noncomputable def s_X11_digest_1 (h : pH) : Int := (L_X11_digest_20 h ((L_X11_digest_4 h 359 0).1) 0).1
noncomputable def s_X11_digest_2 (h : pH) : Int := (L_X11_digest_20 h ((L_X11_digest_4 h 359 0).1) 0).2
def C_X11_digest_35 (h : pH) (x1 : Int) (x3 : Int) : Prop := x3 < 12
noncomputable def B_X11_digest_35 (h : pH) (x1 : Int) (x3 : Int) : Int × Int := (pm_wl ((pm_wl (31 * (pm_wl ((pm_wl (31 * x1)) + (h 3 x3))))) + (s_X0_gauge_1 2 x3 h)), x3 + 1)
noncomputable def P_X11_digest_35 (h : pH) (x1 : Int) (x3 : Int) : Prop := ((x3 < 12) → (0 ≤ x3 ∧ x3 < 12) ∧ P_X0_gauge 2 x3 h ∧ (fx_i (x3 + 1)))
noncomputable def L_X11_digest_35 (h : pH) (x1 : Int) (x3 : Int) : Int × Int := fx_wh (σ := Int × Int) (fun s => C_X11_digest_35 h s.1 s.2) (fun s => B_X11_digest_35 h s.1 s.2) (x1, x3)
def O_X11_digest_35 (h : pH) (x1 : Int) (x3 : Int) : Prop := fx_ok (σ := Int × Int) (fun s => C_X11_digest_35 h s.1 s.2) (fun s => B_X11_digest_35 h s.1 s.2) (fun s => P_X11_digest_35 h s.1 s.2) (x1, x3)
set_option maxHeartbeats 4000000 in
theorem lp_X11_digest_35 (h : pH) (x1 : Int) (x3 : Int) {Q : Option pV → pH → Prop} (hp : O_X11_digest_35 h x1 x3) (kk : ∀ us : List pV, WP 134 (63, [(13, 0), (1, (L_X11_digest_35 h x1 x3).1), pU, (0, (L_X11_digest_35 h x1 x3).2), us.getD 0 pU], [], h) Q) : ∀ us : List pV, WP 134 (35, [(13, 0), (1, x1), pU, (0, x3), us.getD 0 pU], [], h) Q := by
  refine WP.wh (σ := Int × Int) (fun s => C_X11_digest_35 h s.1 s.2) (fun s => B_X11_digest_35 h s.1 s.2) (fun s => P_X11_digest_35 h s.1 s.2) (fun s us => (35, [(13, 0), (1, s.1), pU, (0, s.2), us.getD 0 pU], [], h)) (x1, x3) hp ?_ ?_
  · intro s us hP hc kk
    obtain ⟨x1, x3⟩ := s
    change P_X11_digest_35 h x1 x3 at hP
    change x3 < 12 at hc
    replace kk : ∀ (us' : List pV) (s' : Int × Int), s' = B_X11_digest_35 h x1 x3 → WP 134 (35, [(13, 0), (1, s'.1), pU, (0, s'.2), us'.getD 0 pU], [], h) Q := fun us' s' e => by subst e; exact kk us'
    unfold P_X11_digest_35 at hP
    obtain ⟨o15, o16, o17⟩ := hP hc
    show WP 134 (35, [(13, 0), (1, x1), pU, (0, x3), us.getD 0 pU], [], h) Q
    refine WP.iload_n rfl rfl ?_
    refine WP.bipush rfl ?_
    refine WP.ni_ge rfl (fun c14 => ?_) (fun c14 => ?_)
    · exact absurd hc (Int.not_lt.mpr c14)
    · refine WP.ldc2_w rfl ?_
      refine WP.lload_n rfl rfl ?_
      refine WP.lmul rfl ?_
      refine WP.aload_n rfl rfl ⟨by decide, by decide⟩ ?_
      refine WP.getRF (b := 1) rfl rfl rfl ?_
      refine WP.getRF (b := 2) rfl rfl rfl ?_
      refine WP.getRF (b := 3) rfl rfl rfl ?_
      refine WP.iload_n rfl rfl ?_
      refine WP.iaload rfl ⟨by decide, by decide, by decide⟩ o15 ?_
      refine WP.i2l rfl ?_
      refine WP.ladd rfl ?_
      refine WP.lstore_n (L' := [(13, 0), (1, pm_wl ((pm_wl (31 * x1)) + (h 3 x3))), pU, (0, x3), us.getD 0 pU]) rfl rfl ?_
      refine WP.ldc2_w rfl ?_
      refine WP.lload_n rfl rfl ?_
      refine WP.lmul rfl ?_
      refine WP.aload_n rfl rfl ⟨by decide, by decide⟩ ?_
      refine WP.getRF (b := 1) rfl rfl rfl ?_
      refine WP.getRF (b := 2) rfl rfl rfl ?_
      refine WP.iload_n rfl rfl ?_
      refine WP.callF (c_X0_gauge 2 x3 h o16) rfl rfl (pm_cok rfl rfl (Or.inr ⟨_, _, rfl⟩) rfl rfl) rfl rfl ?_
      show WP 134 (58, [(13, 0), (1, pm_wl ((pm_wl (31 * x1)) + (h 3 x3))), pU, (0, x3), us.getD 0 pU], [(0, s_X0_gauge_1 2 x3 h), (1, pm_wl (31 * (pm_wl ((pm_wl (31 * x1)) + (h 3 x3)))))], h) Q
      refine WP.i2l rfl ?_
      refine WP.ladd rfl ?_
      refine WP.lstore_n (L' := [(13, 0), (1, pm_wl ((pm_wl (31 * (pm_wl ((pm_wl (31 * x1)) + (h 3 x3))))) + (s_X0_gauge_1 2 x3 h))), pU, (0, x3), us.getD 0 pU]) rfl rfl ?_
      refine WP.iincE (L' := [(13, 0), (1, pm_wl ((pm_wl (31 * (pm_wl ((pm_wl (31 * x1)) + (h 3 x3))))) + (s_X0_gauge_1 2 x3 h))), pU, (0, x3 + 1), us.getD 0 pU]) rfl rfl o17 rfl ?_
      refine WP.goto rfl ?_
      exact kk [us.getD 0 pU] (pm_wl ((pm_wl (31 * (pm_wl ((pm_wl (31 * x1)) + (h 3 x3))))) + (s_X0_gauge_1 2 x3 h)), x3 + 1) (rfl)
  · intro hP hc
    generalize hs : (L_X11_digest_35 h x1 x3 : Int × Int) = s at kk
    change P_X11_digest_35 h (L_X11_digest_35 h x1 x3).1 (L_X11_digest_35 h x1 x3).2 at hP
    change ¬ C_X11_digest_35 h (L_X11_digest_35 h x1 x3).1 (L_X11_digest_35 h x1 x3).2 at hc
    intro us
    show WP 134 (35, [(13, 0), (1, (L_X11_digest_35 h x1 x3).1), pU, (0, (L_X11_digest_35 h x1 x3).2), us.getD 0 pU], [], h) Q
    rw [hs] at hP hc ⊢
    obtain ⟨x1, x3⟩ := s
    change P_X11_digest_35 h x1 x3 at hP
    change ¬ (x3 < 12) at hc
    unfold P_X11_digest_35 at hP
    show WP 134 (35, [(13, 0), (1, x1), pU, (0, x3), us.getD 0 pU], [], h) Q
    refine WP.iload_n rfl rfl ?_
    refine WP.bipush rfl ?_
    refine WP.ni_ge rfl (fun c13 => ?_) (fun c13 => ?_)
    · exact kk [us.getD 0 pU]
    · exact absurd (show x3 < 12 from c13) hc
noncomputable def s_X11_digest_3 (h : pH) : Int := (L_X11_digest_35 h (s_X11_digest_1 h) 0).1
noncomputable def s_X11_digest_4 (h : pH) : Int := (L_X11_digest_35 h (s_X11_digest_1 h) 0).2
def C_X11_digest_73 (x3 : Int) (h : pH) (x1 : Int) (x4 : Int) : Prop := x4 ≤ 4
noncomputable def B_X11_digest_73 (x3 : Int) (h : pH) (x1 : Int) (x4 : Int) : Int × Int := (pm_wl ((pm_wl (31 * x1)) + (F_X6_tell 8 x3 x4 h)), x4 + 1)
noncomputable def P_X11_digest_73 (x3 : Int) (h : pH) (x1 : Int) (x4 : Int) : Prop := ((x4 ≤ 4) → P_X6_tell 8 x3 x4 h ∧ (fx_i (x4 + 1)))
noncomputable def L_X11_digest_73 (x3 : Int) (h : pH) (x1 : Int) (x4 : Int) : Int × Int := fx_wh (σ := Int × Int) (fun s => C_X11_digest_73 x3 h s.1 s.2) (fun s => B_X11_digest_73 x3 h s.1 s.2) (x1, x4)
def O_X11_digest_73 (x3 : Int) (h : pH) (x1 : Int) (x4 : Int) : Prop := fx_ok (σ := Int × Int) (fun s => C_X11_digest_73 x3 h s.1 s.2) (fun s => B_X11_digest_73 x3 h s.1 s.2) (fun s => P_X11_digest_73 x3 h s.1 s.2) (x1, x4)
set_option maxHeartbeats 4000000 in
theorem lp_X11_digest_73 (x3 : Int) (h : pH) (x1 : Int) (x4 : Int) {Q : Option pV → pH → Prop} (hp : O_X11_digest_73 x3 h x1 x4) (kk : ∀ us : List pV, WP 134 (90, [(13, 0), (1, (L_X11_digest_73 x3 h x1 x4).1), pU, (0, x3), (0, (L_X11_digest_73 x3 h x1 x4).2)], [], h) Q) : ∀ us : List pV, WP 134 (73, [(13, 0), (1, x1), pU, (0, x3), (0, x4)], [], h) Q := by
  refine WP.wh (σ := Int × Int) (fun s => C_X11_digest_73 x3 h s.1 s.2) (fun s => B_X11_digest_73 x3 h s.1 s.2) (fun s => P_X11_digest_73 x3 h s.1 s.2) (fun s us => (73, [(13, 0), (1, s.1), pU, (0, x3), (0, s.2)], [], h)) (x1, x4) hp ?_ ?_
  · intro s us hP hc kk
    obtain ⟨x1, x4⟩ := s
    change P_X11_digest_73 x3 h x1 x4 at hP
    change x4 ≤ 4 at hc
    replace kk : ∀ (us' : List pV) (s' : Int × Int), s' = B_X11_digest_73 x3 h x1 x4 → WP 134 (73, [(13, 0), (1, s'.1), pU, (0, x3), (0, s'.2)], [], h) Q := fun us' s' e => by subst e; exact kk us'
    unfold P_X11_digest_73 at hP
    obtain ⟨o24, o25⟩ := hP hc
    show WP 134 (73, [(13, 0), (1, x1), pU, (0, x3), (0, x4)], [], h) Q
    refine WP.iload rfl rfl ?_
    refine WP.iconst rfl ?_
    refine WP.ni_gt rfl (fun c23 => ?_) (fun c23 => ?_)
    · exact absurd hc (Int.not_le.mpr c23)
    · refine WP.ldc2_w rfl ?_
      refine WP.lload_n rfl rfl ?_
      refine WP.lmul rfl ?_
      refine WP.aload_n rfl rfl ⟨by decide, by decide⟩ ?_
      refine WP.getRF (b := 1) rfl rfl rfl ?_
      refine WP.getRF (b := 8) rfl rfl rfl ?_
      refine WP.iload_n rfl rfl ?_
      refine WP.iload rfl rfl ?_
      refine WP.callF (c_X6_tell 8 x3 x4 h o24) rfl rfl (pm_cok rfl rfl (Or.inr ⟨_, _, rfl⟩) rfl rfl) rfl rfl ?_
      show WP 134 (85, [(13, 0), (1, x1), pU, (0, x3), (0, x4)], [(0, F_X6_tell 8 x3 x4 h), (1, pm_wl (31 * x1))], h) Q
      refine WP.i2l rfl ?_
      refine WP.ladd rfl ?_
      refine WP.lstore_n (L' := [(13, 0), (1, pm_wl ((pm_wl (31 * x1)) + (F_X6_tell 8 x3 x4 h))), pU, (0, x3), (0, x4)]) rfl rfl ?_
      refine WP.iincE (L' := [(13, 0), (1, pm_wl ((pm_wl (31 * x1)) + (F_X6_tell 8 x3 x4 h))), pU, (0, x3), (0, x4 + 1)]) rfl rfl o25 rfl ?_
      refine WP.goto rfl ?_
      exact kk [] (pm_wl ((pm_wl (31 * x1)) + (F_X6_tell 8 x3 x4 h)), x4 + 1) (rfl)
  · intro hP hc
    generalize hs : (L_X11_digest_73 x3 h x1 x4 : Int × Int) = s at kk
    change P_X11_digest_73 x3 h (L_X11_digest_73 x3 h x1 x4).1 (L_X11_digest_73 x3 h x1 x4).2 at hP
    change ¬ C_X11_digest_73 x3 h (L_X11_digest_73 x3 h x1 x4).1 (L_X11_digest_73 x3 h x1 x4).2 at hc
    intro us
    show WP 134 (73, [(13, 0), (1, (L_X11_digest_73 x3 h x1 x4).1), pU, (0, x3), (0, (L_X11_digest_73 x3 h x1 x4).2)], [], h) Q
    rw [hs] at hP hc ⊢
    obtain ⟨x1, x4⟩ := s
    change P_X11_digest_73 x3 h x1 x4 at hP
    change ¬ (x4 ≤ 4) at hc
    unfold P_X11_digest_73 at hP
    show WP 134 (73, [(13, 0), (1, x1), pU, (0, x3), (0, x4)], [], h) Q
    refine WP.iload rfl rfl ?_
    refine WP.iconst rfl ?_
    refine WP.ni_gt rfl (fun c22 => ?_) (fun c22 => ?_)
    · exact kk []
    · exact absurd (show x4 ≤ 4 from c22) hc
def C_X11_digest_65 (h : pH) (x1 : Int) (x3 : Int) : Prop := x3 < h 8 10
noncomputable def B_X11_digest_65 (h : pH) (x1 : Int) (x3 : Int) : Int × Int := ((L_X11_digest_73 x3 h x1 0).1, x3 + 1)
noncomputable def P_X11_digest_65 (h : pH) (x1 : Int) (x3 : Int) : Prop := ((x3 < h 8 10) → O_X11_digest_73 x3 h x1 0 ∧ (fx_i (x3 + 1)))
noncomputable def L_X11_digest_65 (h : pH) (x1 : Int) (x3 : Int) : Int × Int := fx_wh (σ := Int × Int) (fun s => C_X11_digest_65 h s.1 s.2) (fun s => B_X11_digest_65 h s.1 s.2) (x1, x3)
def O_X11_digest_65 (h : pH) (x1 : Int) (x3 : Int) : Prop := fx_ok (σ := Int × Int) (fun s => C_X11_digest_65 h s.1 s.2) (fun s => B_X11_digest_65 h s.1 s.2) (fun s => P_X11_digest_65 h s.1 s.2) (x1, x3)
set_option maxHeartbeats 4000000 in
theorem lp_X11_digest_65 (h : pH) (x1 : Int) (x3 : Int) {Q : Option pV → pH → Prop} (hp : O_X11_digest_65 h x1 x3) (kk : ∀ us : List pV, WP 134 (92, [(13, 0), (1, (L_X11_digest_65 h x1 x3).1), pU, (0, (L_X11_digest_65 h x1 x3).2), us.getD 0 pU], [], h) Q) : ∀ us : List pV, WP 134 (65, [(13, 0), (1, x1), pU, (0, x3), us.getD 0 pU], [], h) Q := by
  refine WP.wh (σ := Int × Int) (fun s => C_X11_digest_65 h s.1 s.2) (fun s => B_X11_digest_65 h s.1 s.2) (fun s => P_X11_digest_65 h s.1 s.2) (fun s us => (65, [(13, 0), (1, s.1), pU, (0, s.2), us.getD 0 pU], [], h)) (x1, x3) hp ?_ ?_
  · intro s us hP hc kk
    obtain ⟨x1, x3⟩ := s
    change P_X11_digest_65 h x1 x3 at hP
    change x3 < h 8 10 at hc
    replace kk : ∀ (us' : List pV) (s' : Int × Int), s' = B_X11_digest_65 h x1 x3 → WP 134 (65, [(13, 0), (1, s'.1), pU, (0, s'.2), us'.getD 0 pU], [], h) Q := fun us' s' e => by subst e; exact kk us'
    unfold P_X11_digest_65 at hP
    obtain ⟨o26, o28⟩ := hP hc
    show WP 134 (65, [(13, 0), (1, x1), pU, (0, x3), us.getD 0 pU], [], h) Q
    refine WP.iload_n rfl rfl ?_
    refine WP.aload_n rfl rfl ⟨by decide, by decide⟩ ?_
    refine WP.getRF (b := 1) rfl rfl rfl ?_
    refine WP.getRF (b := 8) rfl rfl rfl ?_
    refine WP.getI rfl rfl ?_
    refine WP.ni_ge rfl (fun c21 => ?_) (fun c21 => ?_)
    · exact absurd hc (Int.not_lt.mpr c21)
    · refine WP.iconst rfl ?_
      refine WP.istore (L' := [(13, 0), (1, x1), pU, (0, x3), (0, 0)]) rfl rfl ?_
      refine lp_X11_digest_73 x3 h x1 0 o26 (fun us27 => ?_) []
      show WP 134 (90, [(13, 0), (1, (L_X11_digest_73 x3 h x1 0).1), pU, (0, x3), (0, (L_X11_digest_73 x3 h x1 0).2)], [], h) Q
      refine WP.iincE (L' := [(13, 0), (1, (L_X11_digest_73 x3 h x1 0).1), pU, (0, x3 + 1), (0, (L_X11_digest_73 x3 h x1 0).2)]) rfl rfl o28 rfl ?_
      refine WP.goto rfl ?_
      exact kk [(0, (L_X11_digest_73 x3 h x1 0).2)] ((L_X11_digest_73 x3 h x1 0).1, x3 + 1) (rfl)
  · intro hP hc
    generalize hs : (L_X11_digest_65 h x1 x3 : Int × Int) = s at kk
    change P_X11_digest_65 h (L_X11_digest_65 h x1 x3).1 (L_X11_digest_65 h x1 x3).2 at hP
    change ¬ C_X11_digest_65 h (L_X11_digest_65 h x1 x3).1 (L_X11_digest_65 h x1 x3).2 at hc
    intro us
    show WP 134 (65, [(13, 0), (1, (L_X11_digest_65 h x1 x3).1), pU, (0, (L_X11_digest_65 h x1 x3).2), us.getD 0 pU], [], h) Q
    rw [hs] at hP hc ⊢
    obtain ⟨x1, x3⟩ := s
    change P_X11_digest_65 h x1 x3 at hP
    change ¬ (x3 < h 8 10) at hc
    unfold P_X11_digest_65 at hP
    show WP 134 (65, [(13, 0), (1, x1), pU, (0, x3), us.getD 0 pU], [], h) Q
    refine WP.iload_n rfl rfl ?_
    refine WP.aload_n rfl rfl ⟨by decide, by decide⟩ ?_
    refine WP.getRF (b := 1) rfl rfl rfl ?_
    refine WP.getRF (b := 8) rfl rfl rfl ?_
    refine WP.getI rfl rfl ?_
    refine WP.ni_ge rfl (fun c20 => ?_) (fun c20 => ?_)
    · exact kk [us.getD 0 pU]
    · exact absurd (show x3 < h 8 10 from c20) hc
noncomputable def s_X11_digest_5 (h : pH) : Int := (L_X11_digest_65 h (s_X11_digest_3 h) 0).1
noncomputable def s_X11_digest_6 (h : pH) : Int := (L_X11_digest_65 h (s_X11_digest_3 h) 0).2
def C_X11_digest_102 (x3 : Int) (h : pH) (x1 : Int) (x4 : Int) : Prop := x4 ≤ 4
noncomputable def B_X11_digest_102 (x3 : Int) (h : pH) (x1 : Int) (x4 : Int) : Int × Int := (pm_wl ((pm_wl (31 * x1)) + (F_X10_tell 22 x3 x4 h)), x4 + 1)
noncomputable def P_X11_digest_102 (x3 : Int) (h : pH) (x1 : Int) (x4 : Int) : Prop := ((x4 ≤ 4) → P_X10_tell 22 x3 x4 h ∧ (fx_i (x4 + 1)))
noncomputable def L_X11_digest_102 (x3 : Int) (h : pH) (x1 : Int) (x4 : Int) : Int × Int := fx_wh (σ := Int × Int) (fun s => C_X11_digest_102 x3 h s.1 s.2) (fun s => B_X11_digest_102 x3 h s.1 s.2) (x1, x4)
def O_X11_digest_102 (x3 : Int) (h : pH) (x1 : Int) (x4 : Int) : Prop := fx_ok (σ := Int × Int) (fun s => C_X11_digest_102 x3 h s.1 s.2) (fun s => B_X11_digest_102 x3 h s.1 s.2) (fun s => P_X11_digest_102 x3 h s.1 s.2) (x1, x4)
set_option maxHeartbeats 4000000 in
theorem lp_X11_digest_102 (x3 : Int) (h : pH) (x1 : Int) (x4 : Int) {Q : Option pV → pH → Prop} (hp : O_X11_digest_102 x3 h x1 x4) (kk : ∀ us : List pV, WP 134 (119, [(13, 0), (1, (L_X11_digest_102 x3 h x1 x4).1), pU, (0, x3), (0, (L_X11_digest_102 x3 h x1 x4).2)], [], h) Q) : ∀ us : List pV, WP 134 (102, [(13, 0), (1, x1), pU, (0, x3), (0, x4)], [], h) Q := by
  refine WP.wh (σ := Int × Int) (fun s => C_X11_digest_102 x3 h s.1 s.2) (fun s => B_X11_digest_102 x3 h s.1 s.2) (fun s => P_X11_digest_102 x3 h s.1 s.2) (fun s us => (102, [(13, 0), (1, s.1), pU, (0, x3), (0, s.2)], [], h)) (x1, x4) hp ?_ ?_
  · intro s us hP hc kk
    obtain ⟨x1, x4⟩ := s
    change P_X11_digest_102 x3 h x1 x4 at hP
    change x4 ≤ 4 at hc
    replace kk : ∀ (us' : List pV) (s' : Int × Int), s' = B_X11_digest_102 x3 h x1 x4 → WP 134 (102, [(13, 0), (1, s'.1), pU, (0, x3), (0, s'.2)], [], h) Q := fun us' s' e => by subst e; exact kk us'
    unfold P_X11_digest_102 at hP
    obtain ⟨o35, o36⟩ := hP hc
    show WP 134 (102, [(13, 0), (1, x1), pU, (0, x3), (0, x4)], [], h) Q
    refine WP.iload rfl rfl ?_
    refine WP.iconst rfl ?_
    refine WP.ni_gt rfl (fun c34 => ?_) (fun c34 => ?_)
    · exact absurd hc (Int.not_le.mpr c34)
    · refine WP.ldc2_w rfl ?_
      refine WP.lload_n rfl rfl ?_
      refine WP.lmul rfl ?_
      refine WP.aload_n rfl rfl ⟨by decide, by decide⟩ ?_
      refine WP.getRF (b := 1) rfl rfl rfl ?_
      refine WP.getRF (b := 22) rfl rfl rfl ?_
      refine WP.iload_n rfl rfl ?_
      refine WP.iload rfl rfl ?_
      refine WP.callF (c_X10_tell 22 x3 x4 h o35) rfl rfl (pm_cok rfl rfl (Or.inr ⟨_, _, rfl⟩) rfl rfl) rfl rfl ?_
      show WP 134 (114, [(13, 0), (1, x1), pU, (0, x3), (0, x4)], [(0, F_X10_tell 22 x3 x4 h), (1, pm_wl (31 * x1))], h) Q
      refine WP.i2l rfl ?_
      refine WP.ladd rfl ?_
      refine WP.lstore_n (L' := [(13, 0), (1, pm_wl ((pm_wl (31 * x1)) + (F_X10_tell 22 x3 x4 h))), pU, (0, x3), (0, x4)]) rfl rfl ?_
      refine WP.iincE (L' := [(13, 0), (1, pm_wl ((pm_wl (31 * x1)) + (F_X10_tell 22 x3 x4 h))), pU, (0, x3), (0, x4 + 1)]) rfl rfl o36 rfl ?_
      refine WP.goto rfl ?_
      exact kk [] (pm_wl ((pm_wl (31 * x1)) + (F_X10_tell 22 x3 x4 h)), x4 + 1) (rfl)
  · intro hP hc
    generalize hs : (L_X11_digest_102 x3 h x1 x4 : Int × Int) = s at kk
    change P_X11_digest_102 x3 h (L_X11_digest_102 x3 h x1 x4).1 (L_X11_digest_102 x3 h x1 x4).2 at hP
    change ¬ C_X11_digest_102 x3 h (L_X11_digest_102 x3 h x1 x4).1 (L_X11_digest_102 x3 h x1 x4).2 at hc
    intro us
    show WP 134 (102, [(13, 0), (1, (L_X11_digest_102 x3 h x1 x4).1), pU, (0, x3), (0, (L_X11_digest_102 x3 h x1 x4).2)], [], h) Q
    rw [hs] at hP hc ⊢
    obtain ⟨x1, x4⟩ := s
    change P_X11_digest_102 x3 h x1 x4 at hP
    change ¬ (x4 ≤ 4) at hc
    unfold P_X11_digest_102 at hP
    show WP 134 (102, [(13, 0), (1, x1), pU, (0, x3), (0, x4)], [], h) Q
    refine WP.iload rfl rfl ?_
    refine WP.iconst rfl ?_
    refine WP.ni_gt rfl (fun c33 => ?_) (fun c33 => ?_)
    · exact kk []
    · exact absurd (show x4 ≤ 4 from c33) hc
def C_X11_digest_94 (h : pH) (x1 : Int) (x3 : Int) : Prop := x3 < h 22 15
noncomputable def B_X11_digest_94 (h : pH) (x1 : Int) (x3 : Int) : Int × Int := ((L_X11_digest_102 x3 h x1 0).1, x3 + 1)
noncomputable def P_X11_digest_94 (h : pH) (x1 : Int) (x3 : Int) : Prop := ((x3 < h 22 15) → O_X11_digest_102 x3 h x1 0 ∧ (fx_i (x3 + 1)))
noncomputable def L_X11_digest_94 (h : pH) (x1 : Int) (x3 : Int) : Int × Int := fx_wh (σ := Int × Int) (fun s => C_X11_digest_94 h s.1 s.2) (fun s => B_X11_digest_94 h s.1 s.2) (x1, x3)
def O_X11_digest_94 (h : pH) (x1 : Int) (x3 : Int) : Prop := fx_ok (σ := Int × Int) (fun s => C_X11_digest_94 h s.1 s.2) (fun s => B_X11_digest_94 h s.1 s.2) (fun s => P_X11_digest_94 h s.1 s.2) (x1, x3)
set_option maxHeartbeats 4000000 in
theorem lp_X11_digest_94 (h : pH) (x1 : Int) (x3 : Int) {Q : Option pV → pH → Prop} (hp : O_X11_digest_94 h x1 x3) (kk : ∀ us : List pV, WP 134 (121, [(13, 0), (1, (L_X11_digest_94 h x1 x3).1), pU, (0, (L_X11_digest_94 h x1 x3).2), us.getD 0 pU], [], h) Q) : ∀ us : List pV, WP 134 (94, [(13, 0), (1, x1), pU, (0, x3), us.getD 0 pU], [], h) Q := by
  refine WP.wh (σ := Int × Int) (fun s => C_X11_digest_94 h s.1 s.2) (fun s => B_X11_digest_94 h s.1 s.2) (fun s => P_X11_digest_94 h s.1 s.2) (fun s us => (94, [(13, 0), (1, s.1), pU, (0, s.2), us.getD 0 pU], [], h)) (x1, x3) hp ?_ ?_
  · intro s us hP hc kk
    obtain ⟨x1, x3⟩ := s
    change P_X11_digest_94 h x1 x3 at hP
    change x3 < h 22 15 at hc
    replace kk : ∀ (us' : List pV) (s' : Int × Int), s' = B_X11_digest_94 h x1 x3 → WP 134 (94, [(13, 0), (1, s'.1), pU, (0, s'.2), us'.getD 0 pU], [], h) Q := fun us' s' e => by subst e; exact kk us'
    unfold P_X11_digest_94 at hP
    obtain ⟨o37, o39⟩ := hP hc
    show WP 134 (94, [(13, 0), (1, x1), pU, (0, x3), us.getD 0 pU], [], h) Q
    refine WP.iload_n rfl rfl ?_
    refine WP.aload_n rfl rfl ⟨by decide, by decide⟩ ?_
    refine WP.getRF (b := 1) rfl rfl rfl ?_
    refine WP.getRF (b := 22) rfl rfl rfl ?_
    refine WP.getI rfl rfl ?_
    refine WP.ni_ge rfl (fun c32 => ?_) (fun c32 => ?_)
    · exact absurd hc (Int.not_lt.mpr c32)
    · refine WP.iconst rfl ?_
      refine WP.istore (L' := [(13, 0), (1, x1), pU, (0, x3), (0, 0)]) rfl rfl ?_
      refine lp_X11_digest_102 x3 h x1 0 o37 (fun us38 => ?_) []
      show WP 134 (119, [(13, 0), (1, (L_X11_digest_102 x3 h x1 0).1), pU, (0, x3), (0, (L_X11_digest_102 x3 h x1 0).2)], [], h) Q
      refine WP.iincE (L' := [(13, 0), (1, (L_X11_digest_102 x3 h x1 0).1), pU, (0, x3 + 1), (0, (L_X11_digest_102 x3 h x1 0).2)]) rfl rfl o39 rfl ?_
      refine WP.goto rfl ?_
      exact kk [(0, (L_X11_digest_102 x3 h x1 0).2)] ((L_X11_digest_102 x3 h x1 0).1, x3 + 1) (rfl)
  · intro hP hc
    generalize hs : (L_X11_digest_94 h x1 x3 : Int × Int) = s at kk
    change P_X11_digest_94 h (L_X11_digest_94 h x1 x3).1 (L_X11_digest_94 h x1 x3).2 at hP
    change ¬ C_X11_digest_94 h (L_X11_digest_94 h x1 x3).1 (L_X11_digest_94 h x1 x3).2 at hc
    intro us
    show WP 134 (94, [(13, 0), (1, (L_X11_digest_94 h x1 x3).1), pU, (0, (L_X11_digest_94 h x1 x3).2), us.getD 0 pU], [], h) Q
    rw [hs] at hP hc ⊢
    obtain ⟨x1, x3⟩ := s
    change P_X11_digest_94 h x1 x3 at hP
    change ¬ (x3 < h 22 15) at hc
    unfold P_X11_digest_94 at hP
    show WP 134 (94, [(13, 0), (1, x1), pU, (0, x3), us.getD 0 pU], [], h) Q
    refine WP.iload_n rfl rfl ?_
    refine WP.aload_n rfl rfl ⟨by decide, by decide⟩ ?_
    refine WP.getRF (b := 1) rfl rfl rfl ?_
    refine WP.getRF (b := 22) rfl rfl rfl ?_
    refine WP.getI rfl rfl ?_
    refine WP.ni_ge rfl (fun c31 => ?_) (fun c31 => ?_)
    · exact kk [us.getD 0 pU]
    · exact absurd (show x3 < h 22 15 from c31) hc
noncomputable def s_X11_digest_7 (h : pH) : Int := (L_X11_digest_94 h (s_X11_digest_5 h) 0).1
noncomputable def s_X11_digest_8 (h : pH) : Int := (L_X11_digest_94 h (s_X11_digest_5 h) 0).2
def C_X11_digest_123 (h : pH) (x1 : Int) (x3 : Int) : Prop := x3 < 8
noncomputable def B_X11_digest_123 (h : pH) (x1 : Int) (x3 : Int) : Int × Int := (pm_wl ((pm_wl (31 * x1)) + (F_X10_billOf 22 x3 h)), x3 + 1)
noncomputable def P_X11_digest_123 (h : pH) (x1 : Int) (x3 : Int) : Prop := ((x3 < 8) → P_X10_billOf 22 x3 h ∧ (fx_i (x3 + 1)))
noncomputable def L_X11_digest_123 (h : pH) (x1 : Int) (x3 : Int) : Int × Int := fx_wh (σ := Int × Int) (fun s => C_X11_digest_123 h s.1 s.2) (fun s => B_X11_digest_123 h s.1 s.2) (x1, x3)
def O_X11_digest_123 (h : pH) (x1 : Int) (x3 : Int) : Prop := fx_ok (σ := Int × Int) (fun s => C_X11_digest_123 h s.1 s.2) (fun s => B_X11_digest_123 h s.1 s.2) (fun s => P_X11_digest_123 h s.1 s.2) (x1, x3)
set_option maxHeartbeats 4000000 in
theorem lp_X11_digest_123 (h : pH) (x1 : Int) (x3 : Int) {Q : Option pV → pH → Prop} (hp : O_X11_digest_123 h x1 x3) (kk : ∀ us : List pV, WP 134 (139, [(13, 0), (1, (L_X11_digest_123 h x1 x3).1), pU, (0, (L_X11_digest_123 h x1 x3).2), us.getD 0 pU], [], h) Q) : ∀ us : List pV, WP 134 (123, [(13, 0), (1, x1), pU, (0, x3), us.getD 0 pU], [], h) Q := by
  refine WP.wh (σ := Int × Int) (fun s => C_X11_digest_123 h s.1 s.2) (fun s => B_X11_digest_123 h s.1 s.2) (fun s => P_X11_digest_123 h s.1 s.2) (fun s us => (123, [(13, 0), (1, s.1), pU, (0, s.2), us.getD 0 pU], [], h)) (x1, x3) hp ?_ ?_
  · intro s us hP hc kk
    obtain ⟨x1, x3⟩ := s
    change P_X11_digest_123 h x1 x3 at hP
    change x3 < 8 at hc
    replace kk : ∀ (us' : List pV) (s' : Int × Int), s' = B_X11_digest_123 h x1 x3 → WP 134 (123, [(13, 0), (1, s'.1), pU, (0, s'.2), us'.getD 0 pU], [], h) Q := fun us' s' e => by subst e; exact kk us'
    unfold P_X11_digest_123 at hP
    obtain ⟨o44, o45⟩ := hP hc
    show WP 134 (123, [(13, 0), (1, x1), pU, (0, x3), us.getD 0 pU], [], h) Q
    refine WP.iload_n rfl rfl ?_
    refine WP.bipush rfl ?_
    refine WP.ni_ge rfl (fun c43 => ?_) (fun c43 => ?_)
    · exact absurd hc (Int.not_lt.mpr c43)
    · refine WP.ldc2_w rfl ?_
      refine WP.lload_n rfl rfl ?_
      refine WP.lmul rfl ?_
      refine WP.aload_n rfl rfl ⟨by decide, by decide⟩ ?_
      refine WP.getRF (b := 1) rfl rfl rfl ?_
      refine WP.getRF (b := 22) rfl rfl rfl ?_
      refine WP.iload_n rfl rfl ?_
      refine WP.callF (c_X10_billOf 22 x3 h o44) rfl rfl (pm_cok rfl rfl (Or.inr ⟨_, _, rfl⟩) rfl rfl) rfl rfl ?_
      show WP 134 (134, [(13, 0), (1, x1), pU, (0, x3), us.getD 0 pU], [(0, F_X10_billOf 22 x3 h), (1, pm_wl (31 * x1))], h) Q
      refine WP.i2l rfl ?_
      refine WP.ladd rfl ?_
      refine WP.lstore_n (L' := [(13, 0), (1, pm_wl ((pm_wl (31 * x1)) + (F_X10_billOf 22 x3 h))), pU, (0, x3), us.getD 0 pU]) rfl rfl ?_
      refine WP.iincE (L' := [(13, 0), (1, pm_wl ((pm_wl (31 * x1)) + (F_X10_billOf 22 x3 h))), pU, (0, x3 + 1), us.getD 0 pU]) rfl rfl o45 rfl ?_
      refine WP.goto rfl ?_
      exact kk [us.getD 0 pU] (pm_wl ((pm_wl (31 * x1)) + (F_X10_billOf 22 x3 h)), x3 + 1) (rfl)
  · intro hP hc
    generalize hs : (L_X11_digest_123 h x1 x3 : Int × Int) = s at kk
    change P_X11_digest_123 h (L_X11_digest_123 h x1 x3).1 (L_X11_digest_123 h x1 x3).2 at hP
    change ¬ C_X11_digest_123 h (L_X11_digest_123 h x1 x3).1 (L_X11_digest_123 h x1 x3).2 at hc
    intro us
    show WP 134 (123, [(13, 0), (1, (L_X11_digest_123 h x1 x3).1), pU, (0, (L_X11_digest_123 h x1 x3).2), us.getD 0 pU], [], h) Q
    rw [hs] at hP hc ⊢
    obtain ⟨x1, x3⟩ := s
    change P_X11_digest_123 h x1 x3 at hP
    change ¬ (x3 < 8) at hc
    unfold P_X11_digest_123 at hP
    show WP 134 (123, [(13, 0), (1, x1), pU, (0, x3), us.getD 0 pU], [], h) Q
    refine WP.iload_n rfl rfl ?_
    refine WP.bipush rfl ?_
    refine WP.ni_ge rfl (fun c42 => ?_) (fun c42 => ?_)
    · exact kk [us.getD 0 pU]
    · exact absurd (show x3 < 8 from c42) hc
noncomputable def s_X11_digest_9 (h : pH) : Int := (L_X11_digest_123 h (s_X11_digest_7 h) 0).1
noncomputable def s_X11_digest_10 (h : pH) : Int := (L_X11_digest_123 h (s_X11_digest_7 h) 0).2
noncomputable def F_X11_digest (h : pH) : Int := pm_wl ((pm_wl (31 * (s_X11_digest_9 h))) + (h 43 2))
noncomputable def P_X11_digest (h : pH) : Prop := O_X11_digest_4 h 359 0 ∧ (O_X11_digest_20 h ((L_X11_digest_4 h 359 0).1) 0) ∧ (O_X11_digest_35 h (s_X11_digest_1 h) 0) ∧ (O_X11_digest_65 h (s_X11_digest_3 h) 0) ∧ (O_X11_digest_94 h (s_X11_digest_5 h) 0) ∧ (O_X11_digest_123 h (s_X11_digest_7 h) 0)
set_option maxHeartbeats 4000000 in
theorem w_X11_digest (h : pH) {Q : Option pV → pH → Prop} (hp : P_X11_digest h) (kk : Q (some (1, F_X11_digest h)) (h)) : WP 134 (0, [(13, 0), pU, pU, pU, pU], [], h) Q := by
  unfold P_X11_digest at hp
  obtain ⟨o5, o11, o18, o29, o40, o46⟩ := hp
  refine WP.ldc2_w rfl ?_
  refine WP.lstore_n (L' := [(13, 0), (1, 359), pU, pU, pU]) rfl rfl ?_
  refine WP.iconst rfl ?_
  refine WP.istore_n (L' := [(13, 0), (1, 359), pU, (0, 0), pU]) rfl rfl ?_
  refine lp_X11_digest_4 h 359 0 o5 (fun us6 => ?_) [pU]
  show WP 134 (18, [(13, 0), (1, (L_X11_digest_4 h 359 0).1), pU, (0, (L_X11_digest_4 h 359 0).2), us6.getD 0 pU], [], h) Q
  refine WP.iconst rfl ?_
  refine WP.istore_n (L' := [(13, 0), (1, (L_X11_digest_4 h 359 0).1), pU, (0, 0), us6.getD 0 pU]) rfl rfl ?_
  refine lp_X11_digest_20 h ((L_X11_digest_4 h 359 0).1) 0 o11 (fun us12 => ?_) [us6.getD 0 pU]
  show WP 134 (33, [(13, 0), (1, s_X11_digest_1 h), pU, (0, s_X11_digest_2 h), us12.getD 0 pU], [], h) Q
  refine WP.iconst rfl ?_
  refine WP.istore_n (L' := [(13, 0), (1, s_X11_digest_1 h), pU, (0, 0), us12.getD 0 pU]) rfl rfl ?_
  refine lp_X11_digest_35 h (s_X11_digest_1 h) 0 o18 (fun us19 => ?_) [us12.getD 0 pU]
  show WP 134 (63, [(13, 0), (1, s_X11_digest_3 h), pU, (0, s_X11_digest_4 h), us19.getD 0 pU], [], h) Q
  refine WP.iconst rfl ?_
  refine WP.istore_n (L' := [(13, 0), (1, s_X11_digest_3 h), pU, (0, 0), us19.getD 0 pU]) rfl rfl ?_
  refine lp_X11_digest_65 h (s_X11_digest_3 h) 0 o29 (fun us30 => ?_) [us19.getD 0 pU]
  show WP 134 (92, [(13, 0), (1, s_X11_digest_5 h), pU, (0, s_X11_digest_6 h), us30.getD 0 pU], [], h) Q
  refine WP.iconst rfl ?_
  refine WP.istore_n (L' := [(13, 0), (1, s_X11_digest_5 h), pU, (0, 0), us30.getD 0 pU]) rfl rfl ?_
  refine lp_X11_digest_94 h (s_X11_digest_5 h) 0 o40 (fun us41 => ?_) [us30.getD 0 pU]
  show WP 134 (121, [(13, 0), (1, s_X11_digest_7 h), pU, (0, s_X11_digest_8 h), us41.getD 0 pU], [], h) Q
  refine WP.iconst rfl ?_
  refine WP.istore_n (L' := [(13, 0), (1, s_X11_digest_7 h), pU, (0, 0), us41.getD 0 pU]) rfl rfl ?_
  refine lp_X11_digest_123 h (s_X11_digest_7 h) 0 o46 (fun us47 => ?_) [us41.getD 0 pU]
  show WP 134 (139, [(13, 0), (1, s_X11_digest_9 h), pU, (0, s_X11_digest_10 h), us47.getD 0 pU], [], h) Q
  refine WP.ldc2_w rfl ?_
  refine WP.lload_n rfl rfl ?_
  refine WP.lmul rfl ?_
  refine WP.aload_n rfl rfl ⟨by decide, by decide⟩ ?_
  refine WP.getRF (b := 1) rfl rfl rfl ?_
  refine WP.getRF (b := 43) rfl rfl rfl ?_
  refine WP.getI rfl rfl ?_
  refine WP.i2l rfl ?_
  refine WP.ladd rfl ?_
  refine WP.retl rfl ?_; exact kk
theorem c_X11_digest (h : pH) (hp : P_X11_digest h) : CP 134 [(13, 0)] h (fun r h1 => r = some (1, F_X11_digest h) ∧ h1 = h) := w_X11_digest h hp ⟨rfl, rfl⟩
noncomputable def s_X12_heat_1 (a1 : Int) (a2 : Int) (h : pH) : pH := if 0 ≤ a1 ∧ a1 ≤ 11 then if 0 ≤ a2 ∧ a2 ≤ 100000 then H_X12_change (20 + a1) a2 h else h else h
noncomputable def s_X12_heat_2 (a1 : Int) (a2 : Int) (h : pH) : Int := if 0 ≤ a1 ∧ a1 ≤ 11 then if 0 ≤ a2 ∧ a2 ≤ 100000 then F_X12_change (20 + a1) a2 h else (-2000000000) else (-2000000000)
noncomputable def F_X12_heat (a1 : Int) (a2 : Int) (h : pH) : Int := s_X12_heat_2 a1 a2 h
noncomputable def H_X12_heat (a1 : Int) (a2 : Int) (h : pH) : pH := s_X12_heat_1 a1 a2 h
noncomputable def P_X12_heat (a1 : Int) (a2 : Int) (h : pH) : Prop := (((0 ≤ a1 ∧ a1 ≤ 11) → (((0 ≤ a2 ∧ a2 ≤ 100000) → ((fx_i (20 + a1)) ∧ (P_X12_change (20 + a1) a2 h))))))
set_option maxHeartbeats 4000000 in
theorem w_X12_heat (a1 : Int) (a2 : Int) (h : pH) {Q : Option pV → pH → Prop} (hp : P_X12_heat a1 a2 h) (kk : Q (some (0, F_X12_heat a1 a2 h)) (H_X12_heat a1 a2 h)) : WP 146 (0, [(14, 248), (0, a1), (0, a2)], [], h) Q := by
  unfold P_X12_heat at hp
  have q9 := hp
  refine WP.iload_n rfl rfl ?_
  refine WP.callF (c_X12_isCell a1 h) rfl rfl (pm_cok rfl rfl (Or.inl rfl) rfl rfl) rfl rfl ?_
  show WP 146 (2, [(14, 248), (0, a1), (0, a2)], [(0, if 0 ≤ a1 ∧ a1 ≤ 11 then 1 else 0)], h) Q
  have k1 : ∀ Q' : Option pV → pH → Prop, (WP 146 (18, [(14, 248), (0, a1), (0, a2)], [(0, s_X12_heat_2 a1 a2 h)], s_X12_heat_1 a1 a2 h) Q') → WP 146 (2, [(14, 248), (0, a1), (0, a2)], [(0, if 0 ≤ a1 ∧ a1 ≤ 11 then 1 else 0)], h) Q' := fun Q' kk => by
    have q7 := q9
    refine WP.nb_eq rfl (fun c2 => ?_) (fun c2 => ?_)
    · refine WP.ldc rfl ?_
      have e := kk; simp only [s_X12_heat_2, s_X12_heat_1, if_neg (c2)] at e ⊢; exact e
    · have q6 := q7 c2
      refine WP.iload_n rfl rfl ?_
      refine WP.i2l rfl ?_
      refine WP.lconst rfl ?_
      refine WP.ldc2_w rfl ?_
      refine WP.callF (c_X12_in a2 0 100000 h) rfl rfl (pm_cok rfl rfl (Or.inl rfl) rfl rfl) rfl rfl ?_
      show WP 146 (8, [(14, 248), (0, a1), (0, a2)], [(0, if 0 ≤ a2 ∧ a2 ≤ 100000 then 1 else 0)], h) Q'
      refine WP.nb_eq rfl (fun c3 => ?_) (fun c3 => ?_)
      · refine WP.ldc rfl ?_
        have e := kk; simp only [s_X12_heat_2, s_X12_heat_1, if_pos c2, if_neg (c3)] at e ⊢; exact e
      · obtain ⟨o4, o5⟩ := q6 c3
        refine WP.aload_n rfl rfl ⟨by decide, by decide⟩ ?_
        refine WP.bipush rfl ?_
        refine WP.iload_n rfl rfl ?_
        refine WP.iaddE rfl o4 ?_
        refine WP.iload_n rfl rfl ?_
        refine WP.i2l rfl ?_
        refine WP.callF (c_X12_change (20 + a1) a2 h o5) rfl rfl (pm_cok rfl rfl (Or.inr ⟨_, _, rfl⟩) rfl rfl) rfl rfl ?_
        show WP 146 (16, [(14, 248), (0, a1), (0, a2)], [(0, F_X12_change (20 + a1) a2 h)], H_X12_change (20 + a1) a2 h) Q'
        refine WP.goto rfl ?_
        have e := kk; simp only [s_X12_heat_2, s_X12_heat_1, if_pos c2, if_pos c3] at e ⊢; exact e
  refine k1 _ ?_
  refine WP.reti rfl ?_; exact kk
theorem c_X12_heat (a1 : Int) (a2 : Int) (h : pH) (hp : P_X12_heat a1 a2 h) : CP 146 [(14, 248), (0, a1), (0, a2)] h (fun r h1 => r = some (0, F_X12_heat a1 a2 h) ∧ h1 = H_X12_heat a1 a2 h) := w_X12_heat a1 a2 h hp ⟨rfl, rfl⟩
noncomputable def F_X12_cooler (a1 : Int) (a2 : Int) (a3 : Int) (h : pH) : Int := if 0 ≤ a1 ∧ a1 ≤ 11 then if 0 ≤ a2 ∧ a2 ≤ 10000 then if 0 ≤ a3 ∧ a3 ≤ 5000 then 1 else (-2) else (-2) else (-2)
noncomputable def H_X12_cooler (a1 : Int) (a2 : Int) (a3 : Int) (h : pH) : pH := if 0 ≤ a1 ∧ a1 ≤ 11 then if 0 ≤ a2 ∧ a2 ≤ 10000 then if 0 ≤ a3 ∧ a3 ≤ 5000 then pm_upd (pm_upd h 249 (32 + a1) a2) 249 (44 + a1) a3 else h else h else h
noncomputable def P_X12_cooler (a1 : Int) (a2 : Int) (a3 : Int) (h : pH) : Prop := ((0 ≤ a1 ∧ a1 ≤ 11) → (((0 ≤ a2 ∧ a2 ≤ 10000) → (((0 ≤ a3 ∧ a3 ≤ 5000) → ((fx_i (32 + a1)) ∧ (0 ≤ 32 + a1 ∧ 32 + a1 < 620) ∧ (fx_i (44 + a1)) ∧ (0 ≤ 44 + a1 ∧ 44 + a1 < 620)))))))
set_option maxHeartbeats 4000000 in
theorem w_X12_cooler (a1 : Int) (a2 : Int) (a3 : Int) (h : pH) {Q : Option pV → pH → Prop} (hp : P_X12_cooler a1 a2 a3 h) (kk : Q (some (0, F_X12_cooler a1 a2 a3 h)) (H_X12_cooler a1 a2 a3 h)) : WP 147 (0, [(14, 248), (0, a1), (0, a2), (0, a3)], [], h) Q := by
  unfold P_X12_cooler at hp
  have q10 := hp
  refine WP.iload_n rfl rfl ?_
  refine WP.callF (c_X12_isCell a1 h) rfl rfl (pm_cok rfl rfl (Or.inl rfl) rfl rfl) rfl rfl ?_
  show WP 147 (2, [(14, 248), (0, a1), (0, a2), (0, a3)], [(0, if 0 ≤ a1 ∧ a1 ≤ 11 then 1 else 0)], h) Q
  refine WP.nb_eq rfl (fun c1 => ?_) (fun c1 => ?_)
  · refine WP.bipush rfl ?_
    refine WP.reti rfl ?_; have e := kk; simp only [F_X12_cooler, H_X12_cooler, if_neg (c1)] at e ⊢; exact e
  · have q9 := q10 c1
    refine WP.iload_n rfl rfl ?_
    refine WP.i2l rfl ?_
    refine WP.lconst rfl ?_
    refine WP.ldc2_w rfl ?_
    refine WP.callF (c_X12_in a2 0 10000 h) rfl rfl (pm_cok rfl rfl (Or.inl rfl) rfl rfl) rfl rfl ?_
    show WP 147 (8, [(14, 248), (0, a1), (0, a2), (0, a3)], [(0, if 0 ≤ a2 ∧ a2 ≤ 10000 then 1 else 0)], h) Q
    refine WP.nb_eq rfl (fun c2 => ?_) (fun c2 => ?_)
    · refine WP.bipush rfl ?_
      refine WP.reti rfl ?_; have e := kk; simp only [F_X12_cooler, H_X12_cooler, if_pos c1, if_neg (c2)] at e ⊢; exact e
    · have q8 := q9 c2
      refine WP.iload_n rfl rfl ?_
      refine WP.i2l rfl ?_
      refine WP.lconst rfl ?_
      refine WP.ldc2_w rfl ?_
      refine WP.callF (c_X12_in a3 0 5000 h) rfl rfl (pm_cok rfl rfl (Or.inl rfl) rfl rfl) rfl rfl ?_
      show WP 147 (14, [(14, 248), (0, a1), (0, a2), (0, a3)], [(0, if 0 ≤ a3 ∧ a3 ≤ 5000 then 1 else 0)], h) Q
      refine WP.nb_ne rfl (fun c3 => ?_) (fun c3 => ?_)
      · obtain ⟨o4, o5, o6, o7⟩ := q8 c3
        refine WP.aload_n rfl rfl ⟨by decide, by decide⟩ ?_
        refine WP.getRF (b := 249) rfl rfl rfl ?_
        refine WP.bipush rfl ?_
        refine WP.iload_n rfl rfl ?_
        refine WP.iaddE rfl o4 ?_
        refine WP.iload_n rfl rfl ?_
        refine WP.i2l rfl ?_
        refine WP.lastore rfl ⟨by decide, by decide, by decide⟩ o5 ?_
        refine WP.aload_n rfl rfl ⟨by decide, by decide⟩ ?_
        refine WP.getRF (b := 249) rfl rfl rfl ?_
        refine WP.bipush rfl ?_
        refine WP.iload_n rfl rfl ?_
        refine WP.iaddE rfl o6 ?_
        refine WP.iload_n rfl rfl ?_
        refine WP.i2l rfl ?_
        refine WP.lastore rfl ⟨by decide, by decide, by decide⟩ o7 ?_
        refine WP.iconst rfl ?_
        refine WP.reti rfl ?_; have e := kk; simp only [F_X12_cooler, H_X12_cooler, if_pos c1, if_pos c2, if_pos c3] at e ⊢; exact e
      · refine WP.bipush rfl ?_
        refine WP.reti rfl ?_; have e := kk; simp only [F_X12_cooler, H_X12_cooler, if_pos c1, if_pos c2, if_neg (c3)] at e ⊢; exact e
theorem c_X12_cooler (a1 : Int) (a2 : Int) (a3 : Int) (h : pH) (hp : P_X12_cooler a1 a2 a3 h) : CP 147 [(14, 248), (0, a1), (0, a2), (0, a3)] h (fun r h1 => r = some (0, F_X12_cooler a1 a2 a3 h) ∧ h1 = H_X12_cooler a1 a2 a3 h) := w_X12_cooler a1 a2 a3 h hp ⟨rfl, rfl⟩
noncomputable def F_X12_machine (a1 : Int) (a2 : Int) (a3 : Int) (a4 : Int) (a5 : Int) (h : pH) : Int := if 0 ≤ a1 ∧ a1 ≤ 11 then if 0 ≤ a2 ∧ a2 ≤ 500 then if 0 ≤ a3 ∧ a3 ≤ 500 then if 1 ≤ a4 ∧ a4 ≤ 5000 then if 0 ≤ a5 ∧ a5 ≤ 3 then if h 249 12 = 10 then (-4) else ((H_X12_addMachine a1 a2 a3 a4 a5 h) 249 12) - 1 else (-2) else (-2) else (-2) else (-2) else (-2)
noncomputable def H_X12_machine (a1 : Int) (a2 : Int) (a3 : Int) (a4 : Int) (a5 : Int) (h : pH) : pH := if 0 ≤ a1 ∧ a1 ≤ 11 then if 0 ≤ a2 ∧ a2 ≤ 500 then if 0 ≤ a3 ∧ a3 ≤ 500 then if 1 ≤ a4 ∧ a4 ≤ 5000 then if 0 ≤ a5 ∧ a5 ≤ 3 then if h 249 12 = 10 then h else H_X12_addMachine a1 a2 a3 a4 a5 h else h else h else h else h else h
noncomputable def P_X12_machine (a1 : Int) (a2 : Int) (a3 : Int) (a4 : Int) (a5 : Int) (h : pH) : Prop := ((0 ≤ a1 ∧ a1 ≤ 11) → (((0 ≤ a2 ∧ a2 ≤ 500) → (((0 ≤ a3 ∧ a3 ≤ 500) → (((1 ≤ a4 ∧ a4 ≤ 5000) → (((0 ≤ a5 ∧ a5 ≤ 3) → (((¬ h 249 12 = 10) → (P_X12_addMachine a1 a2 a3 a4 a5 h ∧ (P_X12_at 12 (H_X12_addMachine a1 a2 a3 a4 a5 h)) ∧ (fx_i (((H_X12_addMachine a1 a2 a3 a4 a5 h) 249 12) - 1))))))))))))))
set_option maxHeartbeats 4000000 in
theorem w_X12_machine (a1 : Int) (a2 : Int) (a3 : Int) (a4 : Int) (a5 : Int) (h : pH) {Q : Option pV → pH → Prop} (hp : P_X12_machine a1 a2 a3 a4 a5 h) (kk : Q (some (0, F_X12_machine a1 a2 a3 a4 a5 h)) (H_X12_machine a1 a2 a3 a4 a5 h)) : WP 149 (0, [(14, 248), (0, a1), (0, a2), (0, a3), (0, a4), (0, a5)], [], h) Q := by
  unfold P_X12_machine at hp
  have q15 := hp
  refine WP.iload_n rfl rfl ?_
  refine WP.callF (c_X12_isCell a1 h) rfl rfl (pm_cok rfl rfl (Or.inl rfl) rfl rfl) rfl rfl ?_
  show WP 149 (2, [(14, 248), (0, a1), (0, a2), (0, a3), (0, a4), (0, a5)], [(0, if 0 ≤ a1 ∧ a1 ≤ 11 then 1 else 0)], h) Q
  refine WP.nb_eq rfl (fun c1 => ?_) (fun c1 => ?_)
  · refine WP.bipush rfl ?_
    refine WP.reti rfl ?_; have e := kk; simp only [F_X12_machine, H_X12_machine, if_neg (c1)] at e ⊢; exact e
  · have q14 := q15 c1
    refine WP.iload_n rfl rfl ?_
    refine WP.i2l rfl ?_
    refine WP.lconst rfl ?_
    refine WP.ldc2_w rfl ?_
    refine WP.callF (c_X12_in a2 0 500 h) rfl rfl (pm_cok rfl rfl (Or.inl rfl) rfl rfl) rfl rfl ?_
    show WP 149 (8, [(14, 248), (0, a1), (0, a2), (0, a3), (0, a4), (0, a5)], [(0, if 0 ≤ a2 ∧ a2 ≤ 500 then 1 else 0)], h) Q
    refine WP.nb_eq rfl (fun c2 => ?_) (fun c2 => ?_)
    · refine WP.bipush rfl ?_
      refine WP.reti rfl ?_; have e := kk; simp only [F_X12_machine, H_X12_machine, if_pos c1, if_neg (c2)] at e ⊢; exact e
    · have q13 := q14 c2
      refine WP.iload_n rfl rfl ?_
      refine WP.i2l rfl ?_
      refine WP.lconst rfl ?_
      refine WP.ldc2_w rfl ?_
      refine WP.callF (c_X12_in a3 0 500 h) rfl rfl (pm_cok rfl rfl (Or.inl rfl) rfl rfl) rfl rfl ?_
      show WP 149 (14, [(14, 248), (0, a1), (0, a2), (0, a3), (0, a4), (0, a5)], [(0, if 0 ≤ a3 ∧ a3 ≤ 500 then 1 else 0)], h) Q
      refine WP.nb_eq rfl (fun c3 => ?_) (fun c3 => ?_)
      · refine WP.bipush rfl ?_
        refine WP.reti rfl ?_; have e := kk; simp only [F_X12_machine, H_X12_machine, if_pos c1, if_pos c2, if_neg (c3)] at e ⊢; exact e
      · have q12 := q13 c3
        refine WP.iload rfl rfl ?_
        refine WP.i2l rfl ?_
        refine WP.lconst rfl ?_
        refine WP.ldc2_w rfl ?_
        refine WP.callF (c_X12_in a4 1 5000 h) rfl rfl (pm_cok rfl rfl (Or.inl rfl) rfl rfl) rfl rfl ?_
        show WP 149 (20, [(14, 248), (0, a1), (0, a2), (0, a3), (0, a4), (0, a5)], [(0, if 1 ≤ a4 ∧ a4 ≤ 5000 then 1 else 0)], h) Q
        refine WP.nb_eq rfl (fun c4 => ?_) (fun c4 => ?_)
        · refine WP.bipush rfl ?_
          refine WP.reti rfl ?_; have e := kk; simp only [F_X12_machine, H_X12_machine, if_pos c1, if_pos c2, if_pos c3, if_neg (c4)] at e ⊢; exact e
        · have q11 := q12 c4
          refine WP.iload rfl rfl ?_
          refine WP.i2l rfl ?_
          refine WP.lconst rfl ?_
          refine WP.ldc2_w rfl ?_
          refine WP.callF (c_X12_in a5 0 3 h) rfl rfl (pm_cok rfl rfl (Or.inl rfl) rfl rfl) rfl rfl ?_
          show WP 149 (26, [(14, 248), (0, a1), (0, a2), (0, a3), (0, a4), (0, a5)], [(0, if 0 ≤ a5 ∧ a5 ≤ 3 then 1 else 0)], h) Q
          refine WP.nb_ne rfl (fun c5 => ?_) (fun c5 => ?_)
          · have q10 := q11 c5
            refine WP.aload_n rfl rfl ⟨by decide, by decide⟩ ?_
            refine WP.getRF (b := 249) rfl rfl rfl ?_
            refine WP.bipush rfl ?_
            refine WP.laload rfl ⟨by decide, by decide, by decide⟩ (by decide) ?_
            refine WP.ldc2_w rfl ?_
            refine WP.lcmp rfl ?_
            refine WP.nl_ne rfl (fun c6 => ?_) (fun c6 => ?_)
            · obtain ⟨o7, o8, o9⟩ := q10 c6
              refine WP.aload_n rfl rfl ⟨by decide, by decide⟩ ?_
              refine WP.iload_n rfl rfl ?_
              refine WP.i2l rfl ?_
              refine WP.iload_n rfl rfl ?_
              refine WP.i2l rfl ?_
              refine WP.iload_n rfl rfl ?_
              refine WP.i2l rfl ?_
              refine WP.iload rfl rfl ?_
              refine WP.i2l rfl ?_
              refine WP.iload rfl rfl ?_
              refine WP.i2l rfl ?_
              refine WP.callF (c_X12_addMachine a1 a2 a3 a4 a5 h o7) rfl rfl (pm_cok rfl rfl (Or.inr ⟨_, _, rfl⟩) rfl rfl) rfl rfl ?_
              show WP 149 (50, [(14, 248), (0, a1), (0, a2), (0, a3), (0, a4), (0, a5)], [], H_X12_addMachine a1 a2 a3 a4 a5 h) Q
              refine WP.aload_n rfl rfl ⟨by decide, by decide⟩ ?_
              refine WP.bipush rfl ?_
              refine WP.callF (c_X12_at 12 (H_X12_addMachine a1 a2 a3 a4 a5 h) o8) rfl rfl (pm_cok rfl rfl (Or.inr ⟨_, _, rfl⟩) rfl rfl) rfl rfl ?_
              show WP 149 (53, [(14, 248), (0, a1), (0, a2), (0, a3), (0, a4), (0, a5)], [(0, (H_X12_addMachine a1 a2 a3 a4 a5 h) 249 12)], H_X12_addMachine a1 a2 a3 a4 a5 h) Q
              refine WP.iconst rfl ?_
              refine WP.isubE rfl o9 ?_
              refine WP.reti rfl ?_; have e := kk; simp only [F_X12_machine, H_X12_machine, if_pos c1, if_pos c2, if_pos c3, if_pos c4, if_pos c5, if_neg (c6)] at e ⊢; exact e
            · refine WP.bipush rfl ?_
              refine WP.reti rfl ?_; have e := kk; simp only [F_X12_machine, H_X12_machine, if_pos c1, if_pos c2, if_pos c3, if_pos c4, if_pos c5, if_pos c6] at e ⊢; exact e
          · refine WP.bipush rfl ?_
            refine WP.reti rfl ?_; have e := kk; simp only [F_X12_machine, H_X12_machine, if_pos c1, if_pos c2, if_pos c3, if_pos c4, if_neg (c5)] at e ⊢; exact e
theorem c_X12_machine (a1 : Int) (a2 : Int) (a3 : Int) (a4 : Int) (a5 : Int) (h : pH) (hp : P_X12_machine a1 a2 a3 a4 a5 h) : CP 149 [(14, 248), (0, a1), (0, a2), (0, a3), (0, a4), (0, a5)] h (fun r h1 => r = some (0, F_X12_machine a1 a2 a3 a4 a5 h) ∧ h1 = H_X12_machine a1 a2 a3 a4 a5 h) := w_X12_machine a1 a2 a3 a4 a5 h hp ⟨rfl, rfl⟩
