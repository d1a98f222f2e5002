def C_X12_without_37 (a1 : Int) (y2 : Int) (y3 : Int) (x4 : Int) (x5 : Int) (h : pH) (x6 : Int) (x7 : Int) : Prop := x7 < y2
noncomputable def B_X12_without_37 (a1 : Int) (y2 : Int) (y3 : Int) (x4 : Int) (x5 : Int) (h : pH) (x6 : Int) (x7 : Int) : Int × Int := (pm_or x6 (pm_shl (pm_and (pm_shr x5 x7) 1) (h 267 x7)), x7 + 1)
noncomputable def P_X12_without_37 (a1 : Int) (y2 : Int) (y3 : Int) (x4 : Int) (x5 : Int) (h : pH) (x6 : Int) (x7 : Int) : Prop := ((x7 < y2) → (0 ≤ x7 ∧ x7 < 16) ∧ (fx_i (x7 + 1)))
noncomputable def L_X12_without_37 (a1 : Int) (y2 : Int) (y3 : Int) (x4 : Int) (x5 : Int) (h : pH) (x6 : Int) (x7 : Int) : Int × Int := fx_wh (σ := Int × Int) (fun s => C_X12_without_37 a1 y2 y3 x4 x5 h s.1 s.2) (fun s => B_X12_without_37 a1 y2 y3 x4 x5 h s.1 s.2) (x6, x7)
def O_X12_without_37 (a1 : Int) (y2 : Int) (y3 : Int) (x4 : Int) (x5 : Int) (h : pH) (x6 : Int) (x7 : Int) : Prop := fx_ok (σ := Int × Int) (fun s => C_X12_without_37 a1 y2 y3 x4 x5 h s.1 s.2) (fun s => B_X12_without_37 a1 y2 y3 x4 x5 h s.1 s.2) (fun s => P_X12_without_37 a1 y2 y3 x4 x5 h s.1 s.2) (x6, x7)
set_option maxHeartbeats 4000000 in
theorem lp_X12_without_37 (a1 : Int) (y2 : Int) (y3 : Int) (x4 : Int) (x5 : Int) (h : pH) (x6 : Int) (x7 : Int) {Q : Option pV → pH → Prop} (hp : O_X12_without_37 a1 y2 y3 x4 x5 h x6 x7) (kk : ∀ us : List pV, WP 206 (55, [(14, 248), (0, a1), (0, y2), (0, y3), (0, x4), (0, x5), (0, (L_X12_without_37 a1 y2 y3 x4 x5 h x6 x7).1), (0, (L_X12_without_37 a1 y2 y3 x4 x5 h x6 x7).2), us.getD 0 pU], [], h) Q) : ∀ us : List pV, WP 206 (37, [(14, 248), (0, a1), (0, y2), (0, y3), (0, x4), (0, x5), (0, x6), (0, x7), us.getD 0 pU], [], h) Q := by
  refine WP.wh (σ := Int × Int) (fun s => C_X12_without_37 a1 y2 y3 x4 x5 h s.1 s.2) (fun s => B_X12_without_37 a1 y2 y3 x4 x5 h s.1 s.2) (fun s => P_X12_without_37 a1 y2 y3 x4 x5 h s.1 s.2) (fun s us => (37, [(14, 248), (0, a1), (0, y2), (0, y3), (0, x4), (0, x5), (0, s.1), (0, s.2), us.getD 0 pU], [], h)) (x6, x7) hp ?_ ?_
  · intro s us hP hc kk
    obtain ⟨x6, x7⟩ := s
    change P_X12_without_37 a1 y2 y3 x4 x5 h x6 x7 at hP
    change x7 < y2 at hc
    replace kk : ∀ (us' : List pV) (s' : Int × Int), s' = B_X12_without_37 a1 y2 y3 x4 x5 h x6 x7 → WP 206 (37, [(14, 248), (0, a1), (0, y2), (0, y3), (0, x4), (0, x5), (0, s'.1), (0, s'.2), us'.getD 0 pU], [], h) Q := fun us' s' e => by subst e; exact kk us'
    unfold P_X12_without_37 at hP
    obtain ⟨o10, o11⟩ := hP hc
    show WP 206 (37, [(14, 248), (0, a1), (0, y2), (0, y3), (0, x4), (0, x5), (0, x6), (0, x7), us.getD 0 pU], [], h) Q
    refine WP.iload rfl rfl ?_
    refine WP.iload_n rfl rfl ?_
    refine WP.ni_ge rfl (fun c9 => ?_) (fun c9 => ?_)
    · exact absurd hc (Int.not_lt.mpr c9)
    · refine WP.iload rfl rfl ?_
      refine WP.iload rfl rfl ?_
      refine WP.iload rfl rfl ?_
      refine WP.ishr rfl ?_
      refine WP.iconst rfl ?_
      refine WP.iand rfl ?_
      refine WP.aload_n rfl rfl ⟨by decide, by decide⟩ ?_
      refine WP.getRF (b := 267) rfl rfl rfl ?_
      refine WP.iload rfl rfl ?_
      refine WP.iaload rfl ⟨by decide, by decide, by decide⟩ o10 ?_
      refine WP.ishl rfl ?_
      refine WP.ior rfl ?_
      refine WP.istore (L' := [(14, 248), (0, a1), (0, y2), (0, y3), (0, x4), (0, x5), (0, pm_or x6 (pm_shl (pm_and (pm_shr x5 x7) 1) (h 267 x7))), (0, x7), us.getD 0 pU]) rfl rfl ?_
      refine WP.iincE (L' := [(14, 248), (0, a1), (0, y2), (0, y3), (0, x4), (0, x5), (0, pm_or x6 (pm_shl (pm_and (pm_shr x5 x7) 1) (h 267 x7))), (0, x7 + 1), us.getD 0 pU]) rfl rfl o11 rfl ?_
      refine WP.goto rfl ?_
      exact kk [us.getD 0 pU] (pm_or x6 (pm_shl (pm_and (pm_shr x5 x7) 1) (h 267 x7)), x7 + 1) (rfl)
  · intro hP hc
    generalize hs : (L_X12_without_37 a1 y2 y3 x4 x5 h x6 x7 : Int × Int) = s at kk
    change P_X12_without_37 a1 y2 y3 x4 x5 h (L_X12_without_37 a1 y2 y3 x4 x5 h x6 x7).1 (L_X12_without_37 a1 y2 y3 x4 x5 h x6 x7).2 at hP
    change ¬ C_X12_without_37 a1 y2 y3 x4 x5 h (L_X12_without_37 a1 y2 y3 x4 x5 h x6 x7).1 (L_X12_without_37 a1 y2 y3 x4 x5 h x6 x7).2 at hc
    intro us
    show WP 206 (37, [(14, 248), (0, a1), (0, y2), (0, y3), (0, x4), (0, x5), (0, (L_X12_without_37 a1 y2 y3 x4 x5 h x6 x7).1), (0, (L_X12_without_37 a1 y2 y3 x4 x5 h x6 x7).2), us.getD 0 pU], [], h) Q
    rw [hs] at hP hc ⊢
    obtain ⟨x6, x7⟩ := s
    change P_X12_without_37 a1 y2 y3 x4 x5 h x6 x7 at hP
    change ¬ (x7 < y2) at hc
    unfold P_X12_without_37 at hP
    show WP 206 (37, [(14, 248), (0, a1), (0, y2), (0, y3), (0, x4), (0, x5), (0, x6), (0, x7), us.getD 0 pU], [], h) Q
    refine WP.iload rfl rfl ?_
    refine WP.iload_n rfl rfl ?_
    refine WP.ni_ge rfl (fun c8 => ?_) (fun c8 => ?_)
    · exact kk [us.getD 0 pU]
    · exact absurd (show x7 < y2 from c8) hc
noncomputable def s_X12_without_1 (a1 : Int) (y2 : Int) (y3 : Int) (x4 : Int) (x5 : Int) (h : pH) : Int := (L_X12_without_37 a1 y2 y3 x4 x5 h 0 0).1
noncomputable def s_X12_without_2 (a1 : Int) (y2 : Int) (y3 : Int) (x4 : Int) (x5 : Int) (h : pH) : Int := (L_X12_without_37 a1 y2 y3 x4 x5 h 0 0).2
noncomputable def s_X12_without_3 (y6 : Int) (x8 : Int) (h : pH) : Int := if pm_and (pm_shr y6 x8) 1 = 1 then 9 else h 249 (328 + x8)
def C_X12_without_79 (a1 : Int) (y2 : Int) (y3 : Int) (x4 : Int) (x5 : Int) (y6 : Int) (x8 : Int) (h : pH) : Prop := x8 < h 249 13
noncomputable def B_X12_without_79 (a1 : Int) (y2 : Int) (y3 : Int) (x4 : Int) (x5 : Int) (y6 : Int) (x8 : Int) (h : pH) : Int × pH := (x8 + 1, pm_upd h 249 (328 + x8) (s_X12_without_3 y6 x8 h))
noncomputable def P_X12_without_79 (a1 : Int) (y2 : Int) (y3 : Int) (x4 : Int) (x5 : Int) (y6 : Int) (x8 : Int) (h : pH) : Prop := ((x8 < h 249 13) → (fx_i (328 + x8)) ∧ (((¬ pm_and (pm_shr y6 x8) 1 = 1) → ((0 ≤ 328 + x8 ∧ 328 + x8 < 620)))) ∧ (0 ≤ 328 + x8 ∧ 328 + x8 < 620) ∧ (fx_i (x8 + 1)))
noncomputable def L_X12_without_79 (a1 : Int) (y2 : Int) (y3 : Int) (x4 : Int) (x5 : Int) (y6 : Int) (x8 : Int) (h : pH) : Int × pH := fx_wh (σ := Int × pH) (fun s => C_X12_without_79 a1 y2 y3 x4 x5 y6 s.1 s.2) (fun s => B_X12_without_79 a1 y2 y3 x4 x5 y6 s.1 s.2) (x8, h)
def O_X12_without_79 (a1 : Int) (y2 : Int) (y3 : Int) (x4 : Int) (x5 : Int) (y6 : Int) (x8 : Int) (h : pH) : Prop := fx_ok (σ := Int × pH) (fun s => C_X12_without_79 a1 y2 y3 x4 x5 y6 s.1 s.2) (fun s => B_X12_without_79 a1 y2 y3 x4 x5 y6 s.1 s.2) (fun s => P_X12_without_79 a1 y2 y3 x4 x5 y6 s.1 s.2) (x8, h)
set_option maxHeartbeats 4000000 in
theorem lp_X12_without_79 (a1 : Int) (y2 : Int) (y3 : Int) (x4 : Int) (x5 : Int) (y6 : Int) (x8 : Int) (h : pH) {Q : Option pV → pH → Prop} (hp : O_X12_without_79 a1 y2 y3 x4 x5 y6 x8 h) (kk : ∀ us : List pV, WP 206 (110, [(14, 248), (0, a1), (0, y2), (0, y3), (0, x4), (0, x5), (0, y6), us.getD 0 pU, (0, (L_X12_without_79 a1 y2 y3 x4 x5 y6 x8 h).1)], [], (L_X12_without_79 a1 y2 y3 x4 x5 y6 x8 h).2) Q) : ∀ us : List pV, WP 206 (79, [(14, 248), (0, a1), (0, y2), (0, y3), (0, x4), (0, x5), (0, y6), us.getD 0 pU, (0, x8)], [], h) Q := by
  refine WP.wh (σ := Int × pH) (fun s => C_X12_without_79 a1 y2 y3 x4 x5 y6 s.1 s.2) (fun s => B_X12_without_79 a1 y2 y3 x4 x5 y6 s.1 s.2) (fun s => P_X12_without_79 a1 y2 y3 x4 x5 y6 s.1 s.2) (fun s us => (79, [(14, 248), (0, a1), (0, y2), (0, y3), (0, x4), (0, x5), (0, y6), us.getD 0 pU, (0, s.1)], [], s.2)) (x8, h) hp ?_ ?_
  · intro s us hP hc kk
    obtain ⟨x8, h⟩ := s
    change P_X12_without_79 a1 y2 y3 x4 x5 y6 x8 h at hP
    change x8 < h 249 13 at hc
    replace kk : ∀ (us' : List pV) (s' : Int × pH), s' = B_X12_without_79 a1 y2 y3 x4 x5 y6 x8 h → WP 206 (79, [(14, 248), (0, a1), (0, y2), (0, y3), (0, x4), (0, x5), (0, y6), us'.getD 0 pU, (0, s'.1)], [], s'.2) Q := fun us' s' e => by subst e; exact kk us'
    unfold P_X12_without_79 at hP
    obtain ⟨o28, q34, o35, o36⟩ := hP hc
    show WP 206 (79, [(14, 248), (0, a1), (0, y2), (0, y3), (0, x4), (0, x5), (0, y6), us.getD 0 pU, (0, x8)], [], h) Q
    refine WP.iload rfl rfl ?_
    refine WP.i2l rfl ?_
    refine WP.aload_n rfl rfl ⟨by decide, by decide⟩ ?_
    refine WP.getRF (b := 249) rfl rfl rfl ?_
    refine WP.bipush rfl ?_
    refine WP.laload rfl ⟨by decide, by decide, by decide⟩ (by decide) ?_
    refine WP.lcmp rfl ?_
    refine WP.nl_ge rfl (fun c27 => ?_) (fun c27 => ?_)
    · exact absurd hc (Int.not_lt.mpr c27)
    · refine WP.aload_n rfl rfl ⟨by decide, by decide⟩ ?_
      refine WP.getRF (b := 249) rfl rfl rfl ?_
      refine WP.sipush rfl ?_
      refine WP.iload rfl rfl ?_
      refine WP.iaddE rfl o28 ?_
      refine WP.iload rfl rfl ?_
      refine WP.iload rfl rfl ?_
      refine WP.ishr rfl ?_
      refine WP.iconst rfl ?_
      refine WP.iand rfl ?_
      refine WP.iconst rfl ?_
      have k29 : ∀ Q' : Option pV → pH → Prop, (WP 206 (107, [(14, 248), (0, a1), (0, y2), (0, y3), (0, x4), (0, x5), (0, y6), us.getD 0 pU, (0, x8)], [(1, s_X12_without_3 y6 x8 h), (0, 328 + x8), (3481, 249)], h) Q') → WP 206 (98, [(14, 248), (0, a1), (0, y2), (0, y3), (0, x4), (0, x5), (0, y6), us.getD 0 pU, (0, x8)], [(0, 1), (0, pm_and (pm_shr y6 x8) 1), (0, 328 + x8), (3481, 249)], h) Q' := fun Q' kk => by
        have q32 := q34
        refine WP.ni_ne rfl (fun c30 => ?_) (fun c30 => ?_)
        · have o31 := q32 c30
          refine WP.aload_n rfl rfl ⟨by decide, by decide⟩ ?_
          refine WP.getRF (b := 249) rfl rfl rfl ?_
          refine WP.sipush rfl ?_
          refine WP.iload rfl rfl ?_
          refine WP.iaddE rfl o28 ?_
          refine WP.laload rfl ⟨by decide, by decide, by decide⟩ o31 ?_
          have e := kk; simp only [s_X12_without_3, if_neg (c30)] at e ⊢; exact e
        · refine WP.ldc2_w rfl ?_
          refine WP.goto rfl ?_
          have e := kk; simp only [s_X12_without_3, if_pos c30] at e ⊢; exact e
      refine k29 _ ?_
      refine WP.lastore rfl ⟨by decide, by decide, by decide⟩ o35 ?_
      refine WP.iincE (L' := [(14, 248), (0, a1), (0, y2), (0, y3), (0, x4), (0, x5), (0, y6), if (us.getD 0 pU).1 = 1 then pU else us.getD 0 pU, (0, x8 + 1)]) rfl rfl o36 rfl ?_
      refine WP.goto rfl ?_
      exact kk [if (us.getD 0 pU).1 = 1 then pU else us.getD 0 pU] (x8 + 1, pm_upd h 249 (328 + x8) (s_X12_without_3 y6 x8 h)) (rfl)
  · intro hP hc
    generalize hs : (L_X12_without_79 a1 y2 y3 x4 x5 y6 x8 h : Int × pH) = s at kk
    change P_X12_without_79 a1 y2 y3 x4 x5 y6 (L_X12_without_79 a1 y2 y3 x4 x5 y6 x8 h).1 (L_X12_without_79 a1 y2 y3 x4 x5 y6 x8 h).2 at hP
    change ¬ C_X12_without_79 a1 y2 y3 x4 x5 y6 (L_X12_without_79 a1 y2 y3 x4 x5 y6 x8 h).1 (L_X12_without_79 a1 y2 y3 x4 x5 y6 x8 h).2 at hc
    intro us
    show WP 206 (79, [(14, 248), (0, a1), (0, y2), (0, y3), (0, x4), (0, x5), (0, y6), us.getD 0 pU, (0, (L_X12_without_79 a1 y2 y3 x4 x5 y6 x8 h).1)], [], (L_X12_without_79 a1 y2 y3 x4 x5 y6 x8 h).2) Q
    rw [hs] at hP hc ⊢
    obtain ⟨x8, h⟩ := s
    change P_X12_without_79 a1 y2 y3 x4 x5 y6 x8 h at hP
    change ¬ (x8 < h 249 13) at hc
    unfold P_X12_without_79 at hP
    show WP 206 (79, [(14, 248), (0, a1), (0, y2), (0, y3), (0, x4), (0, x5), (0, y6), us.getD 0 pU, (0, x8)], [], h) Q
    refine WP.iload rfl rfl ?_
    refine WP.i2l rfl ?_
    refine WP.aload_n rfl rfl ⟨by decide, by decide⟩ ?_
    refine WP.getRF (b := 249) rfl rfl rfl ?_
    refine WP.bipush rfl ?_
    refine WP.laload rfl ⟨by decide, by decide, by decide⟩ (by decide) ?_
    refine WP.lcmp rfl ?_
    refine WP.nl_ge rfl (fun c26 => ?_) (fun c26 => ?_)
    · exact kk [us.getD 0 pU]
    · exact absurd (show x8 < h 249 13 from c26) hc
noncomputable def s_X12_without_4 (a1 : Int) (y2 : Int) (y3 : Int) (x4 : Int) (x5 : Int) (h : pH) : Int := (L_X12_without_79 a1 y2 y3 x4 x5 (s_X12_without_1 a1 y2 y3 x4 x5 h) 0 h).1
noncomputable def s_X12_without_5 (a1 : Int) (y2 : Int) (y3 : Int) (x4 : Int) (x5 : Int) (h : pH) : pH := (L_X12_without_79 a1 y2 y3 x4 x5 (s_X12_without_1 a1 y2 y3 x4 x5 h) 0 h).2
def C_X12_without_112 (a1 : Int) (y2 : Int) (y3 : Int) (x4 : Int) (x5 : Int) (y6 : Int) (x8 : Int) (h : pH) : Prop := x8 < a1
noncomputable def B_X12_without_112 (a1 : Int) (y2 : Int) (y3 : Int) (x4 : Int) (x5 : Int) (y6 : Int) (x8 : Int) (h : pH) : Int × pH := (x8 + 1, H_X12_minute h)
noncomputable def P_X12_without_112 (a1 : Int) (y2 : Int) (y3 : Int) (x4 : Int) (x5 : Int) (y6 : Int) (x8 : Int) (h : pH) : Prop := ((x8 < a1) → P_X12_minute h ∧ (fx_i (x8 + 1)))
noncomputable def L_X12_without_112 (a1 : Int) (y2 : Int) (y3 : Int) (x4 : Int) (x5 : Int) (y6 : Int) (x8 : Int) (h : pH) : Int × pH := fx_wh (σ := Int × pH) (fun s => C_X12_without_112 a1 y2 y3 x4 x5 y6 s.1 s.2) (fun s => B_X12_without_112 a1 y2 y3 x4 x5 y6 s.1 s.2) (x8, h)
def O_X12_without_112 (a1 : Int) (y2 : Int) (y3 : Int) (x4 : Int) (x5 : Int) (y6 : Int) (x8 : Int) (h : pH) : Prop := fx_ok (σ := Int × pH) (fun s => C_X12_without_112 a1 y2 y3 x4 x5 y6 s.1 s.2) (fun s => B_X12_without_112 a1 y2 y3 x4 x5 y6 s.1 s.2) (fun s => P_X12_without_112 a1 y2 y3 x4 x5 y6 s.1 s.2) (x8, h)
set_option maxHeartbeats 4000000 in
theorem lp_X12_without_112 (a1 : Int) (y2 : Int) (y3 : Int) (x4 : Int) (x5 : Int) (y6 : Int) (x8 : Int) (h : pH) {Q : Option pV → pH → Prop} (hp : O_X12_without_112 a1 y2 y3 x4 x5 y6 x8 h) (kk : ∀ us : List pV, WP 206 (119, [(14, 248), (0, a1), (0, y2), (0, y3), (0, x4), (0, x5), (0, y6), us.getD 0 pU, (0, (L_X12_without_112 a1 y2 y3 x4 x5 y6 x8 h).1)], [], (L_X12_without_112 a1 y2 y3 x4 x5 y6 x8 h).2) Q) : ∀ us : List pV, WP 206 (112, [(14, 248), (0, a1), (0, y2), (0, y3), (0, x4), (0, x5), (0, y6), us.getD 0 pU, (0, x8)], [], h) Q := by
  refine WP.wh (σ := Int × pH) (fun s => C_X12_without_112 a1 y2 y3 x4 x5 y6 s.1 s.2) (fun s => B_X12_without_112 a1 y2 y3 x4 x5 y6 s.1 s.2) (fun s => P_X12_without_112 a1 y2 y3 x4 x5 y6 s.1 s.2) (fun s us => (112, [(14, 248), (0, a1), (0, y2), (0, y3), (0, x4), (0, x5), (0, y6), us.getD 0 pU, (0, s.1)], [], s.2)) (x8, h) hp ?_ ?_
  · intro s us hP hc kk
    obtain ⟨x8, h⟩ := s
    change P_X12_without_112 a1 y2 y3 x4 x5 y6 x8 h at hP
    change x8 < a1 at hc
    replace kk : ∀ (us' : List pV) (s' : Int × pH), s' = B_X12_without_112 a1 y2 y3 x4 x5 y6 x8 h → WP 206 (112, [(14, 248), (0, a1), (0, y2), (0, y3), (0, x4), (0, x5), (0, y6), us'.getD 0 pU, (0, s'.1)], [], s'.2) Q := fun us' s' e => by subst e; exact kk us'
    unfold P_X12_without_112 at hP
    obtain ⟨o41, o42⟩ := hP hc
    show WP 206 (112, [(14, 248), (0, a1), (0, y2), (0, y3), (0, x4), (0, x5), (0, y6), us.getD 0 pU, (0, x8)], [], h) Q
    refine WP.iload rfl rfl ?_
    refine WP.iload_n rfl rfl ?_
    refine WP.ni_ge rfl (fun c40 => ?_) (fun c40 => ?_)
    · exact absurd hc (Int.not_lt.mpr c40)
    · refine WP.aload_n rfl rfl ⟨by decide, by decide⟩ ?_
      refine WP.callF (c_X12_minute h o41) rfl rfl (pm_cok rfl rfl (Or.inr ⟨_, _, rfl⟩) rfl rfl) rfl rfl ?_
      show WP 206 (117, [(14, 248), (0, a1), (0, y2), (0, y3), (0, x4), (0, x5), (0, y6), us.getD 0 pU, (0, x8)], [], H_X12_minute h) Q
      refine WP.iincE (L' := [(14, 248), (0, a1), (0, y2), (0, y3), (0, x4), (0, x5), (0, y6), if (us.getD 0 pU).1 = 1 then pU else us.getD 0 pU, (0, x8 + 1)]) rfl rfl o42 rfl ?_
      refine WP.goto rfl ?_
      exact kk [if (us.getD 0 pU).1 = 1 then pU else us.getD 0 pU] (x8 + 1, H_X12_minute h) (rfl)
  · intro hP hc
    generalize hs : (L_X12_without_112 a1 y2 y3 x4 x5 y6 x8 h : Int × pH) = s at kk
    change P_X12_without_112 a1 y2 y3 x4 x5 y6 (L_X12_without_112 a1 y2 y3 x4 x5 y6 x8 h).1 (L_X12_without_112 a1 y2 y3 x4 x5 y6 x8 h).2 at hP
    change ¬ C_X12_without_112 a1 y2 y3 x4 x5 y6 (L_X12_without_112 a1 y2 y3 x4 x5 y6 x8 h).1 (L_X12_without_112 a1 y2 y3 x4 x5 y6 x8 h).2 at hc
    intro us
    show WP 206 (112, [(14, 248), (0, a1), (0, y2), (0, y3), (0, x4), (0, x5), (0, y6), us.getD 0 pU, (0, (L_X12_without_112 a1 y2 y3 x4 x5 y6 x8 h).1)], [], (L_X12_without_112 a1 y2 y3 x4 x5 y6 x8 h).2) Q
    rw [hs] at hP hc ⊢
    obtain ⟨x8, h⟩ := s
    change P_X12_without_112 a1 y2 y3 x4 x5 y6 x8 h at hP
    change ¬ (x8 < a1) at hc
    unfold P_X12_without_112 at hP
    show WP 206 (112, [(14, 248), (0, a1), (0, y2), (0, y3), (0, x4), (0, x5), (0, y6), us.getD 0 pU, (0, x8)], [], h) Q
    refine WP.iload rfl rfl ?_
    refine WP.iload_n rfl rfl ?_
    refine WP.ni_ge rfl (fun c39 => ?_) (fun c39 => ?_)
    · exact kk [us.getD 0 pU]
    · exact absurd (show x8 < a1 from c39) hc
noncomputable def s_X12_without_6 (a1 : Int) (y2 : Int) (y3 : Int) (x4 : Int) (x5 : Int) (h : pH) : Int := (L_X12_without_112 a1 y2 y3 x4 x5 (s_X12_without_1 a1 y2 y3 x4 x5 h) 0 (s_X12_without_5 a1 y2 y3 x4 x5 h)).1
noncomputable def s_X12_without_7 (a1 : Int) (y2 : Int) (y3 : Int) (x4 : Int) (x5 : Int) (h : pH) : pH := (L_X12_without_112 a1 y2 y3 x4 x5 (s_X12_without_1 a1 y2 y3 x4 x5 h) 0 (s_X12_without_5 a1 y2 y3 x4 x5 h)).2
noncomputable def s_X12_without_8 (a1 : Int) (y2 : Int) (y3 : Int) (x4 : Int) (x5 : Int) (h : pH) : Int := if F_X12_broken (s_X12_without_7 a1 y2 y3 x4 x5 h) = y3 then s_X12_without_1 a1 y2 y3 x4 x5 h else x4
noncomputable def s_X12_without_9 (a1 : Int) (y2 : Int) (y3 : Int) (x4 : Int) (x5 : Int) (h : pH) : pH := if x4 = (-1) ∨ (F_X12_bitsIn (s_X12_without_1 a1 y2 y3 x4 x5 h) h < F_X12_bitsIn x4 h ∨ (F_X12_bitsIn (s_X12_without_1 a1 y2 y3 x4 x5 h) h = F_X12_bitsIn x4 h ∧ s_X12_without_1 a1 y2 y3 x4 x5 h < x4)) then H_X12_copy 250 249 (s_X12_without_7 a1 y2 y3 x4 x5 h) else h
noncomputable def s_X12_without_10 (a1 : Int) (y2 : Int) (y3 : Int) (x4 : Int) (x5 : Int) (h : pH) : Int := if x4 = (-1) ∨ (F_X12_bitsIn (s_X12_without_1 a1 y2 y3 x4 x5 h) h < F_X12_bitsIn x4 h ∨ (F_X12_bitsIn (s_X12_without_1 a1 y2 y3 x4 x5 h) h = F_X12_bitsIn x4 h ∧ s_X12_without_1 a1 y2 y3 x4 x5 h < x4)) then s_X12_without_8 a1 y2 y3 x4 x5 h else x4
def C_X12_without_28 (a1 : Int) (y2 : Int) (y3 : Int) (x4 : Int) (x5 : Int) (h : pH) : Prop := x5 < pm_shl 1 y2
noncomputable def B_X12_without_28 (a1 : Int) (y2 : Int) (y3 : Int) (x4 : Int) (x5 : Int) (h : pH) : Int × Int × pH := (s_X12_without_10 a1 y2 y3 x4 x5 h, x5 + 1, s_X12_without_9 a1 y2 y3 x4 x5 h)
noncomputable def P_X12_without_28 (a1 : Int) (y2 : Int) (y3 : Int) (x4 : Int) (x5 : Int) (h : pH) : Prop := ((x5 < pm_shl 1 y2) → O_X12_without_37 a1 y2 y3 x4 x5 h 0 0 ∧ (((¬ x4 = (-1)) → ((P_X12_bitsIn (s_X12_without_1 a1 y2 y3 x4 x5 h) h) ∧ P_X12_bitsIn x4 h))) ∧ (((x4 = (-1) ∨ (F_X12_bitsIn (s_X12_without_1 a1 y2 y3 x4 x5 h) h < F_X12_bitsIn x4 h ∨ (F_X12_bitsIn (s_X12_without_1 a1 y2 y3 x4 x5 h) h = F_X12_bitsIn x4 h ∧ s_X12_without_1 a1 y2 y3 x4 x5 h < x4))) → ((O_X12_without_79 a1 y2 y3 x4 x5 (s_X12_without_1 a1 y2 y3 x4 x5 h) 0 h) ∧ (O_X12_without_112 a1 y2 y3 x4 x5 (s_X12_without_1 a1 y2 y3 x4 x5 h) 0 (s_X12_without_5 a1 y2 y3 x4 x5 h)) ∧ (P_X12_broken (s_X12_without_7 a1 y2 y3 x4 x5 h)) ∧ (P_X12_copy 250 249 (s_X12_without_7 a1 y2 y3 x4 x5 h))))) ∧ (fx_i (x5 + 1)))
noncomputable def L_X12_without_28 (a1 : Int) (y2 : Int) (y3 : Int) (x4 : Int) (x5 : Int) (h : pH) : Int × Int × pH := fx_wh (σ := Int × Int × pH) (fun s => C_X12_without_28 a1 y2 y3 s.1 s.2.1 s.2.2) (fun s => B_X12_without_28 a1 y2 y3 s.1 s.2.1 s.2.2) (x4, x5, h)
def O_X12_without_28 (a1 : Int) (y2 : Int) (y3 : Int) (x4 : Int) (x5 : Int) (h : pH) : Prop := fx_ok (σ := Int × Int × pH) (fun s => C_X12_without_28 a1 y2 y3 s.1 s.2.1 s.2.2) (fun s => B_X12_without_28 a1 y2 y3 s.1 s.2.1 s.2.2) (fun s => P_X12_without_28 a1 y2 y3 s.1 s.2.1 s.2.2) (x4, x5, h)
set_option maxHeartbeats 4000000 in
theorem lp_X12_without_28 (a1 : Int) (y2 : Int) (y3 : Int) (x4 : Int) (x5 : Int) (h : pH) {Q : Option pV → pH → Prop} (hp : O_X12_without_28 a1 y2 y3 x4 x5 h) (kk : ∀ us : List pV, WP 206 (134, [(14, 248), (0, a1), (0, y2), (0, y3), (0, (L_X12_without_28 a1 y2 y3 x4 x5 h).1), (0, (L_X12_without_28 a1 y2 y3 x4 x5 h).2.1), us.getD 0 pU, us.getD 1 pU, us.getD 2 pU], [], (L_X12_without_28 a1 y2 y3 x4 x5 h).2.2) Q) : ∀ us : List pV, WP 206 (28, [(14, 248), (0, a1), (0, y2), (0, y3), (0, x4), (0, x5), us.getD 0 pU, us.getD 1 pU, us.getD 2 pU], [], h) Q := by
  refine WP.wh (σ := Int × Int × pH) (fun s => C_X12_without_28 a1 y2 y3 s.1 s.2.1 s.2.2) (fun s => B_X12_without_28 a1 y2 y3 s.1 s.2.1 s.2.2) (fun s => P_X12_without_28 a1 y2 y3 s.1 s.2.1 s.2.2) (fun s us => (28, [(14, 248), (0, a1), (0, y2), (0, y3), (0, s.1), (0, s.2.1), us.getD 0 pU, us.getD 1 pU, us.getD 2 pU], [], s.2.2)) (x4, x5, h) hp ?_ ?_
  · intro s us hP hc kk
    obtain ⟨x4, x5, h⟩ := s
    change P_X12_without_28 a1 y2 y3 x4 x5 h at hP
    change x5 < pm_shl 1 y2 at hc
    replace kk : ∀ (us' : List pV) (s' : Int × Int × pH), s' = B_X12_without_28 a1 y2 y3 x4 x5 h → WP 206 (28, [(14, 248), (0, a1), (0, y2), (0, y3), (0, s'.1), (0, s'.2.1), us'.getD 0 pU, us'.getD 1 pU, us'.getD 2 pU], [], s'.2.2) Q := fun us' s' e => by subst e; exact kk us'
    unfold P_X12_without_28 at hP
    obtain ⟨o12, q23, q52, o53⟩ := hP hc
    show WP 206 (28, [(14, 248), (0, a1), (0, y2), (0, y3), (0, x4), (0, x5), us.getD 0 pU, us.getD 1 pU, us.getD 2 pU], [], h) Q
    refine WP.iload rfl rfl ?_
    refine WP.iconst rfl ?_
    refine WP.iload_n rfl rfl ?_
    refine WP.ishl rfl ?_
    refine WP.ni_ge rfl (fun c7 => ?_) (fun c7 => ?_)
    · exact absurd hc (Int.not_lt.mpr c7)
    · refine WP.iconst rfl ?_
      refine WP.istore (L' := [(14, 248), (0, a1), (0, y2), (0, y3), (0, x4), (0, x5), (0, 0), us.getD 1 pU, us.getD 2 pU]) rfl rfl ?_
      refine WP.iconst rfl ?_
      refine WP.istore (L' := [(14, 248), (0, a1), (0, y2), (0, y3), (0, x4), (0, x5), (0, 0), (0, 0), us.getD 2 pU]) rfl rfl ?_
      refine lp_X12_without_37 a1 y2 y3 x4 x5 h 0 0 o12 (fun us13 => ?_) [us.getD 2 pU]
      show WP 206 (55, [(14, 248), (0, a1), (0, y2), (0, y3), (0, x4), (0, x5), (0, s_X12_without_1 a1 y2 y3 x4 x5 h), (0, s_X12_without_2 a1 y2 y3 x4 x5 h), us13.getD 0 pU], [], h) Q
      refine WP.iload rfl rfl ?_
      refine WP.iconst rfl ?_
      have k14 : ∀ Q' : Option pV → pH → Prop, (WP 206 (74, [(14, 248), (0, a1), (0, y2), (0, y3), (0, x4), (0, x5), (0, s_X12_without_1 a1 y2 y3 x4 x5 h), (0, s_X12_without_2 a1 y2 y3 x4 x5 h), us13.getD 0 pU], [(0, if x4 = (-1) ∨ (F_X12_bitsIn (s_X12_without_1 a1 y2 y3 x4 x5 h) h < F_X12_bitsIn x4 h ∨ (F_X12_bitsIn (s_X12_without_1 a1 y2 y3 x4 x5 h) h = F_X12_bitsIn x4 h ∧ s_X12_without_1 a1 y2 y3 x4 x5 h < x4)) then 1 else 0)], h) Q') → WP 206 (57, [(14, 248), (0, a1), (0, y2), (0, y3), (0, x4), (0, x5), (0, s_X12_without_1 a1 y2 y3 x4 x5 h), (0, s_X12_without_2 a1 y2 y3 x4 x5 h), us13.getD 0 pU], [(0, (-1)), (0, x4)], h) Q' := fun Q' kk => by
        have q21 := q23
        refine WP.ni_eq rfl (fun c15 => ?_) (fun c15 => ?_)
        · refine WP.iconst rfl ?_
          refine WP.goto rfl ?_
          have e := kk; simp only [if_pos c15, if_pos (show x4 = (-1) ∨ (F_X12_bitsIn (s_X12_without_1 a1 y2 y3 x4 x5 h) h < F_X12_bitsIn x4 h ∨ (F_X12_bitsIn (s_X12_without_1 a1 y2 y3 x4 x5 h) h = F_X12_bitsIn x4 h ∧ s_X12_without_1 a1 y2 y3 x4 x5 h < x4)) from Or.inl c15)] at e ⊢; exact e
        · obtain ⟨o16, o17⟩ := q21 c15
          refine WP.iload rfl rfl ?_
          refine WP.callF (c_X12_bitsIn (s_X12_without_1 a1 y2 y3 x4 x5 h) h o16) rfl rfl (pm_cok rfl rfl (Or.inl rfl) rfl rfl) rfl rfl ?_
          show WP 206 (60, [(14, 248), (0, a1), (0, y2), (0, y3), (0, x4), (0, x5), (0, s_X12_without_1 a1 y2 y3 x4 x5 h), (0, s_X12_without_2 a1 y2 y3 x4 x5 h), us13.getD 0 pU], [(0, F_X12_bitsIn (s_X12_without_1 a1 y2 y3 x4 x5 h) h)], h) Q'
          refine WP.iload rfl rfl ?_
          refine WP.callF (c_X12_bitsIn x4 h o17) rfl rfl (pm_cok rfl rfl (Or.inl rfl) rfl rfl) rfl rfl ?_
          show WP 206 (62, [(14, 248), (0, a1), (0, y2), (0, y3), (0, x4), (0, x5), (0, s_X12_without_1 a1 y2 y3 x4 x5 h), (0, s_X12_without_2 a1 y2 y3 x4 x5 h), us13.getD 0 pU], [(0, F_X12_bitsIn x4 h), (0, F_X12_bitsIn (s_X12_without_1 a1 y2 y3 x4 x5 h) h)], h) Q'
          refine WP.ni_lt rfl (fun c18 => ?_) (fun c18 => ?_)
          · refine WP.iconst rfl ?_
            refine WP.goto rfl ?_
            have e := kk; simp only [if_neg (c15), if_pos c18, if_pos (show x4 = (-1) ∨ (F_X12_bitsIn (s_X12_without_1 a1 y2 y3 x4 x5 h) h < F_X12_bitsIn x4 h ∨ (F_X12_bitsIn (s_X12_without_1 a1 y2 y3 x4 x5 h) h = F_X12_bitsIn x4 h ∧ s_X12_without_1 a1 y2 y3 x4 x5 h < x4)) from Or.inr (Or.inl c18))] at e ⊢; exact e
          · refine WP.iload rfl rfl ?_
            refine WP.callF (c_X12_bitsIn (s_X12_without_1 a1 y2 y3 x4 x5 h) h o16) rfl rfl (pm_cok rfl rfl (Or.inl rfl) rfl rfl) rfl rfl ?_
            show WP 206 (65, [(14, 248), (0, a1), (0, y2), (0, y3), (0, x4), (0, x5), (0, s_X12_without_1 a1 y2 y3 x4 x5 h), (0, s_X12_without_2 a1 y2 y3 x4 x5 h), us13.getD 0 pU], [(0, F_X12_bitsIn (s_X12_without_1 a1 y2 y3 x4 x5 h) h)], h) Q'
            refine WP.iload rfl rfl ?_
            refine WP.callF (c_X12_bitsIn x4 h o17) rfl rfl (pm_cok rfl rfl (Or.inl rfl) rfl rfl) rfl rfl ?_
            show WP 206 (67, [(14, 248), (0, a1), (0, y2), (0, y3), (0, x4), (0, x5), (0, s_X12_without_1 a1 y2 y3 x4 x5 h), (0, s_X12_without_2 a1 y2 y3 x4 x5 h), us13.getD 0 pU], [(0, F_X12_bitsIn x4 h), (0, F_X12_bitsIn (s_X12_without_1 a1 y2 y3 x4 x5 h) h)], h) Q'
            refine WP.ni_ne rfl (fun c19 => ?_) (fun c19 => ?_)
            · refine WP.iconst rfl ?_
              have e := kk; simp only [if_neg (c15), if_neg (Int.not_lt.mpr c18), if_neg (c19), if_neg (show ¬ (x4 = (-1) ∨ (F_X12_bitsIn (s_X12_without_1 a1 y2 y3 x4 x5 h) h < F_X12_bitsIn x4 h ∨ (F_X12_bitsIn (s_X12_without_1 a1 y2 y3 x4 x5 h) h = F_X12_bitsIn x4 h ∧ s_X12_without_1 a1 y2 y3 x4 x5 h < x4))) from fun q => q.elim (c15) (fun q => q.elim (Int.not_lt.mpr c18) (fun q => (c19) q.1)))] at e ⊢; exact e
            · refine WP.iload rfl rfl ?_
              refine WP.iload rfl rfl ?_
              refine WP.ni_ge rfl (fun c20 => ?_) (fun c20 => ?_)
              · refine WP.iconst rfl ?_
                have e := kk; simp only [if_neg (c15), if_neg (Int.not_lt.mpr c18), if_pos c19, if_pos c20, if_neg (show ¬ (x4 = (-1) ∨ (F_X12_bitsIn (s_X12_without_1 a1 y2 y3 x4 x5 h) h < F_X12_bitsIn x4 h ∨ (F_X12_bitsIn (s_X12_without_1 a1 y2 y3 x4 x5 h) h = F_X12_bitsIn x4 h ∧ s_X12_without_1 a1 y2 y3 x4 x5 h < x4))) from fun q => q.elim (c15) (fun q => q.elim (Int.not_lt.mpr c18) (fun q => (Int.not_lt.mpr c20) q.2)))] at e ⊢; exact e
              · refine WP.iconst rfl ?_
                refine WP.goto rfl ?_
                have e := kk; simp only [if_neg (c15), if_neg (Int.not_lt.mpr c18), if_pos c19, if_neg (Int.not_le.mpr c20), if_pos (show x4 = (-1) ∨ (F_X12_bitsIn (s_X12_without_1 a1 y2 y3 x4 x5 h) h < F_X12_bitsIn x4 h ∨ (F_X12_bitsIn (s_X12_without_1 a1 y2 y3 x4 x5 h) h = F_X12_bitsIn x4 h ∧ s_X12_without_1 a1 y2 y3 x4 x5 h < x4)) from Or.inr (Or.inr ⟨c19, c20⟩))] at e ⊢; exact e
      refine k14 _ ?_
      refine WP.istore (L' := [(14, 248), (0, a1), (0, y2), (0, y3), (0, x4), (0, x5), (0, s_X12_without_1 a1 y2 y3 x4 x5 h), (0, if x4 = (-1) ∨ (F_X12_bitsIn (s_X12_without_1 a1 y2 y3 x4 x5 h) h < F_X12_bitsIn x4 h ∨ (F_X12_bitsIn (s_X12_without_1 a1 y2 y3 x4 x5 h) h = F_X12_bitsIn x4 h ∧ s_X12_without_1 a1 y2 y3 x4 x5 h < x4)) then 1 else 0), us13.getD 0 pU]) rfl rfl ?_
      refine WP.iload rfl rfl ?_
      have k24 : ∀ Q' : Option pV → pH → Prop, (∀ us51 : List pV, WP 206 (132, [(14, 248), (0, a1), (0, y2), (0, y3), (0, s_X12_without_10 a1 y2 y3 x4 x5 h), (0, x5), (0, s_X12_without_1 a1 y2 y3 x4 x5 h), us51.getD 0 pU, us51.getD 1 pU], [], s_X12_without_9 a1 y2 y3 x4 x5 h) Q') → WP 206 (76, [(14, 248), (0, a1), (0, y2), (0, y3), (0, x4), (0, x5), (0, s_X12_without_1 a1 y2 y3 x4 x5 h), (0, if x4 = (-1) ∨ (F_X12_bitsIn (s_X12_without_1 a1 y2 y3 x4 x5 h) h < F_X12_bitsIn x4 h ∨ (F_X12_bitsIn (s_X12_without_1 a1 y2 y3 x4 x5 h) h = F_X12_bitsIn x4 h ∧ s_X12_without_1 a1 y2 y3 x4 x5 h < x4)) then 1 else 0), us13.getD 0 pU], [(0, if x4 = (-1) ∨ (F_X12_bitsIn (s_X12_without_1 a1 y2 y3 x4 x5 h) h < F_X12_bitsIn x4 h ∨ (F_X12_bitsIn (s_X12_without_1 a1 y2 y3 x4 x5 h) h = F_X12_bitsIn x4 h ∧ s_X12_without_1 a1 y2 y3 x4 x5 h < x4)) then 1 else 0)], h) Q' := fun Q' kk => by
        have q50 := q52
        refine WP.nb_eq rfl (fun c25 => ?_) (fun c25 => ?_)
        · have e := kk [(0, if x4 = (-1) ∨ (F_X12_bitsIn (s_X12_without_1 a1 y2 y3 x4 x5 h) h < F_X12_bitsIn x4 h ∨ (F_X12_bitsIn (s_X12_without_1 a1 y2 y3 x4 x5 h) h = F_X12_bitsIn x4 h ∧ s_X12_without_1 a1 y2 y3 x4 x5 h < x4)) then 1 else 0), us13.getD 0 pU]; simp only [s_X12_without_10, s_X12_without_9, if_neg (c25)] at e ⊢; exact e
        · obtain ⟨o37, o43, o45, o49⟩ := q50 c25
          refine WP.iconst rfl ?_
          refine WP.istore (L' := [(14, 248), (0, a1), (0, y2), (0, y3), (0, x4), (0, x5), (0, s_X12_without_1 a1 y2 y3 x4 x5 h), (0, if x4 = (-1) ∨ (F_X12_bitsIn (s_X12_without_1 a1 y2 y3 x4 x5 h) h < F_X12_bitsIn x4 h ∨ (F_X12_bitsIn (s_X12_without_1 a1 y2 y3 x4 x5 h) h = F_X12_bitsIn x4 h ∧ s_X12_without_1 a1 y2 y3 x4 x5 h < x4)) then 1 else 0), (0, 0)]) rfl rfl ?_
          refine lp_X12_without_79 a1 y2 y3 x4 x5 (s_X12_without_1 a1 y2 y3 x4 x5 h) 0 h o37 (fun us38 => ?_) [(0, if x4 = (-1) ∨ (F_X12_bitsIn (s_X12_without_1 a1 y2 y3 x4 x5 h) h < F_X12_bitsIn x4 h ∨ (F_X12_bitsIn (s_X12_without_1 a1 y2 y3 x4 x5 h) h = F_X12_bitsIn x4 h ∧ s_X12_without_1 a1 y2 y3 x4 x5 h < x4)) then 1 else 0)]
          show WP 206 (110, [(14, 248), (0, a1), (0, y2), (0, y3), (0, x4), (0, x5), (0, s_X12_without_1 a1 y2 y3 x4 x5 h), us38.getD 0 pU, (0, s_X12_without_4 a1 y2 y3 x4 x5 h)], [], s_X12_without_5 a1 y2 y3 x4 x5 h) Q'
          refine WP.iconst rfl ?_
          refine WP.istore (L' := [(14, 248), (0, a1), (0, y2), (0, y3), (0, x4), (0, x5), (0, s_X12_without_1 a1 y2 y3 x4 x5 h), if (us38.getD 0 pU).1 = 1 then pU else us38.getD 0 pU, (0, 0)]) rfl rfl ?_
          refine lp_X12_without_112 a1 y2 y3 x4 x5 (s_X12_without_1 a1 y2 y3 x4 x5 h) 0 (s_X12_without_5 a1 y2 y3 x4 x5 h) o43 (fun us44 => ?_) [if (us38.getD 0 pU).1 = 1 then pU else us38.getD 0 pU]
          show WP 206 (119, [(14, 248), (0, a1), (0, y2), (0, y3), (0, x4), (0, x5), (0, s_X12_without_1 a1 y2 y3 x4 x5 h), us44.getD 0 pU, (0, s_X12_without_6 a1 y2 y3 x4 x5 h)], [], s_X12_without_7 a1 y2 y3 x4 x5 h) Q'
          refine WP.aload_n rfl rfl ⟨by decide, by decide⟩ ?_
          refine WP.callF (c_X12_broken (s_X12_without_7 a1 y2 y3 x4 x5 h) o45) rfl rfl (pm_cok rfl rfl (Or.inr ⟨_, _, rfl⟩) rfl rfl) rfl rfl ?_
          show WP 206 (121, [(14, 248), (0, a1), (0, y2), (0, y3), (0, x4), (0, x5), (0, s_X12_without_1 a1 y2 y3 x4 x5 h), us44.getD 0 pU, (0, s_X12_without_6 a1 y2 y3 x4 x5 h)], [(0, F_X12_broken (s_X12_without_7 a1 y2 y3 x4 x5 h))], s_X12_without_7 a1 y2 y3 x4 x5 h) Q'
          refine WP.iload_n rfl rfl ?_
          have k46 : ∀ Q' : Option pV → pH → Prop, (WP 206 (126, [(14, 248), (0, a1), (0, y2), (0, y3), (0, x4), (0, x5), (0, s_X12_without_1 a1 y2 y3 x4 x5 h), us44.getD 0 pU, (0, s_X12_without_6 a1 y2 y3 x4 x5 h)], [(0, s_X12_without_8 a1 y2 y3 x4 x5 h)], s_X12_without_7 a1 y2 y3 x4 x5 h) Q') → WP 206 (122, [(14, 248), (0, a1), (0, y2), (0, y3), (0, x4), (0, x5), (0, s_X12_without_1 a1 y2 y3 x4 x5 h), us44.getD 0 pU, (0, s_X12_without_6 a1 y2 y3 x4 x5 h)], [(0, y3), (0, F_X12_broken (s_X12_without_7 a1 y2 y3 x4 x5 h))], s_X12_without_7 a1 y2 y3 x4 x5 h) Q' := fun Q' kk => by
            refine WP.ni_ne rfl (fun c47 => ?_) (fun c47 => ?_)
            · refine WP.iload rfl rfl ?_
              have e := kk; simp only [s_X12_without_8, if_neg (c47)] at e ⊢; exact e
            · refine WP.iload rfl rfl ?_
              refine WP.goto rfl ?_
              have e := kk; simp only [s_X12_without_8, if_pos c47] at e ⊢; exact e
          refine k46 _ ?_
          refine WP.istore (L' := [(14, 248), (0, a1), (0, y2), (0, y3), (0, s_X12_without_8 a1 y2 y3 x4 x5 h), (0, x5), (0, s_X12_without_1 a1 y2 y3 x4 x5 h), us44.getD 0 pU, (0, s_X12_without_6 a1 y2 y3 x4 x5 h)]) rfl rfl ?_
          refine WP.aload_n rfl rfl ⟨by decide, by decide⟩ ?_
          refine WP.getRF (b := 250) rfl rfl rfl ?_
          refine WP.aload_n rfl rfl ⟨by decide, by decide⟩ ?_
          refine WP.getRF (b := 249) rfl rfl rfl ?_
          refine WP.callF (c_X12_copy 250 249 (s_X12_without_7 a1 y2 y3 x4 x5 h) o49) rfl rfl (pm_cok rfl rfl (Or.inl rfl) rfl rfl) rfl rfl ?_
          show WP 206 (132, [(14, 248), (0, a1), (0, y2), (0, y3), (0, s_X12_without_8 a1 y2 y3 x4 x5 h), (0, x5), (0, s_X12_without_1 a1 y2 y3 x4 x5 h), us44.getD 0 pU, (0, s_X12_without_6 a1 y2 y3 x4 x5 h)], [], H_X12_copy 250 249 (s_X12_without_7 a1 y2 y3 x4 x5 h)) Q'
          have e := kk [us44.getD 0 pU, (0, s_X12_without_6 a1 y2 y3 x4 x5 h)]; simp only [s_X12_without_10, s_X12_without_9, if_pos c25] at e ⊢; exact e
      refine k24 _ (fun us51 => ?_)
      refine WP.iincE (L' := [(14, 248), (0, a1), (0, y2), (0, y3), (0, s_X12_without_10 a1 y2 y3 x4 x5 h), (0, x5 + 1), (0, s_X12_without_1 a1 y2 y3 x4 x5 h), us51.getD 0 pU, us51.getD 1 pU]) rfl rfl o53 rfl ?_
      refine WP.goto rfl ?_
      exact kk [(0, s_X12_without_1 a1 y2 y3 x4 x5 h), us51.getD 0 pU, us51.getD 1 pU] (s_X12_without_10 a1 y2 y3 x4 x5 h, x5 + 1, s_X12_without_9 a1 y2 y3 x4 x5 h) (rfl)
  · intro hP hc
    generalize hs : (L_X12_without_28 a1 y2 y3 x4 x5 h : Int × Int × pH) = s at kk
    change P_X12_without_28 a1 y2 y3 (L_X12_without_28 a1 y2 y3 x4 x5 h).1 (L_X12_without_28 a1 y2 y3 x4 x5 h).2.1 (L_X12_without_28 a1 y2 y3 x4 x5 h).2.2 at hP
    change ¬ C_X12_without_28 a1 y2 y3 (L_X12_without_28 a1 y2 y3 x4 x5 h).1 (L_X12_without_28 a1 y2 y3 x4 x5 h).2.1 (L_X12_without_28 a1 y2 y3 x4 x5 h).2.2 at hc
    intro us
    show WP 206 (28, [(14, 248), (0, a1), (0, y2), (0, y3), (0, (L_X12_without_28 a1 y2 y3 x4 x5 h).1), (0, (L_X12_without_28 a1 y2 y3 x4 x5 h).2.1), us.getD 0 pU, us.getD 1 pU, us.getD 2 pU], [], (L_X12_without_28 a1 y2 y3 x4 x5 h).2.2) Q
    rw [hs] at hP hc ⊢
    obtain ⟨x4, x5, h⟩ := s
    change P_X12_without_28 a1 y2 y3 x4 x5 h at hP
    change ¬ (x5 < pm_shl 1 y2) at hc
    unfold P_X12_without_28 at hP
    show WP 206 (28, [(14, 248), (0, a1), (0, y2), (0, y3), (0, x4), (0, x5), us.getD 0 pU, us.getD 1 pU, us.getD 2 pU], [], h) Q
    refine WP.iload rfl rfl ?_
    refine WP.iconst rfl ?_
    refine WP.iload_n rfl rfl ?_
    refine WP.ishl rfl ?_
    refine WP.ni_ge rfl (fun c6 => ?_) (fun c6 => ?_)
    · exact kk [us.getD 0 pU, us.getD 1 pU, us.getD 2 pU]
    · exact absurd (show x5 < pm_shl 1 y2 from c6) hc
noncomputable def s_X12_without_11 (a1 : Int) (h : pH) : Int := (L_X12_without_28 a1 (F_X12_findOpen h) (F_X12_broken (H_X12_copy 249 250 (H_X12_findOpen h))) (-1) 0 (H_X12_copy 249 250 (H_X12_findOpen h))).1
noncomputable def s_X12_without_12 (a1 : Int) (h : pH) : Int := (L_X12_without_28 a1 (F_X12_findOpen h) (F_X12_broken (H_X12_copy 249 250 (H_X12_findOpen h))) (-1) 0 (H_X12_copy 249 250 (H_X12_findOpen h))).2.1
noncomputable def s_X12_without_13 (a1 : Int) (h : pH) : pH := (L_X12_without_28 a1 (F_X12_findOpen h) (F_X12_broken (H_X12_copy 249 250 (H_X12_findOpen h))) (-1) 0 (H_X12_copy 249 250 (H_X12_findOpen h))).2.2
noncomputable def F_X12_without (a1 : Int) (h : pH) : Int := if 1 ≤ a1 ∧ a1 ≤ 30 then if F_X12_findOpen h ≤ 8 then s_X12_without_11 a1 h else (-3) else (-2)
noncomputable def H_X12_without (a1 : Int) (h : pH) : pH := if 1 ≤ a1 ∧ a1 ≤ 30 then if F_X12_findOpen h ≤ 8 then s_X12_without_13 a1 h else H_X12_findOpen h else h
noncomputable def P_X12_without (a1 : Int) (h : pH) : Prop := ((1 ≤ a1 ∧ a1 ≤ 30) → (P_X12_findOpen h ∧ ((F_X12_findOpen h ≤ 8) → ((P_X12_copy 249 250 (H_X12_findOpen h)) ∧ (P_X12_broken (H_X12_copy 249 250 (H_X12_findOpen h))) ∧ (O_X12_without_28 a1 (F_X12_findOpen h) (F_X12_broken (H_X12_copy 249 250 (H_X12_findOpen h))) (-1) 0 (H_X12_copy 249 250 (H_X12_findOpen h)))))))
set_option maxHeartbeats 4000000 in
theorem w_X12_without (a1 : Int) (h : pH) {Q : Option pV → pH → Prop} (hp : P_X12_without a1 h) (kk : Q (some (0, F_X12_without a1 h)) (H_X12_without a1 h)) : WP 206 (0, [(14, 248), (0, a1), pU, pU, pU, pU, pU, pU, pU], [], h) Q := by
  unfold P_X12_without at hp
  have q57 := hp
  refine WP.iload_n rfl rfl ?_
  refine WP.i2l rfl ?_
  refine WP.lconst rfl ?_
  refine WP.ldc2_w rfl ?_
  refine WP.callF (c_X12_in a1 1 30 h) rfl rfl (pm_cok rfl rfl (Or.inl rfl) rfl rfl) rfl rfl ?_
  show WP 206 (5, [(14, 248), (0, a1), pU, pU, pU, pU, pU, pU, pU], [(0, if 1 ≤ a1 ∧ a1 ≤ 30 then 1 else 0)], h) Q
  refine WP.nb_ne rfl (fun c1 => ?_) (fun c1 => ?_)
  · obtain ⟨o2, q56⟩ := q57 c1
    refine WP.aload_n rfl rfl ⟨by decide, by decide⟩ ?_
    refine WP.callF (c_X12_findOpen h o2) rfl rfl (pm_cok rfl rfl (Or.inr ⟨_, _, rfl⟩) rfl rfl) rfl rfl ?_
    show WP 206 (10, [(14, 248), (0, a1), pU, pU, pU, pU, pU, pU, pU], [(0, F_X12_findOpen h)], H_X12_findOpen h) Q
    refine WP.istore_n (L' := [(14, 248), (0, a1), (0, F_X12_findOpen h), pU, pU, pU, pU, pU, pU]) rfl rfl ?_
    refine WP.iload_n rfl rfl ?_
    refine WP.bipush rfl ?_
    refine WP.ni_le rfl (fun c3 => ?_) (fun c3 => ?_)
    · obtain ⟨o4, o5, o54⟩ := q56 c3
      refine WP.aload_n rfl rfl ⟨by decide, by decide⟩ ?_
      refine WP.getRF (b := 249) rfl rfl rfl ?_
      refine WP.aload_n rfl rfl ⟨by decide, by decide⟩ ?_
      refine WP.getRF (b := 250) rfl rfl rfl ?_
      refine WP.callF (c_X12_copy 249 250 (H_X12_findOpen h) o4) rfl rfl (pm_cok rfl rfl (Or.inl rfl) rfl rfl) rfl rfl ?_
      show WP 206 (21, [(14, 248), (0, a1), (0, F_X12_findOpen h), pU, pU, pU, pU, pU, pU], [], H_X12_copy 249 250 (H_X12_findOpen h)) Q
      refine WP.aload_n rfl rfl ⟨by decide, by decide⟩ ?_
      refine WP.callF (c_X12_broken (H_X12_copy 249 250 (H_X12_findOpen h)) o5) rfl rfl (pm_cok rfl rfl (Or.inr ⟨_, _, rfl⟩) rfl rfl) rfl rfl ?_
      show WP 206 (23, [(14, 248), (0, a1), (0, F_X12_findOpen h), pU, pU, pU, pU, pU, pU], [(0, F_X12_broken (H_X12_copy 249 250 (H_X12_findOpen h)))], H_X12_copy 249 250 (H_X12_findOpen h)) Q
      refine WP.istore_n (L' := [(14, 248), (0, a1), (0, F_X12_findOpen h), (0, F_X12_broken (H_X12_copy 249 250 (H_X12_findOpen h))), pU, pU, pU, pU, pU]) rfl rfl ?_
      refine WP.iconst rfl ?_
      refine WP.istore (L' := [(14, 248), (0, a1), (0, F_X12_findOpen h), (0, F_X12_broken (H_X12_copy 249 250 (H_X12_findOpen h))), (0, (-1)), pU, pU, pU, pU]) rfl rfl ?_
      refine WP.iconst rfl ?_
      refine WP.istore (L' := [(14, 248), (0, a1), (0, F_X12_findOpen h), (0, F_X12_broken (H_X12_copy 249 250 (H_X12_findOpen h))), (0, (-1)), (0, 0), pU, pU, pU]) rfl rfl ?_
      refine lp_X12_without_28 a1 (F_X12_findOpen h) (F_X12_broken (H_X12_copy 249 250 (H_X12_findOpen h))) (-1) 0 (H_X12_copy 249 250 (H_X12_findOpen h)) o54 (fun us55 => ?_) [pU, pU, pU]
      show WP 206 (134, [(14, 248), (0, a1), (0, F_X12_findOpen h), (0, F_X12_broken (H_X12_copy 249 250 (H_X12_findOpen h))), (0, s_X12_without_11 a1 h), (0, s_X12_without_12 a1 h), us55.getD 0 pU, us55.getD 1 pU, us55.getD 2 pU], [], s_X12_without_13 a1 h) Q
      refine WP.iload rfl rfl ?_
      refine WP.reti rfl ?_; have e := kk; simp only [F_X12_without, H_X12_without, if_pos c1, if_pos c3] at e ⊢; exact e
    · refine WP.bipush rfl ?_
      refine WP.reti rfl ?_; have e := kk; simp only [F_X12_without, H_X12_without, if_pos c1, if_neg (Int.not_le.mpr c3)] at e ⊢; exact e
  · refine WP.bipush rfl ?_
    refine WP.reti rfl ?_; have e := kk; simp only [F_X12_without, H_X12_without, if_neg (c1)] at e ⊢; exact e
theorem c_X12_without (a1 : Int) (h : pH) (hp : P_X12_without a1 h) : CP 206 [(14, 248), (0, a1)] h (fun r h1 => r = some (0, F_X12_without a1 h) ∧ h1 = H_X12_without a1 h) := w_X12_without a1 h hp ⟨rfl, rfl⟩
def C_X12_other_58 (a1 : Int) (a2 : Int) (a3 : Int) (a4 : Int) (x5 : Int) (h : pH) : Prop := x5 < a3
noncomputable def B_X12_other_58 (a1 : Int) (a2 : Int) (a3 : Int) (a4 : Int) (x5 : Int) (h : pH) : Int × pH := (x5 + 1, H_X12_minute h)
noncomputable def P_X12_other_58 (a1 : Int) (a2 : Int) (a3 : Int) (a4 : Int) (x5 : Int) (h : pH) : Prop := ((x5 < a3) → P_X12_minute h ∧ (fx_i (x5 + 1)))
noncomputable def L_X12_other_58 (a1 : Int) (a2 : Int) (a3 : Int) (a4 : Int) (x5 : Int) (h : pH) : Int × pH := fx_wh (σ := Int × pH) (fun s => C_X12_other_58 a1 a2 a3 a4 s.1 s.2) (fun s => B_X12_other_58 a1 a2 a3 a4 s.1 s.2) (x5, h)
def O_X12_other_58 (a1 : Int) (a2 : Int) (a3 : Int) (a4 : Int) (x5 : Int) (h : pH) : Prop := fx_ok (σ := Int × pH) (fun s => C_X12_other_58 a1 a2 a3 a4 s.1 s.2) (fun s => B_X12_other_58 a1 a2 a3 a4 s.1 s.2) (fun s => P_X12_other_58 a1 a2 a3 a4 s.1 s.2) (x5, h)
set_option maxHeartbeats 4000000 in
theorem lp_X12_other_58 (a1 : Int) (a2 : Int) (a3 : Int) (a4 : Int) (x5 : Int) (h : pH) {Q : Option pV → pH → Prop} (hp : O_X12_other_58 a1 a2 a3 a4 x5 h) (kk : ∀ us : List pV, WP 208 (65, [(14, 248), (0, a1), (0, a2), (0, a3), (0, a4), (0, (L_X12_other_58 a1 a2 a3 a4 x5 h).1), us.getD 0 pU, us.getD 1 pU, us.getD 2 pU], [], (L_X12_other_58 a1 a2 a3 a4 x5 h).2) Q) : ∀ us : List pV, WP 208 (58, [(14, 248), (0, a1), (0, a2), (0, a3), (0, a4), (0, x5), us.getD 0 pU, us.getD 1 pU, us.getD 2 pU], [], h) Q := by
  refine WP.wh (σ := Int × pH) (fun s => C_X12_other_58 a1 a2 a3 a4 s.1 s.2) (fun s => B_X12_other_58 a1 a2 a3 a4 s.1 s.2) (fun s => P_X12_other_58 a1 a2 a3 a4 s.1 s.2) (fun s us => (58, [(14, 248), (0, a1), (0, a2), (0, a3), (0, a4), (0, s.1), us.getD 0 pU, us.getD 1 pU, us.getD 2 pU], [], s.2)) (x5, h) hp ?_ ?_
  · intro s us hP hc kk
    obtain ⟨x5, h⟩ := s
    change P_X12_other_58 a1 a2 a3 a4 x5 h at hP
    change x5 < a3 at hc
    replace kk : ∀ (us' : List pV) (s' : Int × pH), s' = B_X12_other_58 a1 a2 a3 a4 x5 h → WP 208 (58, [(14, 248), (0, a1), (0, a2), (0, a3), (0, a4), (0, s'.1), us'.getD 0 pU, us'.getD 1 pU, us'.getD 2 pU], [], s'.2) Q := fun us' s' e => by subst e; exact kk us'
    unfold P_X12_other_58 at hP
    obtain ⟨o13, o14⟩ := hP hc
    show WP 208 (58, [(14, 248), (0, a1), (0, a2), (0, a3), (0, a4), (0, x5), us.getD 0 pU, us.getD 1 pU, us.getD 2 pU], [], h) Q
    refine WP.iload rfl rfl ?_
    refine WP.iload_n rfl rfl ?_
    refine WP.ni_ge rfl (fun c12 => ?_) (fun c12 => ?_)
    · exact absurd hc (Int.not_lt.mpr c12)
    · refine WP.aload_n rfl rfl ⟨by decide, by decide⟩ ?_
      refine WP.callF (c_X12_minute h o13) rfl rfl (pm_cok rfl rfl (Or.inr ⟨_, _, rfl⟩) rfl rfl) rfl rfl ?_
      show WP 208 (63, [(14, 248), (0, a1), (0, a2), (0, a3), (0, a4), (0, x5), us.getD 0 pU, us.getD 1 pU, us.getD 2 pU], [], H_X12_minute h) Q
      refine WP.iincE (L' := [(14, 248), (0, a1), (0, a2), (0, a3), (0, a4), (0, x5 + 1), us.getD 0 pU, us.getD 1 pU, us.getD 2 pU]) rfl rfl o14 rfl ?_
      refine WP.goto rfl ?_
      exact kk [us.getD 0 pU, us.getD 1 pU, us.getD 2 pU] (x5 + 1, H_X12_minute h) (rfl)
  · intro hP hc
    generalize hs : (L_X12_other_58 a1 a2 a3 a4 x5 h : Int × pH) = s at kk
    change P_X12_other_58 a1 a2 a3 a4 (L_X12_other_58 a1 a2 a3 a4 x5 h).1 (L_X12_other_58 a1 a2 a3 a4 x5 h).2 at hP
    change ¬ C_X12_other_58 a1 a2 a3 a4 (L_X12_other_58 a1 a2 a3 a4 x5 h).1 (L_X12_other_58 a1 a2 a3 a4 x5 h).2 at hc
    intro us
    show WP 208 (58, [(14, 248), (0, a1), (0, a2), (0, a3), (0, a4), (0, (L_X12_other_58 a1 a2 a3 a4 x5 h).1), us.getD 0 pU, us.getD 1 pU, us.getD 2 pU], [], (L_X12_other_58 a1 a2 a3 a4 x5 h).2) Q
    rw [hs] at hP hc ⊢
    obtain ⟨x5, h⟩ := s
    change P_X12_other_58 a1 a2 a3 a4 x5 h at hP
    change ¬ (x5 < a3) at hc
    unfold P_X12_other_58 at hP
    show WP 208 (58, [(14, 248), (0, a1), (0, a2), (0, a3), (0, a4), (0, x5), us.getD 0 pU, us.getD 1 pU, us.getD 2 pU], [], h) Q
    refine WP.iload rfl rfl ?_
    refine WP.iload_n rfl rfl ?_
    refine WP.ni_ge rfl (fun c11 => ?_) (fun c11 => ?_)
    · exact kk [us.getD 0 pU, us.getD 1 pU, us.getD 2 pU]
    · exact absurd (show x5 < a3 from c11) hc
noncomputable def s_X12_other_1 (a1 : Int) (a2 : Int) (a3 : Int) (a4 : Int) (h : pH) : Int := (L_X12_other_58 a1 a2 a3 a4 0 (H_X12_copy 249 250 h)).1
noncomputable def s_X12_other_2 (a1 : Int) (a2 : Int) (a3 : Int) (a4 : Int) (h : pH) : pH := (L_X12_other_58 a1 a2 a3 a4 0 (H_X12_copy 249 250 h)).2
noncomputable def s_X12_other_3 (a1 : Int) (a2 : Int) (a3 : Int) (a4 : Int) (h : pH) : Int := if a4 = 0 then F_X12_broken (s_X12_other_2 a1 a2 a3 a4 h) else (s_X12_other_2 a1 a2 a3 a4 h) 249 18
noncomputable def s_X12_other_4 (a1 : Int) (a2 : Int) (a3 : Int) (a4 : Int) (h : pH) : Int := if a1 = 0 then s_X12_brought_1 (((H_X12_copy 250 249 (s_X12_other_2 a1 a2 a3 a4 h)) 249 0) + a2) 0 500 else (H_X12_copy 250 249 (s_X12_other_2 a1 a2 a3 a4 h)) 249 0
noncomputable def s_X12_other_5 (a1 : Int) (a2 : Int) (a3 : Int) (a4 : Int) (h : pH) : pH := pm_upd (H_X12_copy 250 249 (s_X12_other_2 a1 a2 a3 a4 h)) 249 0 (s_X12_other_4 a1 a2 a3 a4 h)
noncomputable def s_X12_other_6 (a1 : Int) (a2 : Int) (a3 : Int) (a4 : Int) (h : pH) : Int := if a1 = 1 then s_X12_brought_1 (((s_X12_other_5 a1 a2 a3 a4 h) 249 3) + a2) 0 100000 else (s_X12_other_5 a1 a2 a3 a4 h) 249 3
noncomputable def s_X12_other_7 (a1 : Int) (a2 : Int) (a3 : Int) (a4 : Int) (h : pH) : pH := pm_upd (s_X12_other_5 a1 a2 a3 a4 h) 249 3 (s_X12_other_6 a1 a2 a3 a4 h)
noncomputable def s_X12_other_8 (a1 : Int) (a2 : Int) (a3 : Int) (a4 : Int) (h : pH) : Int := if a1 = 2 then s_X12_brought_1 (((s_X12_other_7 a1 a2 a3 a4 h) 249 2) + a2) 0 200 else (s_X12_other_7 a1 a2 a3 a4 h) 249 2
noncomputable def s_X12_other_9 (a1 : Int) (a2 : Int) (a3 : Int) (a4 : Int) (h : pH) : pH := pm_upd (s_X12_other_7 a1 a2 a3 a4 h) 249 2 (s_X12_other_8 a1 a2 a3 a4 h)
noncomputable def s_X12_other_10 (a1 : Int) (a2 : Int) (x7 : Int) (h : pH) : Int := if a1 = 3 then s_X12_brought_1 ((h 249 (44 + x7)) + a2) 0 5000 else h 249 (44 + x7)
def C_X12_other_148 (a1 : Int) (a2 : Int) (a3 : Int) (a4 : Int) (y5 : Int) (x7 : Int) (h : pH) : Prop := x7 < 12
noncomputable def B_X12_other_148 (a1 : Int) (a2 : Int) (a3 : Int) (a4 : Int) (y5 : Int) (x7 : Int) (h : pH) : Int × pH := (x7 + 1, pm_upd h 249 (44 + x7) (s_X12_other_10 a1 a2 x7 h))
noncomputable def P_X12_other_148 (a1 : Int) (a2 : Int) (a3 : Int) (a4 : Int) (y5 : Int) (x7 : Int) (h : pH) : Prop := ((x7 < 12) → (fx_i (44 + x7)) ∧ ((((a1 = 3) → ((0 ≤ 44 + x7 ∧ 44 + x7 < 620) ∧ (fx_l ((h 249 (44 + x7)) + a2)))) ∧ ((¬ a1 = 3) → ((0 ≤ 44 + x7 ∧ 44 + x7 < 620))))) ∧ (0 ≤ 44 + x7 ∧ 44 + x7 < 620) ∧ (fx_i (x7 + 1)))
noncomputable def L_X12_other_148 (a1 : Int) (a2 : Int) (a3 : Int) (a4 : Int) (y5 : Int) (x7 : Int) (h : pH) : Int × pH := fx_wh (σ := Int × pH) (fun s => C_X12_other_148 a1 a2 a3 a4 y5 s.1 s.2) (fun s => B_X12_other_148 a1 a2 a3 a4 y5 s.1 s.2) (x7, h)
def O_X12_other_148 (a1 : Int) (a2 : Int) (a3 : Int) (a4 : Int) (y5 : Int) (x7 : Int) (h : pH) : Prop := fx_ok (σ := Int × pH) (fun s => C_X12_other_148 a1 a2 a3 a4 y5 s.1 s.2) (fun s => B_X12_other_148 a1 a2 a3 a4 y5 s.1 s.2) (fun s => P_X12_other_148 a1 a2 a3 a4 y5 s.1 s.2) (x7, h)
set_option maxHeartbeats 4000000 in
theorem lp_X12_other_148 (a1 : Int) (a2 : Int) (a3 : Int) (a4 : Int) (y5 : Int) (x7 : Int) (h : pH) {Q : Option pV → pH → Prop} (hp : O_X12_other_148 a1 a2 a3 a4 y5 x7 h) (kk : ∀ us : List pV, WP 208 (181, [(14, 248), (0, a1), (0, a2), (0, a3), (0, a4), (1, y5), pU, (0, (L_X12_other_148 a1 a2 a3 a4 y5 x7 h).1), us.getD 0 pU], [], (L_X12_other_148 a1 a2 a3 a4 y5 x7 h).2) Q) : ∀ us : List pV, WP 208 (148, [(14, 248), (0, a1), (0, a2), (0, a3), (0, a4), (1, y5), pU, (0, x7), us.getD 0 pU], [], h) Q := by
  refine WP.wh (σ := Int × pH) (fun s => C_X12_other_148 a1 a2 a3 a4 y5 s.1 s.2) (fun s => B_X12_other_148 a1 a2 a3 a4 y5 s.1 s.2) (fun s => P_X12_other_148 a1 a2 a3 a4 y5 s.1 s.2) (fun s us => (148, [(14, 248), (0, a1), (0, a2), (0, a3), (0, a4), (1, y5), pU, (0, s.1), us.getD 0 pU], [], s.2)) (x7, h) hp ?_ ?_
  · intro s us hP hc kk
    obtain ⟨x7, h⟩ := s
    change P_X12_other_148 a1 a2 a3 a4 y5 x7 h at hP
    change x7 < 12 at hc
    replace kk : ∀ (us' : List pV) (s' : Int × pH), s' = B_X12_other_148 a1 a2 a3 a4 y5 x7 h → WP 208 (148, [(14, 248), (0, a1), (0, a2), (0, a3), (0, a4), (1, y5), pU, (0, s'.1), us'.getD 0 pU], [], s'.2) Q := fun us' s' e => by subst e; exact kk us'
    unfold P_X12_other_148 at hP
    obtain ⟨o44, q52, o53, o54⟩ := hP hc
    show WP 208 (148, [(14, 248), (0, a1), (0, a2), (0, a3), (0, a4), (1, y5), pU, (0, x7), us.getD 0 pU], [], h) Q
    refine WP.iload rfl rfl ?_
    refine WP.bipush rfl ?_
    refine WP.ni_ge rfl (fun c43 => ?_) (fun c43 => ?_)
    · exact absurd hc (Int.not_lt.mpr c43)
    · refine WP.aload_n rfl rfl ⟨by decide, by decide⟩ ?_
      refine WP.getRF (b := 249) rfl rfl rfl ?_
      refine WP.bipush rfl ?_
      refine WP.iload rfl rfl ?_
      refine WP.iaddE rfl o44 ?_
      refine WP.iload_n rfl rfl ?_
      refine WP.iconst rfl ?_
      have k45 : ∀ Q' : Option pV → pH → Prop, (WP 208 (178, [(14, 248), (0, a1), (0, a2), (0, a3), (0, a4), (1, y5), pU, (0, x7), us.getD 0 pU], [(1, s_X12_other_10 a1 a2 x7 h), (0, 44 + x7), (3481, 249)], h) Q') → WP 208 (158, [(14, 248), (0, a1), (0, a2), (0, a3), (0, a4), (1, y5), pU, (0, x7), us.getD 0 pU], [(0, 3), (0, a1), (0, 44 + x7), (3481, 249)], h) Q' := fun Q' kk => by
        have q50 := q52
        refine WP.ni_ne rfl (fun c46 => ?_) (fun c46 => ?_)
        · have o49 := q50.2 c46
          refine WP.aload_n rfl rfl ⟨by decide, by decide⟩ ?_
          refine WP.getRF (b := 249) rfl rfl rfl ?_
          refine WP.bipush rfl ?_
          refine WP.iload rfl rfl ?_
          refine WP.iaddE rfl o44 ?_
          refine WP.laload rfl ⟨by decide, by decide, by decide⟩ o49 ?_
          have e := kk; simp only [s_X12_other_10, if_neg (c46)] at e ⊢; exact e
        · obtain ⟨o47, o48⟩ := q50.1 c46
          refine WP.aload_n rfl rfl ⟨by decide, by decide⟩ ?_
          refine WP.getRF (b := 249) rfl rfl rfl ?_
          refine WP.bipush rfl ?_
          refine WP.iload rfl rfl ?_
          refine WP.iaddE rfl o44 ?_
          refine WP.laload rfl ⟨by decide, by decide, by decide⟩ o47 ?_
          refine WP.iload_n rfl rfl ?_
          refine WP.i2l rfl ?_
          refine WP.laddE rfl o48 ?_
          refine WP.lconst rfl ?_
          refine WP.ldc2_w rfl ?_
          refine WP.callF (c_X12_brought ((h 249 (44 + x7)) + a2) 0 5000 h) rfl rfl (pm_cok rfl rfl (Or.inl rfl) rfl rfl) rfl rfl ?_
          show WP 208 (171, [(14, 248), (0, a1), (0, a2), (0, a3), (0, a4), (1, y5), pU, (0, x7), us.getD 0 pU], [(1, s_X12_brought_1 ((h 249 (44 + x7)) + a2) 0 5000), (0, 44 + x7), (3481, 249)], h) Q'
          refine WP.goto rfl ?_
          have e := kk; simp only [s_X12_other_10, if_pos c46] at e ⊢; exact e
      refine k45 _ ?_
      refine WP.lastore rfl ⟨by decide, by decide, by decide⟩ o53 ?_
      refine WP.iincE (L' := [(14, 248), (0, a1), (0, a2), (0, a3), (0, a4), (1, y5), pU, (0, x7 + 1), us.getD 0 pU]) rfl rfl o54 rfl ?_
      refine WP.goto rfl ?_
      exact kk [us.getD 0 pU] (x7 + 1, pm_upd h 249 (44 + x7) (s_X12_other_10 a1 a2 x7 h)) (rfl)
  · intro hP hc
    generalize hs : (L_X12_other_148 a1 a2 a3 a4 y5 x7 h : Int × pH) = s at kk
    change P_X12_other_148 a1 a2 a3 a4 y5 (L_X12_other_148 a1 a2 a3 a4 y5 x7 h).1 (L_X12_other_148 a1 a2 a3 a4 y5 x7 h).2 at hP
    change ¬ C_X12_other_148 a1 a2 a3 a4 y5 (L_X12_other_148 a1 a2 a3 a4 y5 x7 h).1 (L_X12_other_148 a1 a2 a3 a4 y5 x7 h).2 at hc
    intro us
    show WP 208 (148, [(14, 248), (0, a1), (0, a2), (0, a3), (0, a4), (1, y5), pU, (0, (L_X12_other_148 a1 a2 a3 a4 y5 x7 h).1), us.getD 0 pU], [], (L_X12_other_148 a1 a2 a3 a4 y5 x7 h).2) Q
    rw [hs] at hP hc ⊢
    obtain ⟨x7, h⟩ := s
    change P_X12_other_148 a1 a2 a3 a4 y5 x7 h at hP
    change ¬ (x7 < 12) at hc
    unfold P_X12_other_148 at hP
    show WP 208 (148, [(14, 248), (0, a1), (0, a2), (0, a3), (0, a4), (1, y5), pU, (0, x7), us.getD 0 pU], [], h) Q
    refine WP.iload rfl rfl ?_
    refine WP.bipush rfl ?_
    refine WP.ni_ge rfl (fun c42 => ?_) (fun c42 => ?_)
    · exact kk [us.getD 0 pU]
    · exact absurd (show x7 < 12 from c42) hc
noncomputable def s_X12_other_11 (a1 : Int) (a2 : Int) (a3 : Int) (a4 : Int) (h : pH) : Int := (L_X12_other_148 a1 a2 a3 a4 (s_X12_other_3 a1 a2 a3 a4 h) 0 (s_X12_other_9 a1 a2 a3 a4 h)).1
noncomputable def s_X12_other_12 (a1 : Int) (a2 : Int) (a3 : Int) (a4 : Int) (h : pH) : pH := (L_X12_other_148 a1 a2 a3 a4 (s_X12_other_3 a1 a2 a3 a4 h) 0 (s_X12_other_9 a1 a2 a3 a4 h)).2
noncomputable def s_X12_other_13 (a1 : Int) (a2 : Int) (a3 : Int) (a4 : Int) (h : pH) : Int := if a1 = 4 then s_X12_brought_1 (((s_X12_other_12 a1 a2 a3 a4 h) 249 5) + a2) 0 10000 else (s_X12_other_12 a1 a2 a3 a4 h) 249 5
noncomputable def s_X12_other_14 (a1 : Int) (a2 : Int) (a3 : Int) (a4 : Int) (h : pH) : pH := pm_upd (s_X12_other_12 a1 a2 a3 a4 h) 249 5 (s_X12_other_13 a1 a2 a3 a4 h)
noncomputable def s_X12_other_15 (a1 : Int) (a2 : Int) (a3 : Int) (a4 : Int) (h : pH) : pH := H_X12_addMachine a2 ((s_X12_other_14 a1 a2 a3 a4 h) 249 94) ((s_X12_other_14 a1 a2 a3 a4 h) 249 104) ((s_X12_other_14 a1 a2 a3 a4 h) 249 114) ((s_X12_other_14 a1 a2 a3 a4 h) 249 124) (s_X12_other_14 a1 a2 a3 a4 h)
def C_X12_other_228 (a3 : Int) (a4 : Int) (y5 : Int) (x7 : Int) (h : pH) : Prop := x7 < a3
noncomputable def B_X12_other_228 (a3 : Int) (a4 : Int) (y5 : Int) (x7 : Int) (h : pH) : Int × pH := (x7 + 1, H_X12_minute h)
noncomputable def P_X12_other_228 (a3 : Int) (a4 : Int) (y5 : Int) (x7 : Int) (h : pH) : Prop := ((x7 < a3) → P_X12_minute h ∧ (fx_i (x7 + 1)))
noncomputable def L_X12_other_228 (a3 : Int) (a4 : Int) (y5 : Int) (x7 : Int) (h : pH) : Int × pH := fx_wh (σ := Int × pH) (fun s => C_X12_other_228 a3 a4 y5 s.1 s.2) (fun s => B_X12_other_228 a3 a4 y5 s.1 s.2) (x7, h)
def O_X12_other_228 (a3 : Int) (a4 : Int) (y5 : Int) (x7 : Int) (h : pH) : Prop := fx_ok (σ := Int × pH) (fun s => C_X12_other_228 a3 a4 y5 s.1 s.2) (fun s => B_X12_other_228 a3 a4 y5 s.1 s.2) (fun s => P_X12_other_228 a3 a4 y5 s.1 s.2) (x7, h)
set_option maxHeartbeats 4000000 in
theorem lp_X12_other_228 (a3 : Int) (a4 : Int) (y5 : Int) (x7 : Int) (h : pH) {Q : Option pV → pH → Prop} (hp : O_X12_other_228 a3 a4 y5 x7 h) (kk : ∀ us : List pV, WP 208 (235, [(14, 248), us.getD 0 pU, us.getD 1 pU, (0, a3), (0, a4), (1, y5), pU, (0, (L_X12_other_228 a3 a4 y5 x7 h).1), us.getD 2 pU], [], (L_X12_other_228 a3 a4 y5 x7 h).2) Q) : ∀ us : List pV, WP 208 (228, [(14, 248), us.getD 0 pU, us.getD 1 pU, (0, a3), (0, a4), (1, y5), pU, (0, x7), us.getD 2 pU], [], h) Q := by
  refine WP.wh (σ := Int × pH) (fun s => C_X12_other_228 a3 a4 y5 s.1 s.2) (fun s => B_X12_other_228 a3 a4 y5 s.1 s.2) (fun s => P_X12_other_228 a3 a4 y5 s.1 s.2) (fun s us => (228, [(14, 248), us.getD 0 pU, us.getD 1 pU, (0, a3), (0, a4), (1, y5), pU, (0, s.1), us.getD 2 pU], [], s.2)) (x7, h) hp ?_ ?_
  · intro s us hP hc kk
    obtain ⟨x7, h⟩ := s
    change P_X12_other_228 a3 a4 y5 x7 h at hP
    change x7 < a3 at hc
    replace kk : ∀ (us' : List pV) (s' : Int × pH), s' = B_X12_other_228 a3 a4 y5 x7 h → WP 208 (228, [(14, 248), us'.getD 0 pU, us'.getD 1 pU, (0, a3), (0, a4), (1, y5), pU, (0, s'.1), us'.getD 2 pU], [], s'.2) Q := fun us' s' e => by subst e; exact kk us'
    unfold P_X12_other_228 at hP
    obtain ⟨o70, o71⟩ := hP hc
    show WP 208 (228, [(14, 248), us.getD 0 pU, us.getD 1 pU, (0, a3), (0, a4), (1, y5), pU, (0, x7), us.getD 2 pU], [], h) Q
    refine WP.iload rfl rfl ?_
    refine WP.iload_n rfl rfl ?_
    refine WP.ni_ge rfl (fun c69 => ?_) (fun c69 => ?_)
    · exact absurd hc (Int.not_lt.mpr c69)
    · refine WP.aload_n rfl rfl ⟨by decide, by decide⟩ ?_
      refine WP.callF (c_X12_minute h o70) rfl rfl (pm_cok rfl rfl (Or.inr ⟨_, _, rfl⟩) rfl rfl) rfl rfl ?_
      show WP 208 (233, [(14, 248), us.getD 0 pU, us.getD 1 pU, (0, a3), (0, a4), (1, y5), pU, (0, x7), us.getD 2 pU], [], H_X12_minute h) Q
      refine WP.iincE (L' := [(14, 248), us.getD 0 pU, us.getD 1 pU, (0, a3), (0, a4), (1, y5), pU, (0, x7 + 1), us.getD 2 pU]) rfl rfl o71 rfl ?_
      refine WP.goto rfl ?_
      exact kk [us.getD 0 pU, us.getD 1 pU, us.getD 2 pU] (x7 + 1, H_X12_minute h) (rfl)
  · intro hP hc
    generalize hs : (L_X12_other_228 a3 a4 y5 x7 h : Int × pH) = s at kk
    change P_X12_other_228 a3 a4 y5 (L_X12_other_228 a3 a4 y5 x7 h).1 (L_X12_other_228 a3 a4 y5 x7 h).2 at hP
    change ¬ C_X12_other_228 a3 a4 y5 (L_X12_other_228 a3 a4 y5 x7 h).1 (L_X12_other_228 a3 a4 y5 x7 h).2 at hc
    intro us
    show WP 208 (228, [(14, 248), us.getD 0 pU, us.getD 1 pU, (0, a3), (0, a4), (1, y5), pU, (0, (L_X12_other_228 a3 a4 y5 x7 h).1), us.getD 2 pU], [], (L_X12_other_228 a3 a4 y5 x7 h).2) Q
    rw [hs] at hP hc ⊢
    obtain ⟨x7, h⟩ := s
    change P_X12_other_228 a3 a4 y5 x7 h at hP
    change ¬ (x7 < a3) at hc
    unfold P_X12_other_228 at hP
    show WP 208 (228, [(14, 248), us.getD 0 pU, us.getD 1 pU, (0, a3), (0, a4), (1, y5), pU, (0, x7), us.getD 2 pU], [], h) Q
    refine WP.iload rfl rfl ?_
    refine WP.iload_n rfl rfl ?_
    refine WP.ni_ge rfl (fun c68 => ?_) (fun c68 => ?_)
    · exact kk [us.getD 0 pU, us.getD 1 pU, us.getD 2 pU]
    · exact absurd (show x7 < a3 from c68) hc
noncomputable def s_X12_other_16 (a1 : Int) (a2 : Int) (a3 : Int) (a4 : Int) (h : pH) : Int := (L_X12_other_228 a3 a4 (s_X12_other_3 a1 a2 a3 a4 h) 0 (s_X12_other_15 a1 a2 a3 a4 h)).1
noncomputable def s_X12_other_17 (a1 : Int) (a2 : Int) (a3 : Int) (a4 : Int) (h : pH) : pH := (L_X12_other_228 a3 a4 (s_X12_other_3 a1 a2 a3 a4 h) 0 (s_X12_other_15 a1 a2 a3 a4 h)).2
noncomputable def s_X12_other_18 (a1 : Int) (a2 : Int) (a3 : Int) (a4 : Int) (h : pH) : Int := if a4 = 0 then F_X12_broken (s_X12_other_17 a1 a2 a3 a4 h) else (s_X12_other_17 a1 a2 a3 a4 h) 249 18
noncomputable def s_X12_other_19 (a1 : Int) (a2 : Int) (a3 : Int) (a4 : Int) (h : pH) : Int := (L_X12_other_228 a3 a4 (s_X12_other_3 a1 a2 a3 a4 h) 0 (s_X12_other_14 a1 a2 a3 a4 h)).1
noncomputable def s_X12_other_20 (a1 : Int) (a2 : Int) (a3 : Int) (a4 : Int) (h : pH) : pH := (L_X12_other_228 a3 a4 (s_X12_other_3 a1 a2 a3 a4 h) 0 (s_X12_other_14 a1 a2 a3 a4 h)).2
noncomputable def s_X12_other_21 (a1 : Int) (a2 : Int) (a3 : Int) (a4 : Int) (h : pH) : Int := if a4 = 0 then F_X12_broken (s_X12_other_20 a1 a2 a3 a4 h) else (s_X12_other_20 a1 a2 a3 a4 h) 249 18
noncomputable def F_X12_other (a1 : Int) (a2 : Int) (a3 : Int) (a4 : Int) (h : pH) : Int := if 0 ≤ a1 ∧ a1 ≤ 5 then if (-100000) ≤ a2 ∧ a2 ≤ 100000 then if a1 = 5 then if 0 ≤ a2 ∧ a2 ≤ 11 then if 1 ≤ a3 ∧ a3 ≤ 30 then if 0 ≤ a4 ∧ a4 ≤ 1 then if h 249 12 = 0 then (-2100000000000000000) else if h 249 12 = 10 then (-2100000000000000000) else pm_wl ((s_X12_other_18 a1 a2 a3 a4 h) - (s_X12_other_3 a1 a2 a3 a4 h)) else (-2000000000000000000) else (-2000000000000000000) else (-2000000000000000000) else if 1 ≤ a3 ∧ a3 ≤ 30 then if 0 ≤ a4 ∧ a4 ≤ 1 then pm_wl ((s_X12_other_21 a1 a2 a3 a4 h) - (s_X12_other_3 a1 a2 a3 a4 h)) else (-2000000000000000000) else (-2000000000000000000) else (-2000000000000000000) else (-2000000000000000000)
noncomputable def H_X12_other (a1 : Int) (a2 : Int) (a3 : Int) (a4 : Int) (h : pH) : pH := if 0 ≤ a1 ∧ a1 ≤ 5 then if (-100000) ≤ a2 ∧ a2 ≤ 100000 then if a1 = 5 then if 0 ≤ a2 ∧ a2 ≤ 11 then if 1 ≤ a3 ∧ a3 ≤ 30 then if 0 ≤ a4 ∧ a4 ≤ 1 then if h 249 12 = 0 then h else if h 249 12 = 10 then h else H_X12_copy 250 249 (s_X12_other_17 a1 a2 a3 a4 h) else h else h else h else if 1 ≤ a3 ∧ a3 ≤ 30 then if 0 ≤ a4 ∧ a4 ≤ 1 then H_X12_copy 250 249 (s_X12_other_20 a1 a2 a3 a4 h) else h else h else h else h
noncomputable def P_X12_other (a1 : Int) (a2 : Int) (a3 : Int) (a4 : Int) (h : pH) : Prop := ((0 ≤ a1 ∧ a1 ≤ 5) → ((((-100000) ≤ a2 ∧ a2 ≤ 100000) → ((((a1 = 5) → (((0 ≤ a2 ∧ a2 ≤ 11) → (((1 ≤ a3 ∧ a3 ≤ 30) → (((0 ≤ a4 ∧ a4 ≤ 1) → (((¬ h 249 12 = 0) → (((¬ h 249 12 = 10) → (P_X12_copy 249 250 h ∧ (O_X12_other_58 a1 a2 a3 a4 0 (H_X12_copy 249 250 h)) ∧ (((a4 = 0) → ((P_X12_broken (s_X12_other_2 a1 a2 a3 a4 h))))) ∧ (P_X12_copy 250 249 (s_X12_other_2 a1 a2 a3 a4 h)) ∧ (((a1 = 0) → ((fx_l (((H_X12_copy 250 249 (s_X12_other_2 a1 a2 a3 a4 h)) 249 0) + a2))))) ∧ (((a1 = 1) → ((fx_l (((s_X12_other_5 a1 a2 a3 a4 h) 249 3) + a2))))) ∧ (((a1 = 2) → ((fx_l (((s_X12_other_7 a1 a2 a3 a4 h) 249 2) + a2))))) ∧ (O_X12_other_148 a1 a2 a3 a4 (s_X12_other_3 a1 a2 a3 a4 h) 0 (s_X12_other_9 a1 a2 a3 a4 h)) ∧ (((a1 = 4) → ((fx_l (((s_X12_other_12 a1 a2 a3 a4 h) 249 5) + a2))))) ∧ ((P_X12_addMachine a2 ((s_X12_other_14 a1 a2 a3 a4 h) 249 94) ((s_X12_other_14 a1 a2 a3 a4 h) 249 104) ((s_X12_other_14 a1 a2 a3 a4 h) 249 114) ((s_X12_other_14 a1 a2 a3 a4 h) 249 124) (s_X12_other_14 a1 a2 a3 a4 h))) ∧ (O_X12_other_228 a3 a4 (s_X12_other_3 a1 a2 a3 a4 h) 0 (s_X12_other_15 a1 a2 a3 a4 h)) ∧ (((a4 = 0) → ((P_X12_broken (s_X12_other_17 a1 a2 a3 a4 h))))) ∧ (P_X12_copy 250 249 (s_X12_other_17 a1 a2 a3 a4 h)))))))))))))) ∧ ((¬ a1 = 5) → (((1 ≤ a3 ∧ a3 ≤ 30) → (((0 ≤ a4 ∧ a4 ≤ 1) → (P_X12_copy 249 250 h ∧ (O_X12_other_58 a1 a2 a3 a4 0 (H_X12_copy 249 250 h)) ∧ (((a4 = 0) → ((P_X12_broken (s_X12_other_2 a1 a2 a3 a4 h))))) ∧ (P_X12_copy 250 249 (s_X12_other_2 a1 a2 a3 a4 h)) ∧ (((a1 = 0) → ((fx_l (((H_X12_copy 250 249 (s_X12_other_2 a1 a2 a3 a4 h)) 249 0) + a2))))) ∧ (((a1 = 1) → ((fx_l (((s_X12_other_5 a1 a2 a3 a4 h) 249 3) + a2))))) ∧ (((a1 = 2) → ((fx_l (((s_X12_other_7 a1 a2 a3 a4 h) 249 2) + a2))))) ∧ (O_X12_other_148 a1 a2 a3 a4 (s_X12_other_3 a1 a2 a3 a4 h) 0 (s_X12_other_9 a1 a2 a3 a4 h)) ∧ (((a1 = 4) → ((fx_l (((s_X12_other_12 a1 a2 a3 a4 h) 249 5) + a2))))) ∧ (O_X12_other_228 a3 a4 (s_X12_other_3 a1 a2 a3 a4 h) 0 (s_X12_other_14 a1 a2 a3 a4 h)) ∧ (((a4 = 0) → ((P_X12_broken (s_X12_other_20 a1 a2 a3 a4 h))))) ∧ (P_X12_copy 250 249 (s_X12_other_20 a1 a2 a3 a4 h)))))))))))))
set_option maxHeartbeats 4000000 in
theorem w_X12_other (a1 : Int) (a2 : Int) (a3 : Int) (a4 : Int) (h : pH) {Q : Option pV → pH → Prop} (hp : P_X12_other a1 a2 a3 a4 h) (kk : Q (some (1, F_X12_other a1 a2 a3 a4 h)) (H_X12_other a1 a2 a3 a4 h)) : WP 208 (0, [(14, 248), (0, a1), (0, a2), (0, a3), (0, a4), pU, pU, pU, pU], [], h) Q := by
  unfold P_X12_other at hp
  have q141 := hp
  refine WP.iload_n rfl rfl ?_
  refine WP.i2l rfl ?_
  refine WP.lconst rfl ?_
  refine WP.ldc2_w rfl ?_
  refine WP.callF (c_X12_in a1 0 5 h) rfl rfl (pm_cok rfl rfl (Or.inl rfl) rfl rfl) rfl rfl ?_
  show WP 208 (5, [(14, 248), (0, a1), (0, a2), (0, a3), (0, a4), pU, pU, pU, pU], [(0, if 0 ≤ a1 ∧ a1 ≤ 5 then 1 else 0)], h) Q
  refine WP.nb_eq rfl (fun c1 => ?_) (fun c1 => ?_)
  · refine WP.ldc2_w rfl ?_
    refine WP.retl rfl ?_; have e := kk; simp only [F_X12_other, H_X12_other, if_neg (c1)] at e ⊢; exact e
  · have q140 := q141 c1
    refine WP.iload_n rfl rfl ?_
    refine WP.i2l rfl ?_
    refine WP.ldc2_w rfl ?_
    refine WP.ldc2_w rfl ?_
    refine WP.callF (c_X12_in a2 (-100000) 100000 h) rfl rfl (pm_cok rfl rfl (Or.inl rfl) rfl rfl) rfl rfl ?_
    show WP 208 (11, [(14, 248), (0, a1), (0, a2), (0, a3), (0, a4), pU, pU, pU, pU], [(0, if (-100000) ≤ a2 ∧ a2 ≤ 100000 then 1 else 0)], h) Q
    refine WP.nb_eq rfl (fun c2 => ?_) (fun c2 => ?_)
    · refine WP.ldc2_w rfl ?_
      refine WP.retl rfl ?_; have e := kk; simp only [F_X12_other, H_X12_other, if_pos c1, if_neg (c2)] at e ⊢; exact e
    · have q139 := q140 c2
      refine WP.iload_n rfl rfl ?_
      refine WP.iconst rfl ?_
      refine WP.ni_ne rfl (fun c3 => ?_) (fun c3 => ?_)
      · have q138 := q139.2 c3
        refine WP.iload_n rfl rfl ?_
        refine WP.i2l rfl ?_
        refine WP.lconst rfl ?_
        refine WP.ldc2_w rfl ?_
        refine WP.callF (c_X12_in a3 1 30 h) rfl rfl (pm_cok rfl rfl (Or.inl rfl) rfl rfl) rfl rfl ?_
        show WP 208 (23, [(14, 248), (0, a1), (0, a2), (0, a3), (0, a4), pU, pU, pU, pU], [(0, if 1 ≤ a3 ∧ a3 ≤ 30 then 1 else 0)], h) Q
        refine WP.nb_eq rfl (fun c86 => ?_) (fun c86 => ?_)
        · refine WP.ldc2_w rfl ?_
          refine WP.retl rfl ?_; have e := kk; simp only [F_X12_other, H_X12_other, if_pos c1, if_pos c2, if_neg (c3), if_neg (c86)] at e ⊢; exact e
        · have q137 := q138 c86
          refine WP.iload rfl rfl ?_
          refine WP.i2l rfl ?_
          refine WP.lconst rfl ?_
          refine WP.lconst rfl ?_
          refine WP.callF (c_X12_in a4 0 1 h) rfl rfl (pm_cok rfl rfl (Or.inl rfl) rfl rfl) rfl rfl ?_
          show WP 208 (29, [(14, 248), (0, a1), (0, a2), (0, a3), (0, a4), pU, pU, pU, pU], [(0, if 0 ≤ a4 ∧ a4 ≤ 1 then 1 else 0)], h) Q
          refine WP.nb_ne rfl (fun c87 => ?_) (fun c87 => ?_)
          · obtain ⟨o89, o90, q97, o98, q104, q110, q116, o117, q124, o128, q135, o136⟩ := q137 c87
            refine WP.iload_n rfl rfl ?_
            refine WP.iconst rfl ?_
            refine WP.ni_ne rfl (fun c88 => ?_) (fun c88 => ?_)
            · refine WP.aload_n rfl rfl ⟨by decide, by decide⟩ ?_
              refine WP.getRF (b := 249) rfl rfl rfl ?_
              refine WP.aload_n rfl rfl ⟨by decide, by decide⟩ ?_
              refine WP.getRF (b := 250) rfl rfl rfl ?_
              refine WP.callF (c_X12_copy 249 250 h o89) rfl rfl (pm_cok rfl rfl (Or.inl rfl) rfl rfl) rfl rfl ?_
              show WP 208 (56, [(14, 248), (0, a1), (0, a2), (0, a3), (0, a4), pU, pU, pU, pU], [], H_X12_copy 249 250 h) Q
              refine WP.iconst rfl ?_
              refine WP.istore (L' := [(14, 248), (0, a1), (0, a2), (0, a3), (0, a4), (0, 0), pU, pU, pU]) rfl rfl ?_
              refine lp_X12_other_58 a1 a2 a3 a4 0 (H_X12_copy 249 250 h) o90 (fun us91 => ?_) [pU, pU, pU]
              show WP 208 (65, [(14, 248), (0, a1), (0, a2), (0, a3), (0, a4), (0, s_X12_other_1 a1 a2 a3 a4 h), us91.getD 0 pU, us91.getD 1 pU, us91.getD 2 pU], [], s_X12_other_2 a1 a2 a3 a4 h) Q
              refine WP.iload rfl rfl ?_
              have k92 : ∀ Q' : Option pV → pH → Prop, (WP 208 (75, [(14, 248), (0, a1), (0, a2), (0, a3), (0, a4), (0, s_X12_other_1 a1 a2 a3 a4 h), us91.getD 0 pU, us91.getD 1 pU, us91.getD 2 pU], [(1, s_X12_other_3 a1 a2 a3 a4 h)], s_X12_other_2 a1 a2 a3 a4 h) Q') → WP 208 (66, [(14, 248), (0, a1), (0, a2), (0, a3), (0, a4), (0, s_X12_other_1 a1 a2 a3 a4 h), us91.getD 0 pU, us91.getD 1 pU, us91.getD 2 pU], [(0, a4)], s_X12_other_2 a1 a2 a3 a4 h) Q' := fun Q' kk => by
                have q95 := q97
                refine WP.nz_ne rfl (fun c93 => ?_) (fun c93 => ?_)
                · refine WP.aload_n rfl rfl ⟨by decide, by decide⟩ ?_
                  refine WP.getRF (b := 249) rfl rfl rfl ?_
                  refine WP.bipush rfl ?_
                  refine WP.laload rfl ⟨by decide, by decide, by decide⟩ (by decide) ?_
                  have e := kk; simp only [s_X12_other_3, if_neg (c93)] at e ⊢; exact e
                · have o94 := q95 c93
                  refine WP.aload_n rfl rfl ⟨by decide, by decide⟩ ?_
                  refine WP.callF (c_X12_broken (s_X12_other_2 a1 a2 a3 a4 h) o94) rfl rfl (pm_cok rfl rfl (Or.inr ⟨_, _, rfl⟩) rfl rfl) rfl rfl ?_
                  show WP 208 (69, [(14, 248), (0, a1), (0, a2), (0, a3), (0, a4), (0, s_X12_other_1 a1 a2 a3 a4 h), us91.getD 0 pU, us91.getD 1 pU, us91.getD 2 pU], [(0, F_X12_broken (s_X12_other_2 a1 a2 a3 a4 h))], s_X12_other_2 a1 a2 a3 a4 h) Q'
                  refine WP.i2l rfl ?_
                  refine WP.goto rfl ?_
                  have e := kk; simp only [s_X12_other_3, if_pos c93] at e ⊢; exact e
              refine k92 _ ?_
              refine WP.lstore (L' := [(14, 248), (0, a1), (0, a2), (0, a3), (0, a4), (1, s_X12_other_3 a1 a2 a3 a4 h), pU, us91.getD 1 pU, us91.getD 2 pU]) rfl rfl ?_
              refine WP.aload_n rfl rfl ⟨by decide, by decide⟩ ?_
              refine WP.getRF (b := 250) rfl rfl rfl ?_
              refine WP.aload_n rfl rfl ⟨by decide, by decide⟩ ?_
              refine WP.getRF (b := 249) rfl rfl rfl ?_
              refine WP.callF (c_X12_copy 250 249 (s_X12_other_2 a1 a2 a3 a4 h) o98) rfl rfl (pm_cok rfl rfl (Or.inl rfl) rfl rfl) rfl rfl ?_
              show WP 208 (81, [(14, 248), (0, a1), (0, a2), (0, a3), (0, a4), (1, s_X12_other_3 a1 a2 a3 a4 h), pU, us91.getD 1 pU, us91.getD 2 pU], [], H_X12_copy 250 249 (s_X12_other_2 a1 a2 a3 a4 h)) Q
              refine WP.aload_n rfl rfl ⟨by decide, by decide⟩ ?_
              refine WP.getRF (b := 249) rfl rfl rfl ?_
              refine WP.iconst rfl ?_
              refine WP.iload_n rfl rfl ?_
              have k99 : ∀ Q' : Option pV → pH → Prop, (WP 208 (101, [(14, 248), (0, a1), (0, a2), (0, a3), (0, a4), (1, s_X12_other_3 a1 a2 a3 a4 h), pU, us91.getD 1 pU, us91.getD 2 pU], [(1, s_X12_other_4 a1 a2 a3 a4 h), (0, 0), (3481, 249)], H_X12_copy 250 249 (s_X12_other_2 a1 a2 a3 a4 h)) Q') → WP 208 (85, [(14, 248), (0, a1), (0, a2), (0, a3), (0, a4), (1, s_X12_other_3 a1 a2 a3 a4 h), pU, us91.getD 1 pU, us91.getD 2 pU], [(0, a1), (0, 0), (3481, 249)], H_X12_copy 250 249 (s_X12_other_2 a1 a2 a3 a4 h)) Q' := fun Q' kk => by
                have q102 := q104
                refine WP.nz_ne rfl (fun c100 => ?_) (fun c100 => ?_)
                · refine WP.aload_n rfl rfl ⟨by decide, by decide⟩ ?_
                  refine WP.getRF (b := 249) rfl rfl rfl ?_
                  refine WP.iconst rfl ?_
                  refine WP.laload rfl ⟨by decide, by decide, by decide⟩ (by decide) ?_
                  have e := kk; simp only [s_X12_other_4, if_neg (c100)] at e ⊢; exact e
                · have o101 := q102 c100
                  refine WP.aload_n rfl rfl ⟨by decide, by decide⟩ ?_
                  refine WP.getRF (b := 249) rfl rfl rfl ?_
                  refine WP.iconst rfl ?_
                  refine WP.laload rfl ⟨by decide, by decide, by decide⟩ (by decide) ?_
                  refine WP.iload_n rfl rfl ?_
                  refine WP.i2l rfl ?_
                  refine WP.laddE rfl o101 ?_
                  refine WP.lconst rfl ?_
                  refine WP.ldc2_w rfl ?_
                  refine WP.callF (c_X12_brought (((H_X12_copy 250 249 (s_X12_other_2 a1 a2 a3 a4 h)) 249 0) + a2) 0 500 (H_X12_copy 250 249 (s_X12_other_2 a1 a2 a3 a4 h))) rfl rfl (pm_cok rfl rfl (Or.inl rfl) rfl rfl) rfl rfl ?_
                  show WP 208 (96, [(14, 248), (0, a1), (0, a2), (0, a3), (0, a4), (1, s_X12_other_3 a1 a2 a3 a4 h), pU, us91.getD 1 pU, us91.getD 2 pU], [(1, s_X12_brought_1 (((H_X12_copy 250 249 (s_X12_other_2 a1 a2 a3 a4 h)) 249 0) + a2) 0 500), (0, 0), (3481, 249)], H_X12_copy 250 249 (s_X12_other_2 a1 a2 a3 a4 h)) Q'
                  refine WP.goto rfl ?_
                  have e := kk; simp only [s_X12_other_4, if_pos c100] at e ⊢; exact e
              refine k99 _ ?_
              refine WP.lastore rfl ⟨by decide, by decide, by decide⟩ (by decide) ?_
              show WP 208 (102, [(14, 248), (0, a1), (0, a2), (0, a3), (0, a4), (1, s_X12_other_3 a1 a2 a3 a4 h), pU, us91.getD 1 pU, us91.getD 2 pU], [], s_X12_other_5 a1 a2 a3 a4 h) Q
              refine WP.aload_n rfl rfl ⟨by decide, by decide⟩ ?_
              refine WP.getRF (b := 249) rfl rfl rfl ?_
              refine WP.iconst rfl ?_
              refine WP.iload_n rfl rfl ?_
              refine WP.iconst rfl ?_
              have k105 : ∀ Q' : Option pV → pH → Prop, (WP 208 (123, [(14, 248), (0, a1), (0, a2), (0, a3), (0, a4), (1, s_X12_other_3 a1 a2 a3 a4 h), pU, us91.getD 1 pU, us91.getD 2 pU], [(1, s_X12_other_6 a1 a2 a3 a4 h), (0, 3), (3481, 249)], s_X12_other_5 a1 a2 a3 a4 h) Q') → WP 208 (107, [(14, 248), (0, a1), (0, a2), (0, a3), (0, a4), (1, s_X12_other_3 a1 a2 a3 a4 h), pU, us91.getD 1 pU, us91.getD 2 pU], [(0, 1), (0, a1), (0, 3), (3481, 249)], s_X12_other_5 a1 a2 a3 a4 h) Q' := fun Q' kk => by
                have q108 := q110
                refine WP.ni_ne rfl (fun c106 => ?_) (fun c106 => ?_)
                · refine WP.aload_n rfl rfl ⟨by decide, by decide⟩ ?_
                  refine WP.getRF (b := 249) rfl rfl rfl ?_
                  refine WP.iconst rfl ?_
                  refine WP.laload rfl ⟨by decide, by decide, by decide⟩ (by decide) ?_
                  have e := kk; simp only [s_X12_other_6, if_neg (c106)] at e ⊢; exact e
                · have o107 := q108 c106
                  refine WP.aload_n rfl rfl ⟨by decide, by decide⟩ ?_
                  refine WP.getRF (b := 249) rfl rfl rfl ?_
                  refine WP.iconst rfl ?_
                  refine WP.laload rfl ⟨by decide, by decide, by decide⟩ (by decide) ?_
                  refine WP.iload_n rfl rfl ?_
                  refine WP.i2l rfl ?_
                  refine WP.laddE rfl o107 ?_
                  refine WP.lconst rfl ?_
                  refine WP.ldc2_w rfl ?_
                  refine WP.callF (c_X12_brought (((s_X12_other_5 a1 a2 a3 a4 h) 249 3) + a2) 0 100000 (s_X12_other_5 a1 a2 a3 a4 h)) rfl rfl (pm_cok rfl rfl (Or.inl rfl) rfl rfl) rfl rfl ?_
                  show WP 208 (118, [(14, 248), (0, a1), (0, a2), (0, a3), (0, a4), (1, s_X12_other_3 a1 a2 a3 a4 h), pU, us91.getD 1 pU, us91.getD 2 pU], [(1, s_X12_brought_1 (((s_X12_other_5 a1 a2 a3 a4 h) 249 3) + a2) 0 100000), (0, 3), (3481, 249)], s_X12_other_5 a1 a2 a3 a4 h) Q'
                  refine WP.goto rfl ?_
                  have e := kk; simp only [s_X12_other_6, if_pos c106] at e ⊢; exact e
              refine k105 _ ?_
              refine WP.lastore rfl ⟨by decide, by decide, by decide⟩ (by decide) ?_
              show WP 208 (124, [(14, 248), (0, a1), (0, a2), (0, a3), (0, a4), (1, s_X12_other_3 a1 a2 a3 a4 h), pU, us91.getD 1 pU, us91.getD 2 pU], [], s_X12_other_7 a1 a2 a3 a4 h) Q
              refine WP.aload_n rfl rfl ⟨by decide, by decide⟩ ?_
              refine WP.getRF (b := 249) rfl rfl rfl ?_
              refine WP.iconst rfl ?_
              refine WP.iload_n rfl rfl ?_
              refine WP.iconst rfl ?_
              have k111 : ∀ Q' : Option pV → pH → Prop, (WP 208 (145, [(14, 248), (0, a1), (0, a2), (0, a3), (0, a4), (1, s_X12_other_3 a1 a2 a3 a4 h), pU, us91.getD 1 pU, us91.getD 2 pU], [(1, s_X12_other_8 a1 a2 a3 a4 h), (0, 2), (3481, 249)], s_X12_other_7 a1 a2 a3 a4 h) Q') → WP 208 (129, [(14, 248), (0, a1), (0, a2), (0, a3), (0, a4), (1, s_X12_other_3 a1 a2 a3 a4 h), pU, us91.getD 1 pU, us91.getD 2 pU], [(0, 2), (0, a1), (0, 2), (3481, 249)], s_X12_other_7 a1 a2 a3 a4 h) Q' := fun Q' kk => by
                have q114 := q116
                refine WP.ni_ne rfl (fun c112 => ?_) (fun c112 => ?_)
                · refine WP.aload_n rfl rfl ⟨by decide, by decide⟩ ?_
                  refine WP.getRF (b := 249) rfl rfl rfl ?_
                  refine WP.iconst rfl ?_
                  refine WP.laload rfl ⟨by decide, by decide, by decide⟩ (by decide) ?_
                  have e := kk; simp only [s_X12_other_8, if_neg (c112)] at e ⊢; exact e
                · have o113 := q114 c112
                  refine WP.aload_n rfl rfl ⟨by decide, by decide⟩ ?_
                  refine WP.getRF (b := 249) rfl rfl rfl ?_
                  refine WP.iconst rfl ?_
                  refine WP.laload rfl ⟨by decide, by decide, by decide⟩ (by decide) ?_
                  refine WP.iload_n rfl rfl ?_
                  refine WP.i2l rfl ?_
                  refine WP.laddE rfl o113 ?_
                  refine WP.lconst rfl ?_
                  refine WP.ldc2_w rfl ?_
                  refine WP.callF (c_X12_brought (((s_X12_other_7 a1 a2 a3 a4 h) 249 2) + a2) 0 200 (s_X12_other_7 a1 a2 a3 a4 h)) rfl rfl (pm_cok rfl rfl (Or.inl rfl) rfl rfl) rfl rfl ?_
                  show WP 208 (140, [(14, 248), (0, a1), (0, a2), (0, a3), (0, a4), (1, s_X12_other_3 a1 a2 a3 a4 h), pU, us91.getD 1 pU, us91.getD 2 pU], [(1, s_X12_brought_1 (((s_X12_other_7 a1 a2 a3 a4 h) 249 2) + a2) 0 200), (0, 2), (3481, 249)], s_X12_other_7 a1 a2 a3 a4 h) Q'
                  refine WP.goto rfl ?_
                  have e := kk; simp only [s_X12_other_8, if_pos c112] at e ⊢; exact e
              refine k111 _ ?_
              refine WP.lastore rfl ⟨by decide, by decide, by decide⟩ (by decide) ?_
              show WP 208 (146, [(14, 248), (0, a1), (0, a2), (0, a3), (0, a4), (1, s_X12_other_3 a1 a2 a3 a4 h), pU, us91.getD 1 pU, us91.getD 2 pU], [], s_X12_other_9 a1 a2 a3 a4 h) Q
              refine WP.iconst rfl ?_
              refine WP.istore (L' := [(14, 248), (0, a1), (0, a2), (0, a3), (0, a4), (1, s_X12_other_3 a1 a2 a3 a4 h), pU, (0, 0), us91.getD 2 pU]) rfl rfl ?_
              refine lp_X12_other_148 a1 a2 a3 a4 (s_X12_other_3 a1 a2 a3 a4 h) 0 (s_X12_other_9 a1 a2 a3 a4 h) o117 (fun us118 => ?_) [us91.getD 2 pU]
              show WP 208 (181, [(14, 248), (0, a1), (0, a2), (0, a3), (0, a4), (1, s_X12_other_3 a1 a2 a3 a4 h), pU, (0, s_X12_other_11 a1 a2 a3 a4 h), us118.getD 0 pU], [], s_X12_other_12 a1 a2 a3 a4 h) Q
              refine WP.aload_n rfl rfl ⟨by decide, by decide⟩ ?_
              refine WP.getRF (b := 249) rfl rfl rfl ?_
              refine WP.iconst rfl ?_
              refine WP.iload_n rfl rfl ?_
              refine WP.iconst rfl ?_
              have k119 : ∀ Q' : Option pV → pH → Prop, (WP 208 (202, [(14, 248), (0, a1), (0, a2), (0, a3), (0, a4), (1, s_X12_other_3 a1 a2 a3 a4 h), pU, (0, s_X12_other_11 a1 a2 a3 a4 h), us118.getD 0 pU], [(1, s_X12_other_13 a1 a2 a3 a4 h), (0, 5), (3481, 249)], s_X12_other_12 a1 a2 a3 a4 h) Q') → WP 208 (186, [(14, 248), (0, a1), (0, a2), (0, a3), (0, a4), (1, s_X12_other_3 a1 a2 a3 a4 h), pU, (0, s_X12_other_11 a1 a2 a3 a4 h), us118.getD 0 pU], [(0, 4), (0, a1), (0, 5), (3481, 249)], s_X12_other_12 a1 a2 a3 a4 h) Q' := fun Q' kk => by
                have q122 := q124
                refine WP.ni_ne rfl (fun c120 => ?_) (fun c120 => ?_)
                · refine WP.aload_n rfl rfl ⟨by decide, by decide⟩ ?_
                  refine WP.getRF (b := 249) rfl rfl rfl ?_
                  refine WP.iconst rfl ?_
                  refine WP.laload rfl ⟨by decide, by decide, by decide⟩ (by decide) ?_
                  have e := kk; simp only [s_X12_other_13, if_neg (c120)] at e ⊢; exact e
                · have o121 := q122 c120
                  refine WP.aload_n rfl rfl ⟨by decide, by decide⟩ ?_
                  refine WP.getRF (b := 249) rfl rfl rfl ?_
                  refine WP.iconst rfl ?_
                  refine WP.laload rfl ⟨by decide, by decide, by decide⟩ (by decide) ?_
                  refine WP.iload_n rfl rfl ?_
                  refine WP.i2l rfl ?_
                  refine WP.laddE rfl o121 ?_
                  refine WP.lconst rfl ?_
                  refine WP.ldc2_w rfl ?_
                  refine WP.callF (c_X12_brought (((s_X12_other_12 a1 a2 a3 a4 h) 249 5) + a2) 0 10000 (s_X12_other_12 a1 a2 a3 a4 h)) rfl rfl (pm_cok rfl rfl (Or.inl rfl) rfl rfl) rfl rfl ?_
                  show WP 208 (197, [(14, 248), (0, a1), (0, a2), (0, a3), (0, a4), (1, s_X12_other_3 a1 a2 a3 a4 h), pU, (0, s_X12_other_11 a1 a2 a3 a4 h), us118.getD 0 pU], [(1, s_X12_brought_1 (((s_X12_other_12 a1 a2 a3 a4 h) 249 5) + a2) 0 10000), (0, 5), (3481, 249)], s_X12_other_12 a1 a2 a3 a4 h) Q'
                  refine WP.goto rfl ?_
                  have e := kk; simp only [s_X12_other_13, if_pos c120] at e ⊢; exact e
              refine k119 _ ?_
              refine WP.lastore rfl ⟨by decide, by decide, by decide⟩ (by decide) ?_
              show WP 208 (203, [(14, 248), (0, a1), (0, a2), (0, a3), (0, a4), (1, s_X12_other_3 a1 a2 a3 a4 h), pU, (0, s_X12_other_11 a1 a2 a3 a4 h), us118.getD 0 pU], [], s_X12_other_14 a1 a2 a3 a4 h) Q
              refine WP.iload_n rfl rfl ?_
              refine WP.iconst rfl ?_
              have k125 : ∀ Q' : Option pV → pH → Prop, (WP 208 (226, [(14, 248), (0, a1), (0, a2), (0, a3), (0, a4), (1, s_X12_other_3 a1 a2 a3 a4 h), pU, (0, s_X12_other_11 a1 a2 a3 a4 h), us118.getD 0 pU], [], s_X12_other_14 a1 a2 a3 a4 h) Q') → WP 208 (205, [(14, 248), (0, a1), (0, a2), (0, a3), (0, a4), (1, s_X12_other_3 a1 a2 a3 a4 h), pU, (0, s_X12_other_11 a1 a2 a3 a4 h), us118.getD 0 pU], [(0, 5), (0, a1)], s_X12_other_14 a1 a2 a3 a4 h) Q' := fun Q' kk => by
                refine WP.ni_ne rfl (fun c126 => ?_) (fun c126 => ?_)
                · exact kk
                · exact absurd c126 (c3)
              refine k125 _ ?_
              refine WP.iconst rfl ?_
              refine WP.istore (L' := [(14, 248), (0, a1), (0, a2), (0, a3), (0, a4), (1, s_X12_other_3 a1 a2 a3 a4 h), pU, (0, 0), us118.getD 0 pU]) rfl rfl ?_
              refine lp_X12_other_228 a3 a4 (s_X12_other_3 a1 a2 a3 a4 h) 0 (s_X12_other_14 a1 a2 a3 a4 h) o128 (fun us129 => ?_) [(0, a1), (0, a2), us118.getD 0 pU]
              show WP 208 (235, [(14, 248), us129.getD 0 pU, us129.getD 1 pU, (0, a3), (0, a4), (1, s_X12_other_3 a1 a2 a3 a4 h), pU, (0, s_X12_other_19 a1 a2 a3 a4 h), us129.getD 2 pU], [], s_X12_other_20 a1 a2 a3 a4 h) Q
              refine WP.iload rfl rfl ?_
              have k130 : ∀ Q' : Option pV → pH → Prop, (WP 208 (245, [(14, 248), us129.getD 0 pU, us129.getD 1 pU, (0, a3), (0, a4), (1, s_X12_other_3 a1 a2 a3 a4 h), pU, (0, s_X12_other_19 a1 a2 a3 a4 h), us129.getD 2 pU], [(1, s_X12_other_21 a1 a2 a3 a4 h)], s_X12_other_20 a1 a2 a3 a4 h) Q') → WP 208 (236, [(14, 248), us129.getD 0 pU, us129.getD 1 pU, (0, a3), (0, a4), (1, s_X12_other_3 a1 a2 a3 a4 h), pU, (0, s_X12_other_19 a1 a2 a3 a4 h), us129.getD 2 pU], [(0, a4)], s_X12_other_20 a1 a2 a3 a4 h) Q' := fun Q' kk => by
                have q133 := q135
                refine WP.nz_ne rfl (fun c131 => ?_) (fun c131 => ?_)
                · refine WP.aload_n rfl rfl ⟨by decide, by decide⟩ ?_
                  refine WP.getRF (b := 249) rfl rfl rfl ?_
                  refine WP.bipush rfl ?_
                  refine WP.laload rfl ⟨by decide, by decide, by decide⟩ (by decide) ?_
                  have e := kk; simp only [s_X12_other_21, if_neg (c131)] at e ⊢; exact e
                · have o132 := q133 c131
                  refine WP.aload_n rfl rfl ⟨by decide, by decide⟩ ?_
                  refine WP.callF (c_X12_broken (s_X12_other_20 a1 a2 a3 a4 h) o132) rfl rfl (pm_cok rfl rfl (Or.inr ⟨_, _, rfl⟩) rfl rfl) rfl rfl ?_
                  show WP 208 (239, [(14, 248), us129.getD 0 pU, us129.getD 1 pU, (0, a3), (0, a4), (1, s_X12_other_3 a1 a2 a3 a4 h), pU, (0, s_X12_other_19 a1 a2 a3 a4 h), us129.getD 2 pU], [(0, F_X12_broken (s_X12_other_20 a1 a2 a3 a4 h))], s_X12_other_20 a1 a2 a3 a4 h) Q'
                  refine WP.i2l rfl ?_
                  refine WP.goto rfl ?_
                  have e := kk; simp only [s_X12_other_21, if_pos c131] at e ⊢; exact e
              refine k130 _ ?_
              refine WP.lstore (L' := [(14, 248), us129.getD 0 pU, us129.getD 1 pU, (0, a3), (0, a4), (1, s_X12_other_3 a1 a2 a3 a4 h), pU, (1, s_X12_other_21 a1 a2 a3 a4 h), pU]) rfl rfl ?_
              refine WP.aload_n rfl rfl ⟨by decide, by decide⟩ ?_
              refine WP.getRF (b := 250) rfl rfl rfl ?_
              refine WP.aload_n rfl rfl ⟨by decide, by decide⟩ ?_
              refine WP.getRF (b := 249) rfl rfl rfl ?_
              refine WP.callF (c_X12_copy 250 249 (s_X12_other_20 a1 a2 a3 a4 h) o136) rfl rfl (pm_cok rfl rfl (Or.inl rfl) rfl rfl) rfl rfl ?_
              show WP 208 (251, [(14, 248), us129.getD 0 pU, us129.getD 1 pU, (0, a3), (0, a4), (1, s_X12_other_3 a1 a2 a3 a4 h), pU, (1, s_X12_other_21 a1 a2 a3 a4 h), pU], [], H_X12_copy 250 249 (s_X12_other_20 a1 a2 a3 a4 h)) Q
              refine WP.lload rfl rfl ?_
              refine WP.lload rfl rfl ?_
              refine WP.lsub rfl ?_
              refine WP.retl rfl ?_; have e := kk; simp only [F_X12_other, H_X12_other, if_pos c1, if_pos c2, if_neg (c3), if_pos c86, if_pos c87] at e ⊢; exact e
            · exact absurd c88 (c3)
          · refine WP.ldc2_w rfl ?_
            refine WP.retl rfl ?_; have e := kk; simp only [F_X12_other, H_X12_other, if_pos c1, if_pos c2, if_neg (c3), if_pos c86, if_neg (c87)] at e ⊢; exact e
      · have q85 := q139.1 c3
        refine WP.iload_n rfl rfl ?_
        refine WP.callF (c_X12_isCell a2 h) rfl rfl (pm_cok rfl rfl (Or.inl rfl) rfl rfl) rfl rfl ?_
        show WP 208 (17, [(14, 248), (0, a1), (0, a2), (0, a3), (0, a4), pU, pU, pU, pU], [(0, if 0 ≤ a2 ∧ a2 ≤ 11 then 1 else 0)], h) Q
        refine WP.nb_eq rfl (fun c4 => ?_) (fun c4 => ?_)
        · refine WP.ldc2_w rfl ?_
          refine WP.retl rfl ?_; have e := kk; simp only [F_X12_other, H_X12_other, if_pos c1, if_pos c2, if_pos c3, if_neg (c4)] at e ⊢; exact e
        · have q84 := q85 c4
          refine WP.iload_n rfl rfl ?_
          refine WP.i2l rfl ?_
          refine WP.lconst rfl ?_
          refine WP.ldc2_w rfl ?_
          refine WP.callF (c_X12_in a3 1 30 h) rfl rfl (pm_cok rfl rfl (Or.inl rfl) rfl rfl) rfl rfl ?_
          show WP 208 (23, [(14, 248), (0, a1), (0, a2), (0, a3), (0, a4), pU, pU, pU, pU], [(0, if 1 ≤ a3 ∧ a3 ≤ 30 then 1 else 0)], h) Q
          refine WP.nb_eq rfl (fun c5 => ?_) (fun c5 => ?_)
          · refine WP.ldc2_w rfl ?_
            refine WP.retl rfl ?_; have e := kk; simp only [F_X12_other, H_X12_other, if_pos c1, if_pos c2, if_pos c3, if_pos c4, if_neg (c5)] at e ⊢; exact e
          · have q83 := q84 c5
            refine WP.iload rfl rfl ?_
            refine WP.i2l rfl ?_
            refine WP.lconst rfl ?_
            refine WP.lconst rfl ?_
            refine WP.callF (c_X12_in a4 0 1 h) rfl rfl (pm_cok rfl rfl (Or.inl rfl) rfl rfl) rfl rfl ?_
            show WP 208 (29, [(14, 248), (0, a1), (0, a2), (0, a3), (0, a4), pU, pU, pU, pU], [(0, if 0 ≤ a4 ∧ a4 ≤ 1 then 1 else 0)], h) Q
            refine WP.nb_ne rfl (fun c6 => ?_) (fun c6 => ?_)
            · have q82 := q83 c6
              refine WP.iload_n rfl rfl ?_
              refine WP.iconst rfl ?_
              refine WP.ni_ne rfl (fun c7 => ?_) (fun c7 => ?_)
              · exact absurd c3 (c7)
              · refine WP.aload_n rfl rfl ⟨by decide, by decide⟩ ?_
                refine WP.getRF (b := 249) rfl rfl rfl ?_
                refine WP.bipush rfl ?_
                refine WP.laload rfl ⟨by decide, by decide, by decide⟩ (by decide) ?_
                refine WP.lconst rfl ?_
                refine WP.lcmp rfl ?_
                refine WP.nl_eq rfl (fun c8 => ?_) (fun c8 => ?_)
                · refine WP.ldc2_w rfl ?_
                  refine WP.retl rfl ?_; have e := kk; simp only [F_X12_other, H_X12_other, if_pos c1, if_pos c2, if_pos c3, if_pos c4, if_pos c5, if_pos c6, if_pos c8] at e ⊢; exact e
                · have q81 := q82 c8
                  refine WP.aload_n rfl rfl ⟨by decide, by decide⟩ ?_
                  refine WP.getRF (b := 249) rfl rfl rfl ?_
                  refine WP.bipush rfl ?_
                  refine WP.laload rfl ⟨by decide, by decide, by decide⟩ (by decide) ?_
                  refine WP.ldc2_w rfl ?_
                  refine WP.lcmp rfl ?_
                  refine WP.nl_ne rfl (fun c9 => ?_) (fun c9 => ?_)
                  · obtain ⟨o10, o15, q22, o23, q29, q35, q41, o55, q62, q67, o72, q79, o80⟩ := q81 c9
                    refine WP.aload_n rfl rfl ⟨by decide, by decide⟩ ?_
                    refine WP.getRF (b := 249) rfl rfl rfl ?_
                    refine WP.aload_n rfl rfl ⟨by decide, by decide⟩ ?_
                    refine WP.getRF (b := 250) rfl rfl rfl ?_
                    refine WP.callF (c_X12_copy 249 250 h o10) rfl rfl (pm_cok rfl rfl (Or.inl rfl) rfl rfl) rfl rfl ?_
                    show WP 208 (56, [(14, 248), (0, a1), (0, a2), (0, a3), (0, a4), pU, pU, pU, pU], [], H_X12_copy 249 250 h) Q
                    refine WP.iconst rfl ?_
                    refine WP.istore (L' := [(14, 248), (0, a1), (0, a2), (0, a3), (0, a4), (0, 0), pU, pU, pU]) rfl rfl ?_
                    refine lp_X12_other_58 a1 a2 a3 a4 0 (H_X12_copy 249 250 h) o15 (fun us16 => ?_) [pU, pU, pU]
                    show WP 208 (65, [(14, 248), (0, a1), (0, a2), (0, a3), (0, a4), (0, s_X12_other_1 a1 a2 a3 a4 h), us16.getD 0 pU, us16.getD 1 pU, us16.getD 2 pU], [], s_X12_other_2 a1 a2 a3 a4 h) Q
                    refine WP.iload rfl rfl ?_
                    have k17 : ∀ Q' : Option pV → pH → Prop, (WP 208 (75, [(14, 248), (0, a1), (0, a2), (0, a3), (0, a4), (0, s_X12_other_1 a1 a2 a3 a4 h), us16.getD 0 pU, us16.getD 1 pU, us16.getD 2 pU], [(1, s_X12_other_3 a1 a2 a3 a4 h)], s_X12_other_2 a1 a2 a3 a4 h) Q') → WP 208 (66, [(14, 248), (0, a1), (0, a2), (0, a3), (0, a4), (0, s_X12_other_1 a1 a2 a3 a4 h), us16.getD 0 pU, us16.getD 1 pU, us16.getD 2 pU], [(0, a4)], s_X12_other_2 a1 a2 a3 a4 h) Q' := fun Q' kk => by
                      have q20 := q22
                      refine WP.nz_ne rfl (fun c18 => ?_) (fun c18 => ?_)
                      · refine WP.aload_n rfl rfl ⟨by decide, by decide⟩ ?_
                        refine WP.getRF (b := 249) rfl rfl rfl ?_
                        refine WP.bipush rfl ?_
                        refine WP.laload rfl ⟨by decide, by decide, by decide⟩ (by decide) ?_
                        have e := kk; simp only [s_X12_other_3, if_neg (c18)] at e ⊢; exact e
                      · have o19 := q20 c18
                        refine WP.aload_n rfl rfl ⟨by decide, by decide⟩ ?_
                        refine WP.callF (c_X12_broken (s_X12_other_2 a1 a2 a3 a4 h) o19) rfl rfl (pm_cok rfl rfl (Or.inr ⟨_, _, rfl⟩) rfl rfl) rfl rfl ?_
                        show WP 208 (69, [(14, 248), (0, a1), (0, a2), (0, a3), (0, a4), (0, s_X12_other_1 a1 a2 a3 a4 h), us16.getD 0 pU, us16.getD 1 pU, us16.getD 2 pU], [(0, F_X12_broken (s_X12_other_2 a1 a2 a3 a4 h))], s_X12_other_2 a1 a2 a3 a4 h) Q'
                        refine WP.i2l rfl ?_
                        refine WP.goto rfl ?_
                        have e := kk; simp only [s_X12_other_3, if_pos c18] at e ⊢; exact e
                    refine k17 _ ?_
                    refine WP.lstore (L' := [(14, 248), (0, a1), (0, a2), (0, a3), (0, a4), (1, s_X12_other_3 a1 a2 a3 a4 h), pU, us16.getD 1 pU, us16.getD 2 pU]) rfl rfl ?_
                    refine WP.aload_n rfl rfl ⟨by decide, by decide⟩ ?_
                    refine WP.getRF (b := 250) rfl rfl rfl ?_
                    refine WP.aload_n rfl rfl ⟨by decide, by decide⟩ ?_
                    refine WP.getRF (b := 249) rfl rfl rfl ?_
                    refine WP.callF (c_X12_copy 250 249 (s_X12_other_2 a1 a2 a3 a4 h) o23) rfl rfl (pm_cok rfl rfl (Or.inl rfl) rfl rfl) rfl rfl ?_
                    show WP 208 (81, [(14, 248), (0, a1), (0, a2), (0, a3), (0, a4), (1, s_X12_other_3 a1 a2 a3 a4 h), pU, us16.getD 1 pU, us16.getD 2 pU], [], H_X12_copy 250 249 (s_X12_other_2 a1 a2 a3 a4 h)) Q
                    refine WP.aload_n rfl rfl ⟨by decide, by decide⟩ ?_
                    refine WP.getRF (b := 249) rfl rfl rfl ?_
                    refine WP.iconst rfl ?_
                    refine WP.iload_n rfl rfl ?_
                    have k24 : ∀ Q' : Option pV → pH → Prop, (WP 208 (101, [(14, 248), (0, a1), (0, a2), (0, a3), (0, a4), (1, s_X12_other_3 a1 a2 a3 a4 h), pU, us16.getD 1 pU, us16.getD 2 pU], [(1, s_X12_other_4 a1 a2 a3 a4 h), (0, 0), (3481, 249)], H_X12_copy 250 249 (s_X12_other_2 a1 a2 a3 a4 h)) Q') → WP 208 (85, [(14, 248), (0, a1), (0, a2), (0, a3), (0, a4), (1, s_X12_other_3 a1 a2 a3 a4 h), pU, us16.getD 1 pU, us16.getD 2 pU], [(0, a1), (0, 0), (3481, 249)], H_X12_copy 250 249 (s_X12_other_2 a1 a2 a3 a4 h)) Q' := fun Q' kk => by
                      have q27 := q29
                      refine WP.nz_ne rfl (fun c25 => ?_) (fun c25 => ?_)
                      · refine WP.aload_n rfl rfl ⟨by decide, by decide⟩ ?_
                        refine WP.getRF (b := 249) rfl rfl rfl ?_
                        refine WP.iconst rfl ?_
                        refine WP.laload rfl ⟨by decide, by decide, by decide⟩ (by decide) ?_
                        have e := kk; simp only [s_X12_other_4, if_neg (c25)] at e ⊢; exact e
                      · have o26 := q27 c25
                        refine WP.aload_n rfl rfl ⟨by decide, by decide⟩ ?_
                        refine WP.getRF (b := 249) rfl rfl rfl ?_
                        refine WP.iconst rfl ?_
                        refine WP.laload rfl ⟨by decide, by decide, by decide⟩ (by decide) ?_
                        refine WP.iload_n rfl rfl ?_
                        refine WP.i2l rfl ?_
                        refine WP.laddE rfl o26 ?_
                        refine WP.lconst rfl ?_
                        refine WP.ldc2_w rfl ?_
                        refine WP.callF (c_X12_brought (((H_X12_copy 250 249 (s_X12_other_2 a1 a2 a3 a4 h)) 249 0) + a2) 0 500 (H_X12_copy 250 249 (s_X12_other_2 a1 a2 a3 a4 h))) rfl rfl (pm_cok rfl rfl (Or.inl rfl) rfl rfl) rfl rfl ?_
                        show WP 208 (96, [(14, 248), (0, a1), (0, a2), (0, a3), (0, a4), (1, s_X12_other_3 a1 a2 a3 a4 h), pU, us16.getD 1 pU, us16.getD 2 pU], [(1, s_X12_brought_1 (((H_X12_copy 250 249 (s_X12_other_2 a1 a2 a3 a4 h)) 249 0) + a2) 0 500), (0, 0), (3481, 249)], H_X12_copy 250 249 (s_X12_other_2 a1 a2 a3 a4 h)) Q'
                        refine WP.goto rfl ?_
                        have e := kk; simp only [s_X12_other_4, if_pos c25] at e ⊢; exact e
                    refine k24 _ ?_
                    refine WP.lastore rfl ⟨by decide, by decide, by decide⟩ (by decide) ?_
                    show WP 208 (102, [(14, 248), (0, a1), (0, a2), (0, a3), (0, a4), (1, s_X12_other_3 a1 a2 a3 a4 h), pU, us16.getD 1 pU, us16.getD 2 pU], [], s_X12_other_5 a1 a2 a3 a4 h) Q
                    refine WP.aload_n rfl rfl ⟨by decide, by decide⟩ ?_
                    refine WP.getRF (b := 249) rfl rfl rfl ?_
                    refine WP.iconst rfl ?_
                    refine WP.iload_n rfl rfl ?_
                    refine WP.iconst rfl ?_
                    have k30 : ∀ Q' : Option pV → pH → Prop, (WP 208 (123, [(14, 248), (0, a1), (0, a2), (0, a3), (0, a4), (1, s_X12_other_3 a1 a2 a3 a4 h), pU, us16.getD 1 pU, us16.getD 2 pU], [(1, s_X12_other_6 a1 a2 a3 a4 h), (0, 3), (3481, 249)], s_X12_other_5 a1 a2 a3 a4 h) Q') → WP 208 (107, [(14, 248), (0, a1), (0, a2), (0, a3), (0, a4), (1, s_X12_other_3 a1 a2 a3 a4 h), pU, us16.getD 1 pU, us16.getD 2 pU], [(0, 1), (0, a1), (0, 3), (3481, 249)], s_X12_other_5 a1 a2 a3 a4 h) Q' := fun Q' kk => by
                      have q33 := q35
                      refine WP.ni_ne rfl (fun c31 => ?_) (fun c31 => ?_)
                      · refine WP.aload_n rfl rfl ⟨by decide, by decide⟩ ?_
                        refine WP.getRF (b := 249) rfl rfl rfl ?_
                        refine WP.iconst rfl ?_
                        refine WP.laload rfl ⟨by decide, by decide, by decide⟩ (by decide) ?_
                        have e := kk; simp only [s_X12_other_6, if_neg (c31)] at e ⊢; exact e
                      · have o32 := q33 c31
                        refine WP.aload_n rfl rfl ⟨by decide, by decide⟩ ?_
                        refine WP.getRF (b := 249) rfl rfl rfl ?_
                        refine WP.iconst rfl ?_
                        refine WP.laload rfl ⟨by decide, by decide, by decide⟩ (by decide) ?_
                        refine WP.iload_n rfl rfl ?_
                        refine WP.i2l rfl ?_
                        refine WP.laddE rfl o32 ?_
                        refine WP.lconst rfl ?_
                        refine WP.ldc2_w rfl ?_
                        refine WP.callF (c_X12_brought (((s_X12_other_5 a1 a2 a3 a4 h) 249 3) + a2) 0 100000 (s_X12_other_5 a1 a2 a3 a4 h)) rfl rfl (pm_cok rfl rfl (Or.inl rfl) rfl rfl) rfl rfl ?_
                        show WP 208 (118, [(14, 248), (0, a1), (0, a2), (0, a3), (0, a4), (1, s_X12_other_3 a1 a2 a3 a4 h), pU, us16.getD 1 pU, us16.getD 2 pU], [(1, s_X12_brought_1 (((s_X12_other_5 a1 a2 a3 a4 h) 249 3) + a2) 0 100000), (0, 3), (3481, 249)], s_X12_other_5 a1 a2 a3 a4 h) Q'
                        refine WP.goto rfl ?_
                        have e := kk; simp only [s_X12_other_6, if_pos c31] at e ⊢; exact e
                    refine k30 _ ?_
                    refine WP.lastore rfl ⟨by decide, by decide, by decide⟩ (by decide) ?_
                    show WP 208 (124, [(14, 248), (0, a1), (0, a2), (0, a3), (0, a4), (1, s_X12_other_3 a1 a2 a3 a4 h), pU, us16.getD 1 pU, us16.getD 2 pU], [], s_X12_other_7 a1 a2 a3 a4 h) Q
                    refine WP.aload_n rfl rfl ⟨by decide, by decide⟩ ?_
                    refine WP.getRF (b := 249) rfl rfl rfl ?_
                    refine WP.iconst rfl ?_
                    refine WP.iload_n rfl rfl ?_
                    refine WP.iconst rfl ?_
                    have k36 : ∀ Q' : Option pV → pH → Prop, (WP 208 (145, [(14, 248), (0, a1), (0, a2), (0, a3), (0, a4), (1, s_X12_other_3 a1 a2 a3 a4 h), pU, us16.getD 1 pU, us16.getD 2 pU], [(1, s_X12_other_8 a1 a2 a3 a4 h), (0, 2), (3481, 249)], s_X12_other_7 a1 a2 a3 a4 h) Q') → WP 208 (129, [(14, 248), (0, a1), (0, a2), (0, a3), (0, a4), (1, s_X12_other_3 a1 a2 a3 a4 h), pU, us16.getD 1 pU, us16.getD 2 pU], [(0, 2), (0, a1), (0, 2), (3481, 249)], s_X12_other_7 a1 a2 a3 a4 h) Q' := fun Q' kk => by
                      have q39 := q41
                      refine WP.ni_ne rfl (fun c37 => ?_) (fun c37 => ?_)
                      · refine WP.aload_n rfl rfl ⟨by decide, by decide⟩ ?_
                        refine WP.getRF (b := 249) rfl rfl rfl ?_
                        refine WP.iconst rfl ?_
                        refine WP.laload rfl ⟨by decide, by decide, by decide⟩ (by decide) ?_
                        have e := kk; simp only [s_X12_other_8, if_neg (c37)] at e ⊢; exact e
                      · have o38 := q39 c37
                        refine WP.aload_n rfl rfl ⟨by decide, by decide⟩ ?_
                        refine WP.getRF (b := 249) rfl rfl rfl ?_
                        refine WP.iconst rfl ?_
                        refine WP.laload rfl ⟨by decide, by decide, by decide⟩ (by decide) ?_
                        refine WP.iload_n rfl rfl ?_
                        refine WP.i2l rfl ?_
                        refine WP.laddE rfl o38 ?_
                        refine WP.lconst rfl ?_
                        refine WP.ldc2_w rfl ?_
                        refine WP.callF (c_X12_brought (((s_X12_other_7 a1 a2 a3 a4 h) 249 2) + a2) 0 200 (s_X12_other_7 a1 a2 a3 a4 h)) rfl rfl (pm_cok rfl rfl (Or.inl rfl) rfl rfl) rfl rfl ?_
                        show WP 208 (140, [(14, 248), (0, a1), (0, a2), (0, a3), (0, a4), (1, s_X12_other_3 a1 a2 a3 a4 h), pU, us16.getD 1 pU, us16.getD 2 pU], [(1, s_X12_brought_1 (((s_X12_other_7 a1 a2 a3 a4 h) 249 2) + a2) 0 200), (0, 2), (3481, 249)], s_X12_other_7 a1 a2 a3 a4 h) Q'
                        refine WP.goto rfl ?_
                        have e := kk; simp only [s_X12_other_8, if_pos c37] at e ⊢; exact e
                    refine k36 _ ?_
                    refine WP.lastore rfl ⟨by decide, by decide, by decide⟩ (by decide) ?_
                    show WP 208 (146, [(14, 248), (0, a1), (0, a2), (0, a3), (0, a4), (1, s_X12_other_3 a1 a2 a3 a4 h), pU, us16.getD 1 pU, us16.getD 2 pU], [], s_X12_other_9 a1 a2 a3 a4 h) Q
                    refine WP.iconst rfl ?_
                    refine WP.istore (L' := [(14, 248), (0, a1), (0, a2), (0, a3), (0, a4), (1, s_X12_other_3 a1 a2 a3 a4 h), pU, (0, 0), us16.getD 2 pU]) rfl rfl ?_
                    refine lp_X12_other_148 a1 a2 a3 a4 (s_X12_other_3 a1 a2 a3 a4 h) 0 (s_X12_other_9 a1 a2 a3 a4 h) o55 (fun us56 => ?_) [us16.getD 2 pU]
                    show WP 208 (181, [(14, 248), (0, a1), (0, a2), (0, a3), (0, a4), (1, s_X12_other_3 a1 a2 a3 a4 h), pU, (0, s_X12_other_11 a1 a2 a3 a4 h), us56.getD 0 pU], [], s_X12_other_12 a1 a2 a3 a4 h) Q
                    refine WP.aload_n rfl rfl ⟨by decide, by decide⟩ ?_
                    refine WP.getRF (b := 249) rfl rfl rfl ?_
                    refine WP.iconst rfl ?_
                    refine WP.iload_n rfl rfl ?_
                    refine WP.iconst rfl ?_
                    have k57 : ∀ Q' : Option pV → pH → Prop, (WP 208 (202, [(14, 248), (0, a1), (0, a2), (0, a3), (0, a4), (1, s_X12_other_3 a1 a2 a3 a4 h), pU, (0, s_X12_other_11 a1 a2 a3 a4 h), us56.getD 0 pU], [(1, s_X12_other_13 a1 a2 a3 a4 h), (0, 5), (3481, 249)], s_X12_other_12 a1 a2 a3 a4 h) Q') → WP 208 (186, [(14, 248), (0, a1), (0, a2), (0, a3), (0, a4), (1, s_X12_other_3 a1 a2 a3 a4 h), pU, (0, s_X12_other_11 a1 a2 a3 a4 h), us56.getD 0 pU], [(0, 4), (0, a1), (0, 5), (3481, 249)], s_X12_other_12 a1 a2 a3 a4 h) Q' := fun Q' kk => by
                      have q60 := q62
                      refine WP.ni_ne rfl (fun c58 => ?_) (fun c58 => ?_)
                      · refine WP.aload_n rfl rfl ⟨by decide, by decide⟩ ?_
                        refine WP.getRF (b := 249) rfl rfl rfl ?_
                        refine WP.iconst rfl ?_
                        refine WP.laload rfl ⟨by decide, by decide, by decide⟩ (by decide) ?_
                        have e := kk; simp only [s_X12_other_13, if_neg (c58)] at e ⊢; exact e
                      · have o59 := q60 c58
                        refine WP.aload_n rfl rfl ⟨by decide, by decide⟩ ?_
                        refine WP.getRF (b := 249) rfl rfl rfl ?_
                        refine WP.iconst rfl ?_
                        refine WP.laload rfl ⟨by decide, by decide, by decide⟩ (by decide) ?_
                        refine WP.iload_n rfl rfl ?_
                        refine WP.i2l rfl ?_
                        refine WP.laddE rfl o59 ?_
                        refine WP.lconst rfl ?_
                        refine WP.ldc2_w rfl ?_
                        refine WP.callF (c_X12_brought (((s_X12_other_12 a1 a2 a3 a4 h) 249 5) + a2) 0 10000 (s_X12_other_12 a1 a2 a3 a4 h)) rfl rfl (pm_cok rfl rfl (Or.inl rfl) rfl rfl) rfl rfl ?_
                        show WP 208 (197, [(14, 248), (0, a1), (0, a2), (0, a3), (0, a4), (1, s_X12_other_3 a1 a2 a3 a4 h), pU, (0, s_X12_other_11 a1 a2 a3 a4 h), us56.getD 0 pU], [(1, s_X12_brought_1 (((s_X12_other_12 a1 a2 a3 a4 h) 249 5) + a2) 0 10000), (0, 5), (3481, 249)], s_X12_other_12 a1 a2 a3 a4 h) Q'
                        refine WP.goto rfl ?_
                        have e := kk; simp only [s_X12_other_13, if_pos c58] at e ⊢; exact e
                    refine k57 _ ?_
                    refine WP.lastore rfl ⟨by decide, by decide, by decide⟩ (by decide) ?_
                    show WP 208 (203, [(14, 248), (0, a1), (0, a2), (0, a3), (0, a4), (1, s_X12_other_3 a1 a2 a3 a4 h), pU, (0, s_X12_other_11 a1 a2 a3 a4 h), us56.getD 0 pU], [], s_X12_other_14 a1 a2 a3 a4 h) Q
                    refine WP.iload_n rfl rfl ?_
                    refine WP.iconst rfl ?_
                    have k63 : ∀ Q' : Option pV → pH → Prop, (WP 208 (226, [(14, 248), (0, a1), (0, a2), (0, a3), (0, a4), (1, s_X12_other_3 a1 a2 a3 a4 h), pU, (0, s_X12_other_11 a1 a2 a3 a4 h), us56.getD 0 pU], [], s_X12_other_15 a1 a2 a3 a4 h) Q') → WP 208 (205, [(14, 248), (0, a1), (0, a2), (0, a3), (0, a4), (1, s_X12_other_3 a1 a2 a3 a4 h), pU, (0, s_X12_other_11 a1 a2 a3 a4 h), us56.getD 0 pU], [(0, 5), (0, a1)], s_X12_other_14 a1 a2 a3 a4 h) Q' := fun Q' kk => by
                      have o65 := q67
                      refine WP.ni_ne rfl (fun c64 => ?_) (fun c64 => ?_)
                      · exact absurd c3 (c64)
                      · refine WP.aload_n rfl rfl ⟨by decide, by decide⟩ ?_
                        refine WP.iload_n rfl rfl ?_
                        refine WP.i2l rfl ?_
                        refine WP.aload_n rfl rfl ⟨by decide, by decide⟩ ?_
                        refine WP.getRF (b := 249) rfl rfl rfl ?_
                        refine WP.bipush rfl ?_
                        refine WP.laload rfl ⟨by decide, by decide, by decide⟩ (by decide) ?_
                        refine WP.aload_n rfl rfl ⟨by decide, by decide⟩ ?_
                        refine WP.getRF (b := 249) rfl rfl rfl ?_
                        refine WP.bipush rfl ?_
                        refine WP.laload rfl ⟨by decide, by decide, by decide⟩ (by decide) ?_
                        refine WP.aload_n rfl rfl ⟨by decide, by decide⟩ ?_
                        refine WP.getRF (b := 249) rfl rfl rfl ?_
                        refine WP.bipush rfl ?_
                        refine WP.laload rfl ⟨by decide, by decide, by decide⟩ (by decide) ?_
                        refine WP.aload_n rfl rfl ⟨by decide, by decide⟩ ?_
                        refine WP.getRF (b := 249) rfl rfl rfl ?_
                        refine WP.bipush rfl ?_
                        refine WP.laload rfl ⟨by decide, by decide, by decide⟩ (by decide) ?_
                        refine WP.callF (c_X12_addMachine a2 ((s_X12_other_14 a1 a2 a3 a4 h) 249 94) ((s_X12_other_14 a1 a2 a3 a4 h) 249 104) ((s_X12_other_14 a1 a2 a3 a4 h) 249 114) ((s_X12_other_14 a1 a2 a3 a4 h) 249 124) (s_X12_other_14 a1 a2 a3 a4 h) o65) rfl rfl (pm_cok rfl rfl (Or.inr ⟨_, _, rfl⟩) rfl rfl) rfl rfl ?_
                        show WP 208 (226, [(14, 248), (0, a1), (0, a2), (0, a3), (0, a4), (1, s_X12_other_3 a1 a2 a3 a4 h), pU, (0, s_X12_other_11 a1 a2 a3 a4 h), us56.getD 0 pU], [], s_X12_other_15 a1 a2 a3 a4 h) Q'
                        exact kk
                    refine k63 _ ?_
                    refine WP.iconst rfl ?_
                    refine WP.istore (L' := [(14, 248), (0, a1), (0, a2), (0, a3), (0, a4), (1, s_X12_other_3 a1 a2 a3 a4 h), pU, (0, 0), us56.getD 0 pU]) rfl rfl ?_
                    refine lp_X12_other_228 a3 a4 (s_X12_other_3 a1 a2 a3 a4 h) 0 (s_X12_other_15 a1 a2 a3 a4 h) o72 (fun us73 => ?_) [(0, a1), (0, a2), us56.getD 0 pU]
                    show WP 208 (235, [(14, 248), us73.getD 0 pU, us73.getD 1 pU, (0, a3), (0, a4), (1, s_X12_other_3 a1 a2 a3 a4 h), pU, (0, s_X12_other_16 a1 a2 a3 a4 h), us73.getD 2 pU], [], s_X12_other_17 a1 a2 a3 a4 h) Q
                    refine WP.iload rfl rfl ?_
                    have k74 : ∀ Q' : Option pV → pH → Prop, (WP 208 (245, [(14, 248), us73.getD 0 pU, us73.getD 1 pU, (0, a3), (0, a4), (1, s_X12_other_3 a1 a2 a3 a4 h), pU, (0, s_X12_other_16 a1 a2 a3 a4 h), us73.getD 2 pU], [(1, s_X12_other_18 a1 a2 a3 a4 h)], s_X12_other_17 a1 a2 a3 a4 h) Q') → WP 208 (236, [(14, 248), us73.getD 0 pU, us73.getD 1 pU, (0, a3), (0, a4), (1, s_X12_other_3 a1 a2 a3 a4 h), pU, (0, s_X12_other_16 a1 a2 a3 a4 h), us73.getD 2 pU], [(0, a4)], s_X12_other_17 a1 a2 a3 a4 h) Q' := fun Q' kk => by
                      have q77 := q79
                      refine WP.nz_ne rfl (fun c75 => ?_) (fun c75 => ?_)
                      · refine WP.aload_n rfl rfl ⟨by decide, by decide⟩ ?_
                        refine WP.getRF (b := 249) rfl rfl rfl ?_
                        refine WP.bipush rfl ?_
                        refine WP.laload rfl ⟨by decide, by decide, by decide⟩ (by decide) ?_
                        have e := kk; simp only [s_X12_other_18, if_neg (c75)] at e ⊢; exact e
                      · have o76 := q77 c75
                        refine WP.aload_n rfl rfl ⟨by decide, by decide⟩ ?_
                        refine WP.callF (c_X12_broken (s_X12_other_17 a1 a2 a3 a4 h) o76) rfl rfl (pm_cok rfl rfl (Or.inr ⟨_, _, rfl⟩) rfl rfl) rfl rfl ?_
                        show WP 208 (239, [(14, 248), us73.getD 0 pU, us73.getD 1 pU, (0, a3), (0, a4), (1, s_X12_other_3 a1 a2 a3 a4 h), pU, (0, s_X12_other_16 a1 a2 a3 a4 h), us73.getD 2 pU], [(0, F_X12_broken (s_X12_other_17 a1 a2 a3 a4 h))], s_X12_other_17 a1 a2 a3 a4 h) Q'
                        refine WP.i2l rfl ?_
                        refine WP.goto rfl ?_
                        have e := kk; simp only [s_X12_other_18, if_pos c75] at e ⊢; exact e
                    refine k74 _ ?_
                    refine WP.lstore (L' := [(14, 248), us73.getD 0 pU, us73.getD 1 pU, (0, a3), (0, a4), (1, s_X12_other_3 a1 a2 a3 a4 h), pU, (1, s_X12_other_18 a1 a2 a3 a4 h), pU]) rfl rfl ?_
                    refine WP.aload_n rfl rfl ⟨by decide, by decide⟩ ?_
                    refine WP.getRF (b := 250) rfl rfl rfl ?_
                    refine WP.aload_n rfl rfl ⟨by decide, by decide⟩ ?_
                    refine WP.getRF (b := 249) rfl rfl rfl ?_
                    refine WP.callF (c_X12_copy 250 249 (s_X12_other_17 a1 a2 a3 a4 h) o80) rfl rfl (pm_cok rfl rfl (Or.inl rfl) rfl rfl) rfl rfl ?_
                    show WP 208 (251, [(14, 248), us73.getD 0 pU, us73.getD 1 pU, (0, a3), (0, a4), (1, s_X12_other_3 a1 a2 a3 a4 h), pU, (1, s_X12_other_18 a1 a2 a3 a4 h), pU], [], H_X12_copy 250 249 (s_X12_other_17 a1 a2 a3 a4 h)) Q
                    refine WP.lload rfl rfl ?_
                    refine WP.lload rfl rfl ?_
                    refine WP.lsub rfl ?_
                    refine WP.retl rfl ?_; have e := kk; simp only [F_X12_other, H_X12_other, if_pos c1, if_pos c2, if_pos c3, if_pos c4, if_pos c5, if_pos c6, if_neg (c8), if_neg (c9)] at e ⊢; exact e
                  · refine WP.ldc2_w rfl ?_
                    refine WP.retl rfl ?_; have e := kk; simp only [F_X12_other, H_X12_other, if_pos c1, if_pos c2, if_pos c3, if_pos c4, if_pos c5, if_pos c6, if_neg (c8), if_pos c9] at e ⊢; exact e
            · refine WP.ldc2_w rfl ?_
              refine WP.retl rfl ?_; have e := kk; simp only [F_X12_other, H_X12_other, if_pos c1, if_pos c2, if_pos c3, if_pos c4, if_pos c5, if_neg (c6)] at e ⊢; exact e
theorem c_X12_other (a1 : Int) (a2 : Int) (a3 : Int) (a4 : Int) (h : pH) (hp : P_X12_other a1 a2 a3 a4 h) : CP 208 [(14, 248), (0, a1), (0, a2), (0, a3), (0, a4)] h (fun r h1 => r = some (1, F_X12_other a1 a2 a3 a4 h) ∧ h1 = H_X12_other a1 a2 a3 a4 h) := w_X12_other a1 a2 a3 a4 h hp ⟨rfl, rfl⟩
noncomputable def s_X12_worst_1 (x4 : Int) (h : pH) : pH := pm_upd (pm_upd h 249 0 (h 271 x4)) 249 3 ((pm_upd h 249 0 (h 271 x4)) 272 x4)
def C_X12_worst_50 (a1 : Int) (x2 : Int) (x3 : Int) (x4 : Int) (y5 : Int) (x6 : Int) (h : pH) : Prop := x6 < h 273 x4
noncomputable def B_X12_worst_50 (a1 : Int) (x2 : Int) (x3 : Int) (x4 : Int) (y5 : Int) (x6 : Int) (h : pH) : Int × pH := (x6 + 1, H_X12_minute h)
noncomputable def P_X12_worst_50 (a1 : Int) (x2 : Int) (x3 : Int) (x4 : Int) (y5 : Int) (x6 : Int) (h : pH) : Prop := ((0 ≤ x4 ∧ x4 < 4)) ∧ ((x6 < h 273 x4) → (P_X12_minute h ∧ (fx_i (x6 + 1))))
noncomputable def L_X12_worst_50 (a1 : Int) (x2 : Int) (x3 : Int) (x4 : Int) (y5 : Int) (x6 : Int) (h : pH) : Int × pH := fx_wh (σ := Int × pH) (fun s => C_X12_worst_50 a1 x2 x3 x4 y5 s.1 s.2) (fun s => B_X12_worst_50 a1 x2 x3 x4 y5 s.1 s.2) (x6, h)
def O_X12_worst_50 (a1 : Int) (x2 : Int) (x3 : Int) (x4 : Int) (y5 : Int) (x6 : Int) (h : pH) : Prop := fx_ok (σ := Int × pH) (fun s => C_X12_worst_50 a1 x2 x3 x4 y5 s.1 s.2) (fun s => B_X12_worst_50 a1 x2 x3 x4 y5 s.1 s.2) (fun s => P_X12_worst_50 a1 x2 x3 x4 y5 s.1 s.2) (x6, h)
set_option maxHeartbeats 4000000 in
theorem lp_X12_worst_50 (a1 : Int) (x2 : Int) (x3 : Int) (x4 : Int) (y5 : Int) (x6 : Int) (h : pH) {Q : Option pV → pH → Prop} (hp : O_X12_worst_50 a1 x2 x3 x4 y5 x6 h) (kk : ∀ us : List pV, WP 213 (60, [(14, 248), (0, a1), (0, x2), (0, x3), (0, x4), (0, y5), (0, (L_X12_worst_50 a1 x2 x3 x4 y5 x6 h).1)], [], (L_X12_worst_50 a1 x2 x3 x4 y5 x6 h).2) Q) : ∀ us : List pV, WP 213 (50, [(14, 248), (0, a1), (0, x2), (0, x3), (0, x4), (0, y5), (0, x6)], [], h) Q := by
  refine WP.wh (σ := Int × pH) (fun s => C_X12_worst_50 a1 x2 x3 x4 y5 s.1 s.2) (fun s => B_X12_worst_50 a1 x2 x3 x4 y5 s.1 s.2) (fun s => P_X12_worst_50 a1 x2 x3 x4 y5 s.1 s.2) (fun s us => (50, [(14, 248), (0, a1), (0, x2), (0, x3), (0, x4), (0, y5), (0, s.1)], [], s.2)) (x6, h) hp ?_ ?_
  · intro s us hP hc kk
    obtain ⟨x6, h⟩ := s
    change P_X12_worst_50 a1 x2 x3 x4 y5 x6 h at hP
    change x6 < h 273 x4 at hc
    replace kk : ∀ (us' : List pV) (s' : Int × pH), s' = B_X12_worst_50 a1 x2 x3 x4 y5 x6 h → WP 213 (50, [(14, 248), (0, a1), (0, x2), (0, x3), (0, x4), (0, y5), (0, s'.1)], [], s'.2) Q := fun us' s' e => by subst e; exact kk us'
    unfold P_X12_worst_50 at hP
    obtain ⟨hPc, hPb⟩ := hP
    have o9 := hPc
    obtain ⟨o12, o13⟩ := hPb hc
    show WP 213 (50, [(14, 248), (0, a1), (0, x2), (0, x3), (0, x4), (0, y5), (0, x6)], [], h) Q
    refine WP.iload rfl rfl ?_
    refine WP.aload_n rfl rfl ⟨by decide, by decide⟩ ?_
    refine WP.getRF (b := 273) rfl rfl rfl ?_
    refine WP.iload rfl rfl ?_
    refine WP.iaload rfl ⟨by decide, by decide, by decide⟩ o9 ?_
    refine WP.ni_ge rfl (fun c11 => ?_) (fun c11 => ?_)
    · exact absurd hc (Int.not_lt.mpr c11)
    · refine WP.aload_n rfl rfl ⟨by decide, by decide⟩ ?_
      refine WP.callF (c_X12_minute h o12) rfl rfl (pm_cok rfl rfl (Or.inr ⟨_, _, rfl⟩) rfl rfl) rfl rfl ?_
      show WP 213 (58, [(14, 248), (0, a1), (0, x2), (0, x3), (0, x4), (0, y5), (0, x6)], [], H_X12_minute h) Q
      refine WP.iincE (L' := [(14, 248), (0, a1), (0, x2), (0, x3), (0, x4), (0, y5), (0, x6 + 1)]) rfl rfl o13 rfl ?_
      refine WP.goto rfl ?_
      exact kk [] (x6 + 1, H_X12_minute h) (rfl)
  · intro hP hc
    generalize hs : (L_X12_worst_50 a1 x2 x3 x4 y5 x6 h : Int × pH) = s at kk
    change P_X12_worst_50 a1 x2 x3 x4 y5 (L_X12_worst_50 a1 x2 x3 x4 y5 x6 h).1 (L_X12_worst_50 a1 x2 x3 x4 y5 x6 h).2 at hP
    change ¬ C_X12_worst_50 a1 x2 x3 x4 y5 (L_X12_worst_50 a1 x2 x3 x4 y5 x6 h).1 (L_X12_worst_50 a1 x2 x3 x4 y5 x6 h).2 at hc
    intro us
    show WP 213 (50, [(14, 248), (0, a1), (0, x2), (0, x3), (0, x4), (0, y5), (0, (L_X12_worst_50 a1 x2 x3 x4 y5 x6 h).1)], [], (L_X12_worst_50 a1 x2 x3 x4 y5 x6 h).2) Q
    rw [hs] at hP hc ⊢
    obtain ⟨x6, h⟩ := s
    change P_X12_worst_50 a1 x2 x3 x4 y5 x6 h at hP
    change ¬ (x6 < h 273 x4) at hc
    unfold P_X12_worst_50 at hP
    have o9 := hP.1
    show WP 213 (50, [(14, 248), (0, a1), (0, x2), (0, x3), (0, x4), (0, y5), (0, x6)], [], h) Q
    refine WP.iload rfl rfl ?_
    refine WP.aload_n rfl rfl ⟨by decide, by decide⟩ ?_
    refine WP.getRF (b := 273) rfl rfl rfl ?_
    refine WP.iload rfl rfl ?_
    refine WP.iaload rfl ⟨by decide, by decide, by decide⟩ o9 ?_
    refine WP.ni_ge rfl (fun c10 => ?_) (fun c10 => ?_)
    · exact kk []
    · exact absurd (show x6 < h 273 x4 from c10) hc
noncomputable def s_X12_worst_2 (a1 : Int) (x2 : Int) (x3 : Int) (x4 : Int) (h : pH) : Int := (L_X12_worst_50 a1 x2 x3 x4 (F_X12_broken h) 0 (s_X12_worst_1 x4 h)).1
noncomputable def s_X12_worst_3 (a1 : Int) (x2 : Int) (x3 : Int) (x4 : Int) (h : pH) : pH := (L_X12_worst_50 a1 x2 x3 x4 (F_X12_broken h) 0 (s_X12_worst_1 x4 h)).2
noncomputable def s_X12_worst_4 (a1 : Int) (x2 : Int) (x3 : Int) (x4 : Int) (h : pH) : pH := pm_upd (s_X12_worst_3 a1 x2 x3 x4 h) 249 0 ((s_X12_worst_3 a1 x2 x3 x4 h) 250 0)
noncomputable def s_X12_worst_5 (a1 : Int) (x2 : Int) (x3 : Int) (x4 : Int) (h : pH) : pH := pm_upd (s_X12_worst_4 a1 x2 x3 x4 h) 249 3 ((s_X12_worst_4 a1 x2 x3 x4 h) 250 3)
def C_X12_worst_78 (a1 : Int) (x2 : Int) (x3 : Int) (x4 : Int) (y5 : Int) (x6 : Int) (h : pH) : Prop := x6 < 5
noncomputable def B_X12_worst_78 (a1 : Int) (x2 : Int) (x3 : Int) (x4 : Int) (y5 : Int) (x6 : Int) (h : pH) : Int × pH := (x6 + 1, H_X12_minute h)
noncomputable def P_X12_worst_78 (a1 : Int) (x2 : Int) (x3 : Int) (x4 : Int) (y5 : Int) (x6 : Int) (h : pH) : Prop := ((x6 < 5) → P_X12_minute h ∧ (fx_i (x6 + 1)))
noncomputable def L_X12_worst_78 (a1 : Int) (x2 : Int) (x3 : Int) (x4 : Int) (y5 : Int) (x6 : Int) (h : pH) : Int × pH := fx_wh (σ := Int × pH) (fun s => C_X12_worst_78 a1 x2 x3 x4 y5 s.1 s.2) (fun s => B_X12_worst_78 a1 x2 x3 x4 y5 s.1 s.2) (x6, h)
def O_X12_worst_78 (a1 : Int) (x2 : Int) (x3 : Int) (x4 : Int) (y5 : Int) (x6 : Int) (h : pH) : Prop := fx_ok (σ := Int × pH) (fun s => C_X12_worst_78 a1 x2 x3 x4 y5 s.1 s.2) (fun s => B_X12_worst_78 a1 x2 x3 x4 y5 s.1 s.2) (fun s => P_X12_worst_78 a1 x2 x3 x4 y5 s.1 s.2) (x6, h)
set_option maxHeartbeats 4000000 in
theorem lp_X12_worst_78 (a1 : Int) (x2 : Int) (x3 : Int) (x4 : Int) (y5 : Int) (x6 : Int) (h : pH) {Q : Option pV → pH → Prop} (hp : O_X12_worst_78 a1 x2 x3 x4 y5 x6 h) (kk : ∀ us : List pV, WP 213 (85, [(14, 248), (0, a1), (0, x2), (0, x3), (0, x4), (0, y5), (0, (L_X12_worst_78 a1 x2 x3 x4 y5 x6 h).1)], [], (L_X12_worst_78 a1 x2 x3 x4 y5 x6 h).2) Q) : ∀ us : List pV, WP 213 (78, [(14, 248), (0, a1), (0, x2), (0, x3), (0, x4), (0, y5), (0, x6)], [], h) Q := by
  refine WP.wh (σ := Int × pH) (fun s => C_X12_worst_78 a1 x2 x3 x4 y5 s.1 s.2) (fun s => B_X12_worst_78 a1 x2 x3 x4 y5 s.1 s.2) (fun s => P_X12_worst_78 a1 x2 x3 x4 y5 s.1 s.2) (fun s us => (78, [(14, 248), (0, a1), (0, x2), (0, x3), (0, x4), (0, y5), (0, s.1)], [], s.2)) (x6, h) hp ?_ ?_
  · intro s us hP hc kk
    obtain ⟨x6, h⟩ := s
    change P_X12_worst_78 a1 x2 x3 x4 y5 x6 h at hP
    change x6 < 5 at hc
    replace kk : ∀ (us' : List pV) (s' : Int × pH), s' = B_X12_worst_78 a1 x2 x3 x4 y5 x6 h → WP 213 (78, [(14, 248), (0, a1), (0, x2), (0, x3), (0, x4), (0, y5), (0, s'.1)], [], s'.2) Q := fun us' s' e => by subst e; exact kk us'
    unfold P_X12_worst_78 at hP
    obtain ⟨o18, o19⟩ := hP hc
    show WP 213 (78, [(14, 248), (0, a1), (0, x2), (0, x3), (0, x4), (0, y5), (0, x6)], [], h) Q
    refine WP.iload rfl rfl ?_
    refine WP.iconst rfl ?_
    refine WP.ni_ge rfl (fun c17 => ?_) (fun c17 => ?_)
    · exact absurd hc (Int.not_lt.mpr c17)
    · refine WP.aload_n rfl rfl ⟨by decide, by decide⟩ ?_
      refine WP.callF (c_X12_minute h o18) rfl rfl (pm_cok rfl rfl (Or.inr ⟨_, _, rfl⟩) rfl rfl) rfl rfl ?_
      show WP 213 (83, [(14, 248), (0, a1), (0, x2), (0, x3), (0, x4), (0, y5), (0, x6)], [], H_X12_minute h) Q
      refine WP.iincE (L' := [(14, 248), (0, a1), (0, x2), (0, x3), (0, x4), (0, y5), (0, x6 + 1)]) rfl rfl o19 rfl ?_
      refine WP.goto rfl ?_
      exact kk [] (x6 + 1, H_X12_minute h) (rfl)
  · intro hP hc
    generalize hs : (L_X12_worst_78 a1 x2 x3 x4 y5 x6 h : Int × pH) = s at kk
    change P_X12_worst_78 a1 x2 x3 x4 y5 (L_X12_worst_78 a1 x2 x3 x4 y5 x6 h).1 (L_X12_worst_78 a1 x2 x3 x4 y5 x6 h).2 at hP
    change ¬ C_X12_worst_78 a1 x2 x3 x4 y5 (L_X12_worst_78 a1 x2 x3 x4 y5 x6 h).1 (L_X12_worst_78 a1 x2 x3 x4 y5 x6 h).2 at hc
    intro us
    show WP 213 (78, [(14, 248), (0, a1), (0, x2), (0, x3), (0, x4), (0, y5), (0, (L_X12_worst_78 a1 x2 x3 x4 y5 x6 h).1)], [], (L_X12_worst_78 a1 x2 x3 x4 y5 x6 h).2) Q
    rw [hs] at hP hc ⊢
    obtain ⟨x6, h⟩ := s
    change P_X12_worst_78 a1 x2 x3 x4 y5 x6 h at hP
    change ¬ (x6 < 5) at hc
    unfold P_X12_worst_78 at hP
    show WP 213 (78, [(14, 248), (0, a1), (0, x2), (0, x3), (0, x4), (0, y5), (0, x6)], [], h) Q
    refine WP.iload rfl rfl ?_
    refine WP.iconst rfl ?_
    refine WP.ni_ge rfl (fun c16 => ?_) (fun c16 => ?_)
    · exact kk []
    · exact absurd (show x6 < 5 from c16) hc
noncomputable def s_X12_worst_6 (a1 : Int) (x2 : Int) (x3 : Int) (x4 : Int) (h : pH) : Int := (L_X12_worst_78 a1 x2 x3 x4 (F_X12_broken h) 0 (s_X12_worst_5 a1 x2 x3 x4 h)).1
noncomputable def s_X12_worst_7 (a1 : Int) (x2 : Int) (x3 : Int) (x4 : Int) (h : pH) : pH := (L_X12_worst_78 a1 x2 x3 x4 (F_X12_broken h) 0 (s_X12_worst_5 a1 x2 x3 x4 h)).2
noncomputable def s_X12_worst_8 (a1 : Int) (x2 : Int) (x3 : Int) (x4 : Int) (h : pH) : Int := if (F_X12_broken (s_X12_worst_7 a1 x2 x3 x4 h)) - (F_X12_broken h) ≤ x3 then x2 else x4
noncomputable def s_X12_worst_9 (a1 : Int) (x2 : Int) (x3 : Int) (x4 : Int) (h : pH) : Int := if (F_X12_broken (s_X12_worst_7 a1 x2 x3 x4 h)) - (F_X12_broken h) ≤ x3 then x3 else (F_X12_broken (s_X12_worst_7 a1 x2 x3 x4 h)) - (F_X12_broken h)
noncomputable def s_X12_worst_10 (a1 : Int) (x2 : Int) (x3 : Int) (x4 : Int) (h : pH) : pH := if h 270 x4 = 0 then h else H_X12_copy 250 249 (s_X12_worst_7 a1 x2 x3 x4 h)
noncomputable def s_X12_worst_11 (a1 : Int) (x2 : Int) (x3 : Int) (x4 : Int) (h : pH) : Int := if h 270 x4 = 0 then x2 else s_X12_worst_8 a1 x2 x3 x4 h
noncomputable def s_X12_worst_12 (a1 : Int) (x2 : Int) (x3 : Int) (x4 : Int) (h : pH) : Int := if h 270 x4 = 0 then x3 else s_X12_worst_9 a1 x2 x3 x4 h
def C_X12_worst_19 (a1 : Int) (x2 : Int) (x3 : Int) (x4 : Int) (h : pH) : Prop := x4 < 4
noncomputable def B_X12_worst_19 (a1 : Int) (x2 : Int) (x3 : Int) (x4 : Int) (h : pH) : Int × Int × Int × pH := (s_X12_worst_11 a1 x2 x3 x4 h, s_X12_worst_12 a1 x2 x3 x4 h, x4 + 1, s_X12_worst_10 a1 x2 x3 x4 h)
noncomputable def P_X12_worst_19 (a1 : Int) (x2 : Int) (x3 : Int) (x4 : Int) (h : pH) : Prop := ((x4 < 4) → (0 ≤ x4 ∧ x4 < 4) ∧ (((¬ h 270 x4 = 0) → (P_X12_broken h ∧ (O_X12_worst_50 a1 x2 x3 x4 (F_X12_broken h) 0 (s_X12_worst_1 x4 h)) ∧ (O_X12_worst_78 a1 x2 x3 x4 (F_X12_broken h) 0 (s_X12_worst_5 a1 x2 x3 x4 h)) ∧ (P_X12_broken (s_X12_worst_7 a1 x2 x3 x4 h)) ∧ (fx_i ((F_X12_broken (s_X12_worst_7 a1 x2 x3 x4 h)) - (F_X12_broken h))) ∧ (P_X12_copy 250 249 (s_X12_worst_7 a1 x2 x3 x4 h))))) ∧ (fx_i (x4 + 1)))
noncomputable def L_X12_worst_19 (a1 : Int) (x2 : Int) (x3 : Int) (x4 : Int) (h : pH) : Int × Int × Int × pH := fx_wh (σ := Int × Int × Int × pH) (fun s => C_X12_worst_19 a1 s.1 s.2.1 s.2.2.1 s.2.2.2) (fun s => B_X12_worst_19 a1 s.1 s.2.1 s.2.2.1 s.2.2.2) (x2, x3, x4, h)
def O_X12_worst_19 (a1 : Int) (x2 : Int) (x3 : Int) (x4 : Int) (h : pH) : Prop := fx_ok (σ := Int × Int × Int × pH) (fun s => C_X12_worst_19 a1 s.1 s.2.1 s.2.2.1 s.2.2.2) (fun s => B_X12_worst_19 a1 s.1 s.2.1 s.2.2.1 s.2.2.2) (fun s => P_X12_worst_19 a1 s.1 s.2.1 s.2.2.1 s.2.2.2) (x2, x3, x4, h)
set_option maxHeartbeats 4000000 in
theorem lp_X12_worst_19 (a1 : Int) (x2 : Int) (x3 : Int) (x4 : Int) (h : pH) {Q : Option pV → pH → Prop} (hp : O_X12_worst_19 a1 x2 x3 x4 h) (kk : ∀ us : List pV, WP 213 (111, [(14, 248), (0, a1), (0, (L_X12_worst_19 a1 x2 x3 x4 h).1), (0, (L_X12_worst_19 a1 x2 x3 x4 h).2.1), (0, (L_X12_worst_19 a1 x2 x3 x4 h).2.2.1), us.getD 0 pU, us.getD 1 pU], [], (L_X12_worst_19 a1 x2 x3 x4 h).2.2.2) Q) : ∀ us : List pV, WP 213 (19, [(14, 248), (0, a1), (0, x2), (0, x3), (0, x4), us.getD 0 pU, us.getD 1 pU], [], h) Q := by
  refine WP.wh (σ := Int × Int × Int × pH) (fun s => C_X12_worst_19 a1 s.1 s.2.1 s.2.2.1 s.2.2.2) (fun s => B_X12_worst_19 a1 s.1 s.2.1 s.2.2.1 s.2.2.2) (fun s => P_X12_worst_19 a1 s.1 s.2.1 s.2.2.1 s.2.2.2) (fun s us => (19, [(14, 248), (0, a1), (0, s.1), (0, s.2.1), (0, s.2.2.1), us.getD 0 pU, us.getD 1 pU], [], s.2.2.2)) (x2, x3, x4, h) hp ?_ ?_
  · intro s us hP hc kk
    obtain ⟨x2, x3, x4, h⟩ := s
    change P_X12_worst_19 a1 x2 x3 x4 h at hP
    change x4 < 4 at hc
    replace kk : ∀ (us' : List pV) (s' : Int × Int × Int × pH), s' = B_X12_worst_19 a1 x2 x3 x4 h → WP 213 (19, [(14, 248), (0, a1), (0, s'.1), (0, s'.2.1), (0, s'.2.2.1), us'.getD 0 pU, us'.getD 1 pU], [], s'.2.2.2) Q := fun us' s' e => by subst e; exact kk us'
    unfold P_X12_worst_19 at hP
    obtain ⟨o5, q33, o34⟩ := hP hc
    show WP 213 (19, [(14, 248), (0, a1), (0, x2), (0, x3), (0, x4), us.getD 0 pU, us.getD 1 pU], [], h) Q
    refine WP.iload rfl rfl ?_
    refine WP.iconst rfl ?_
    refine WP.ni_ge rfl (fun c4 => ?_) (fun c4 => ?_)
    · exact absurd hc (Int.not_lt.mpr c4)
    · refine WP.aload_n rfl rfl ⟨by decide, by decide⟩ ?_
      refine WP.getRF (b := 270) rfl rfl rfl ?_
      refine WP.iload rfl rfl ?_
      refine WP.baload rfl ⟨by decide, by decide, by decide⟩ o5 ?_
      have k6 : ∀ Q' : Option pV → pH → Prop, (∀ us32 : List pV, WP 213 (109, [(14, 248), (0, a1), (0, s_X12_worst_11 a1 x2 x3 x4 h), (0, s_X12_worst_12 a1 x2 x3 x4 h), (0, x4), us32.getD 0 pU, us32.getD 1 pU], [], s_X12_worst_10 a1 x2 x3 x4 h) Q') → WP 213 (26, [(14, 248), (0, a1), (0, x2), (0, x3), (0, x4), us.getD 0 pU, us.getD 1 pU], [(0, h 270 x4)], h) Q' := fun Q' kk => by
        have q31 := q33
        refine WP.nz_eq rfl (fun c7 => ?_) (fun c7 => ?_)
        · have e := kk [us.getD 0 pU, us.getD 1 pU]; simp only [s_X12_worst_11, s_X12_worst_12, s_X12_worst_10, if_pos c7] at e ⊢; exact e
        · obtain ⟨o8, o14, o20, o22, o23, o30⟩ := q31 c7
          refine WP.aload_n rfl rfl ⟨by decide, by decide⟩ ?_
          refine WP.callF (c_X12_broken h o8) rfl rfl (pm_cok rfl rfl (Or.inr ⟨_, _, rfl⟩) rfl rfl) rfl rfl ?_
          show WP 213 (29, [(14, 248), (0, a1), (0, x2), (0, x3), (0, x4), us.getD 0 pU, us.getD 1 pU], [(0, F_X12_broken h)], h) Q'
          refine WP.istore (L' := [(14, 248), (0, a1), (0, x2), (0, x3), (0, x4), (0, F_X12_broken h), us.getD 1 pU]) rfl rfl ?_
          refine WP.aload_n rfl rfl ⟨by decide, by decide⟩ ?_
          refine WP.getRF (b := 249) rfl rfl rfl ?_
          refine WP.iconst rfl ?_
          refine WP.aload_n rfl rfl ⟨by decide, by decide⟩ ?_
          refine WP.getRF (b := 271) rfl rfl rfl ?_
          refine WP.iload rfl rfl ?_
          refine WP.iaload rfl ⟨by decide, by decide, by decide⟩ o5 ?_
          refine WP.i2l rfl ?_
          refine WP.lastore rfl ⟨by decide, by decide, by decide⟩ (by decide) ?_
          refine WP.aload_n rfl rfl ⟨by decide, by decide⟩ ?_
          refine WP.getRF (b := 249) rfl rfl rfl ?_
          refine WP.iconst rfl ?_
          refine WP.aload_n rfl rfl ⟨by decide, by decide⟩ ?_
          refine WP.getRF (b := 272) rfl rfl rfl ?_
          refine WP.iload rfl rfl ?_
          refine WP.iaload rfl ⟨by decide, by decide, by decide⟩ o5 ?_
          refine WP.i2l rfl ?_
          refine WP.lastore rfl ⟨by decide, by decide, by decide⟩ (by decide) ?_
          show WP 213 (48, [(14, 248), (0, a1), (0, x2), (0, x3), (0, x4), (0, F_X12_broken h), us.getD 1 pU], [], s_X12_worst_1 x4 h) Q'
          refine WP.iconst rfl ?_
          refine WP.istore (L' := [(14, 248), (0, a1), (0, x2), (0, x3), (0, x4), (0, F_X12_broken h), (0, 0)]) rfl rfl ?_
          refine lp_X12_worst_50 a1 x2 x3 x4 (F_X12_broken h) 0 (s_X12_worst_1 x4 h) o14 (fun us15 => ?_) []
          show WP 213 (60, [(14, 248), (0, a1), (0, x2), (0, x3), (0, x4), (0, F_X12_broken h), (0, s_X12_worst_2 a1 x2 x3 x4 h)], [], s_X12_worst_3 a1 x2 x3 x4 h) Q'
          refine WP.aload_n rfl rfl ⟨by decide, by decide⟩ ?_
          refine WP.getRF (b := 249) rfl rfl rfl ?_
          refine WP.iconst rfl ?_
          refine WP.aload_n rfl rfl ⟨by decide, by decide⟩ ?_
          refine WP.getRF (b := 250) rfl rfl rfl ?_
          refine WP.iconst rfl ?_
          refine WP.laload rfl ⟨by decide, by decide, by decide⟩ (by decide) ?_
          refine WP.lastore rfl ⟨by decide, by decide, by decide⟩ (by decide) ?_
          show WP 213 (68, [(14, 248), (0, a1), (0, x2), (0, x3), (0, x4), (0, F_X12_broken h), (0, s_X12_worst_2 a1 x2 x3 x4 h)], [], s_X12_worst_4 a1 x2 x3 x4 h) Q'
          refine WP.aload_n rfl rfl ⟨by decide, by decide⟩ ?_
          refine WP.getRF (b := 249) rfl rfl rfl ?_
          refine WP.iconst rfl ?_
          refine WP.aload_n rfl rfl ⟨by decide, by decide⟩ ?_
          refine WP.getRF (b := 250) rfl rfl rfl ?_
          refine WP.iconst rfl ?_
          refine WP.laload rfl ⟨by decide, by decide, by decide⟩ (by decide) ?_
          refine WP.lastore rfl ⟨by decide, by decide, by decide⟩ (by decide) ?_
          show WP 213 (76, [(14, 248), (0, a1), (0, x2), (0, x3), (0, x4), (0, F_X12_broken h), (0, s_X12_worst_2 a1 x2 x3 x4 h)], [], s_X12_worst_5 a1 x2 x3 x4 h) Q'
          refine WP.iconst rfl ?_
          refine WP.istore (L' := [(14, 248), (0, a1), (0, x2), (0, x3), (0, x4), (0, F_X12_broken h), (0, 0)]) rfl rfl ?_
          refine lp_X12_worst_78 a1 x2 x3 x4 (F_X12_broken h) 0 (s_X12_worst_5 a1 x2 x3 x4 h) o20 (fun us21 => ?_) []
          show WP 213 (85, [(14, 248), (0, a1), (0, x2), (0, x3), (0, x4), (0, F_X12_broken h), (0, s_X12_worst_6 a1 x2 x3 x4 h)], [], s_X12_worst_7 a1 x2 x3 x4 h) Q'
          refine WP.aload_n rfl rfl ⟨by decide, by decide⟩ ?_
          refine WP.callF (c_X12_broken (s_X12_worst_7 a1 x2 x3 x4 h) o22) rfl rfl (pm_cok rfl rfl (Or.inr ⟨_, _, rfl⟩) rfl rfl) rfl rfl ?_
          show WP 213 (87, [(14, 248), (0, a1), (0, x2), (0, x3), (0, x4), (0, F_X12_broken h), (0, s_X12_worst_6 a1 x2 x3 x4 h)], [(0, F_X12_broken (s_X12_worst_7 a1 x2 x3 x4 h))], s_X12_worst_7 a1 x2 x3 x4 h) Q'
          refine WP.iload rfl rfl ?_
          refine WP.isubE rfl o23 ?_
          refine WP.istore (L' := [(14, 248), (0, a1), (0, x2), (0, x3), (0, x4), (0, F_X12_broken h), (0, (F_X12_broken (s_X12_worst_7 a1 x2 x3 x4 h)) - (F_X12_broken h))]) rfl rfl ?_
          refine WP.iload rfl rfl ?_
          refine WP.iload_n rfl rfl ?_
          have k24 : ∀ Q' : Option pV → pH → Prop, (WP 213 (96, [(14, 248), (0, a1), (0, x2), (0, x3), (0, x4), (0, F_X12_broken h), (0, (F_X12_broken (s_X12_worst_7 a1 x2 x3 x4 h)) - (F_X12_broken h))], [(0, s_X12_worst_8 a1 x2 x3 x4 h)], s_X12_worst_7 a1 x2 x3 x4 h) Q') → WP 213 (92, [(14, 248), (0, a1), (0, x2), (0, x3), (0, x4), (0, F_X12_broken h), (0, (F_X12_broken (s_X12_worst_7 a1 x2 x3 x4 h)) - (F_X12_broken h))], [(0, x3), (0, (F_X12_broken (s_X12_worst_7 a1 x2 x3 x4 h)) - (F_X12_broken h))], s_X12_worst_7 a1 x2 x3 x4 h) Q' := fun Q' kk => by
            refine WP.ni_le rfl (fun c25 => ?_) (fun c25 => ?_)
            · refine WP.iload_n rfl rfl ?_
              have e := kk; simp only [s_X12_worst_8, if_pos c25] at e ⊢; exact e
            · refine WP.iload rfl rfl ?_
              refine WP.goto rfl ?_
              have e := kk; simp only [s_X12_worst_8, if_neg (Int.not_le.mpr c25)] at e ⊢; exact e
          refine k24 _ ?_
          refine WP.istore_n (L' := [(14, 248), (0, a1), (0, s_X12_worst_8 a1 x2 x3 x4 h), (0, x3), (0, x4), (0, F_X12_broken h), (0, (F_X12_broken (s_X12_worst_7 a1 x2 x3 x4 h)) - (F_X12_broken h))]) rfl rfl ?_
          refine WP.iload rfl rfl ?_
          refine WP.iload_n rfl rfl ?_
          have k27 : ∀ Q' : Option pV → pH → Prop, (WP 213 (103, [(14, 248), (0, a1), (0, s_X12_worst_8 a1 x2 x3 x4 h), (0, x3), (0, x4), (0, F_X12_broken h), (0, (F_X12_broken (s_X12_worst_7 a1 x2 x3 x4 h)) - (F_X12_broken h))], [(0, s_X12_worst_9 a1 x2 x3 x4 h)], s_X12_worst_7 a1 x2 x3 x4 h) Q') → WP 213 (99, [(14, 248), (0, a1), (0, s_X12_worst_8 a1 x2 x3 x4 h), (0, x3), (0, x4), (0, F_X12_broken h), (0, (F_X12_broken (s_X12_worst_7 a1 x2 x3 x4 h)) - (F_X12_broken h))], [(0, x3), (0, (F_X12_broken (s_X12_worst_7 a1 x2 x3 x4 h)) - (F_X12_broken h))], s_X12_worst_7 a1 x2 x3 x4 h) Q' := fun Q' kk => by
            refine WP.ni_le rfl (fun c28 => ?_) (fun c28 => ?_)
            · refine WP.iload_n rfl rfl ?_
              have e := kk; simp only [s_X12_worst_9, if_pos c28] at e ⊢; exact e
            · refine WP.iload rfl rfl ?_
              refine WP.goto rfl ?_
              have e := kk; simp only [s_X12_worst_9, if_neg (Int.not_le.mpr c28)] at e ⊢; exact e
          refine k27 _ ?_
          refine WP.istore_n (L' := [(14, 248), (0, a1), (0, s_X12_worst_8 a1 x2 x3 x4 h), (0, s_X12_worst_9 a1 x2 x3 x4 h), (0, x4), (0, F_X12_broken h), (0, (F_X12_broken (s_X12_worst_7 a1 x2 x3 x4 h)) - (F_X12_broken h))]) rfl rfl ?_
          refine WP.aload_n rfl rfl ⟨by decide, by decide⟩ ?_
          refine WP.getRF (b := 250) rfl rfl rfl ?_
          refine WP.aload_n rfl rfl ⟨by decide, by decide⟩ ?_
          refine WP.getRF (b := 249) rfl rfl rfl ?_
          refine WP.callF (c_X12_copy 250 249 (s_X12_worst_7 a1 x2 x3 x4 h) o30) rfl rfl (pm_cok rfl rfl (Or.inl rfl) rfl rfl) rfl rfl ?_
          show WP 213 (109, [(14, 248), (0, a1), (0, s_X12_worst_8 a1 x2 x3 x4 h), (0, s_X12_worst_9 a1 x2 x3 x4 h), (0, x4), (0, F_X12_broken h), (0, (F_X12_broken (s_X12_worst_7 a1 x2 x3 x4 h)) - (F_X12_broken h))], [], H_X12_copy 250 249 (s_X12_worst_7 a1 x2 x3 x4 h)) Q'
          have e := kk [(0, F_X12_broken h), (0, (F_X12_broken (s_X12_worst_7 a1 x2 x3 x4 h)) - (F_X12_broken h))]; simp only [s_X12_worst_11, s_X12_worst_12, s_X12_worst_10, if_neg (c7)] at e ⊢; exact e
      refine k6 _ (fun us32 => ?_)
      refine WP.iincE (L' := [(14, 248), (0, a1), (0, s_X12_worst_11 a1 x2 x3 x4 h), (0, s_X12_worst_12 a1 x2 x3 x4 h), (0, x4 + 1), us32.getD 0 pU, us32.getD 1 pU]) rfl rfl o34 rfl ?_
      refine WP.goto rfl ?_
      exact kk [us32.getD 0 pU, us32.getD 1 pU] (s_X12_worst_11 a1 x2 x3 x4 h, s_X12_worst_12 a1 x2 x3 x4 h, x4 + 1, s_X12_worst_10 a1 x2 x3 x4 h) (rfl)
  · intro hP hc
    generalize hs : (L_X12_worst_19 a1 x2 x3 x4 h : Int × Int × Int × pH) = s at kk
    change P_X12_worst_19 a1 (L_X12_worst_19 a1 x2 x3 x4 h).1 (L_X12_worst_19 a1 x2 x3 x4 h).2.1 (L_X12_worst_19 a1 x2 x3 x4 h).2.2.1 (L_X12_worst_19 a1 x2 x3 x4 h).2.2.2 at hP
    change ¬ C_X12_worst_19 a1 (L_X12_worst_19 a1 x2 x3 x4 h).1 (L_X12_worst_19 a1 x2 x3 x4 h).2.1 (L_X12_worst_19 a1 x2 x3 x4 h).2.2.1 (L_X12_worst_19 a1 x2 x3 x4 h).2.2.2 at hc
    intro us
    show WP 213 (19, [(14, 248), (0, a1), (0, (L_X12_worst_19 a1 x2 x3 x4 h).1), (0, (L_X12_worst_19 a1 x2 x3 x4 h).2.1), (0, (L_X12_worst_19 a1 x2 x3 x4 h).2.2.1), us.getD 0 pU, us.getD 1 pU], [], (L_X12_worst_19 a1 x2 x3 x4 h).2.2.2) Q
    rw [hs] at hP hc ⊢
    obtain ⟨x2, x3, x4, h⟩ := s
    change P_X12_worst_19 a1 x2 x3 x4 h at hP
    change ¬ (x4 < 4) at hc
    unfold P_X12_worst_19 at hP
    show WP 213 (19, [(14, 248), (0, a1), (0, x2), (0, x3), (0, x4), us.getD 0 pU, us.getD 1 pU], [], h) Q
    refine WP.iload rfl rfl ?_
    refine WP.iconst rfl ?_
    refine WP.ni_ge rfl (fun c3 => ?_) (fun c3 => ?_)
    · exact kk [us.getD 0 pU, us.getD 1 pU]
    · exact absurd (show x4 < 4 from c3) hc
noncomputable def s_X12_worst_13 (a1 : Int) (h : pH) : Int := (L_X12_worst_19 a1 (-1) (-1) 0 (H_X12_copy 249 250 h)).1
noncomputable def s_X12_worst_14 (a1 : Int) (h : pH) : Int := (L_X12_worst_19 a1 (-1) (-1) 0 (H_X12_copy 249 250 h)).2.1
noncomputable def s_X12_worst_15 (a1 : Int) (h : pH) : Int := (L_X12_worst_19 a1 (-1) (-1) 0 (H_X12_copy 249 250 h)).2.2.1
noncomputable def s_X12_worst_16 (a1 : Int) (h : pH) : pH := (L_X12_worst_19 a1 (-1) (-1) 0 (H_X12_copy 249 250 h)).2.2.2
noncomputable def s_X12_worst_17 (a1 : Int) (h : pH) : Int := if a1 = 0 then s_X12_worst_13 a1 h else s_X12_worst_14 a1 h
noncomputable def F_X12_worst (a1 : Int) (h : pH) : Int := if 0 ≤ a1 ∧ a1 ≤ 1 then s_X12_worst_17 a1 h else (-2)
noncomputable def H_X12_worst (a1 : Int) (h : pH) : pH := if 0 ≤ a1 ∧ a1 ≤ 1 then s_X12_worst_16 a1 h else h
noncomputable def P_X12_worst (a1 : Int) (h : pH) : Prop := ((0 ≤ a1 ∧ a1 ≤ 1) → (P_X12_copy 249 250 h ∧ (O_X12_worst_19 a1 (-1) (-1) 0 (H_X12_copy 249 250 h))))
set_option maxHeartbeats 4000000 in
theorem w_X12_worst (a1 : Int) (h : pH) {Q : Option pV → pH → Prop} (hp : P_X12_worst a1 h) (kk : Q (some (0, F_X12_worst a1 h)) (H_X12_worst a1 h)) : WP 213 (0, [(14, 248), (0, a1), pU, pU, pU, pU, pU], [], h) Q := by
  unfold P_X12_worst at hp
  have q40 := hp
  refine WP.iload_n rfl rfl ?_
  refine WP.i2l rfl ?_
  refine WP.lconst rfl ?_
  refine WP.lconst rfl ?_
  refine WP.callF (c_X12_in a1 0 1 h) rfl rfl (pm_cok rfl rfl (Or.inl rfl) rfl rfl) rfl rfl ?_
  show WP 213 (5, [(14, 248), (0, a1), pU, pU, pU, pU, pU], [(0, if 0 ≤ a1 ∧ a1 ≤ 1 then 1 else 0)], h) Q
  refine WP.nb_ne rfl (fun c1 => ?_) (fun c1 => ?_)
  · obtain ⟨o2, o35⟩ := q40 c1
    refine WP.iconst rfl ?_
    refine WP.istore_n (L' := [(14, 248), (0, a1), (0, (-1)), pU, pU, pU, pU]) rfl rfl ?_
    refine WP.iconst rfl ?_
    refine WP.istore_n (L' := [(14, 248), (0, a1), (0, (-1)), (0, (-1)), pU, pU, pU]) rfl rfl ?_
    refine WP.aload_n rfl rfl ⟨by decide, by decide⟩ ?_
    refine WP.getRF (b := 249) rfl rfl rfl ?_
    refine WP.aload_n rfl rfl ⟨by decide, by decide⟩ ?_
    refine WP.getRF (b := 250) rfl rfl rfl ?_
    refine WP.callF (c_X12_copy 249 250 h o2) rfl rfl (pm_cok rfl rfl (Or.inl rfl) rfl rfl) rfl rfl ?_
    show WP 213 (17, [(14, 248), (0, a1), (0, (-1)), (0, (-1)), pU, pU, pU], [], H_X12_copy 249 250 h) Q
    refine WP.iconst rfl ?_
    refine WP.istore (L' := [(14, 248), (0, a1), (0, (-1)), (0, (-1)), (0, 0), pU, pU]) rfl rfl ?_
    refine lp_X12_worst_19 a1 (-1) (-1) 0 (H_X12_copy 249 250 h) o35 (fun us36 => ?_) [pU, pU]
    show WP 213 (111, [(14, 248), (0, a1), (0, s_X12_worst_13 a1 h), (0, s_X12_worst_14 a1 h), (0, s_X12_worst_15 a1 h), us36.getD 0 pU, us36.getD 1 pU], [], s_X12_worst_16 a1 h) Q
    refine WP.iload_n rfl rfl ?_
    have k37 : ∀ Q' : Option pV → pH → Prop, (WP 213 (116, [(14, 248), (0, a1), (0, s_X12_worst_13 a1 h), (0, s_X12_worst_14 a1 h), (0, s_X12_worst_15 a1 h), us36.getD 0 pU, us36.getD 1 pU], [(0, s_X12_worst_17 a1 h)], s_X12_worst_16 a1 h) Q') → WP 213 (112, [(14, 248), (0, a1), (0, s_X12_worst_13 a1 h), (0, s_X12_worst_14 a1 h), (0, s_X12_worst_15 a1 h), us36.getD 0 pU, us36.getD 1 pU], [(0, a1)], s_X12_worst_16 a1 h) Q' := fun Q' kk => by
      refine WP.nz_ne rfl (fun c38 => ?_) (fun c38 => ?_)
      · refine WP.iload_n rfl rfl ?_
        have e := kk; simp only [s_X12_worst_17, if_neg (c38)] at e ⊢; exact e
      · refine WP.iload_n rfl rfl ?_
        refine WP.goto rfl ?_
        have e := kk; simp only [s_X12_worst_17, if_pos c38] at e ⊢; exact e
    refine k37 _ ?_
    refine WP.reti rfl ?_; have e := kk; simp only [F_X12_worst, H_X12_worst, if_pos c1] at e ⊢; exact e
  · refine WP.bipush rfl ?_
    refine WP.reti rfl ?_; have e := kk; simp only [F_X12_worst, H_X12_worst, if_neg (c1)] at e ⊢; exact e
theorem c_X12_worst (a1 : Int) (h : pH) (hp : P_X12_worst a1 h) : CP 213 [(14, 248), (0, a1)] h (fun r h1 => r = some (0, F_X12_worst a1 h) ∧ h1 = H_X12_worst a1 h) := w_X12_worst a1 h hp ⟨rfl, rfl⟩
noncomputable def s_X12_check_1 (h : pH) : pH := if (H_X12_copy 249 250 h) 248 21 = 0 then H_X12_copy 249 250 h else H_X12_copy 253 249 (H_X12_copy 249 250 h)
noncomputable def s_X12_check_2 (x2 : Int) (h : pH) : Int := if F_X12_allHeat (H_X12_minute h) = (H_X12_minute h) 264 x2 then (-1) else x2
def C_X12_check_17 (x1 : Int) (x2 : Int) (h : pH) : Prop := x2 < h 248 20 ∧ x1 = (-1)
noncomputable def B_X12_check_17 (x1 : Int) (x2 : Int) (h : pH) : Int × Int × pH := (s_X12_check_2 x2 h, x2 + 1, H_X12_minute h)
noncomputable def P_X12_check_17 (x1 : Int) (x2 : Int) (h : pH) : Prop := ((x2 < h 248 20 ∧ x1 = (-1)) → P_X12_minute h ∧ (P_X12_allHeat (H_X12_minute h)) ∧ (0 ≤ x2 ∧ x2 < 40) ∧ (fx_i (x2 + 1)))
noncomputable def L_X12_check_17 (x1 : Int) (x2 : Int) (h : pH) : Int × Int × pH := fx_wh (σ := Int × Int × pH) (fun s => C_X12_check_17 s.1 s.2.1 s.2.2) (fun s => B_X12_check_17 s.1 s.2.1 s.2.2) (x1, x2, h)
def O_X12_check_17 (x1 : Int) (x2 : Int) (h : pH) : Prop := fx_ok (σ := Int × Int × pH) (fun s => C_X12_check_17 s.1 s.2.1 s.2.2) (fun s => B_X12_check_17 s.1 s.2.1 s.2.2) (fun s => P_X12_check_17 s.1 s.2.1 s.2.2) (x1, x2, h)
set_option maxHeartbeats 4000000 in
theorem lp_X12_check_17 (x1 : Int) (x2 : Int) (h : pH) {Q : Option pV → pH → Prop} (hp : O_X12_check_17 x1 x2 h) (kk : ∀ us : List pV, WP 218 (40, [(14, 248), (0, (L_X12_check_17 x1 x2 h).1), (0, (L_X12_check_17 x1 x2 h).2.1)], [], (L_X12_check_17 x1 x2 h).2.2) Q) : ∀ us : List pV, WP 218 (17, [(14, 248), (0, x1), (0, x2)], [], h) Q := by
  refine WP.wh (σ := Int × Int × pH) (fun s => C_X12_check_17 s.1 s.2.1 s.2.2) (fun s => B_X12_check_17 s.1 s.2.1 s.2.2) (fun s => P_X12_check_17 s.1 s.2.1 s.2.2) (fun s us => (17, [(14, 248), (0, s.1), (0, s.2.1)], [], s.2.2)) (x1, x2, h) hp ?_ ?_
  · intro s us hP hc kk
    obtain ⟨x1, x2, h⟩ := s
    change P_X12_check_17 x1 x2 h at hP
    change x2 < h 248 20 ∧ x1 = (-1) at hc
    replace kk : ∀ (us' : List pV) (s' : Int × Int × pH), s' = B_X12_check_17 x1 x2 h → WP 218 (17, [(14, 248), (0, s'.1), (0, s'.2.1)], [], s'.2.2) Q := fun us' s' e => by subst e; exact kk us'
    unfold P_X12_check_17 at hP
    obtain ⟨o12, o13, o14, o18⟩ := hP hc
    show WP 218 (17, [(14, 248), (0, x1), (0, x2)], [], h) Q
    refine WP.iload_n rfl rfl ?_
    refine WP.aload_n rfl rfl ⟨by decide, by decide⟩ ?_
    refine WP.getI rfl rfl ?_
    refine WP.ni_ge rfl (fun c10 => ?_) (fun c10 => ?_)
    · exact absurd hc (fun q => (Int.not_lt.mpr c10) q.1)
    · refine WP.iload_n rfl rfl ?_
      refine WP.iconst rfl ?_
      refine WP.ni_ne rfl (fun c11 => ?_) (fun c11 => ?_)
      · exact absurd hc (fun q => (c11) q.2)
      · refine WP.aload_n rfl rfl ⟨by decide, by decide⟩ ?_
        refine WP.callF (c_X12_minute h o12) rfl rfl (pm_cok rfl rfl (Or.inr ⟨_, _, rfl⟩) rfl rfl) rfl rfl ?_
        show WP 218 (26, [(14, 248), (0, x1), (0, x2)], [], H_X12_minute h) Q
        refine WP.aload_n rfl rfl ⟨by decide, by decide⟩ ?_
        refine WP.callF (c_X12_allHeat (H_X12_minute h) o13) rfl rfl (pm_cok rfl rfl (Or.inr ⟨_, _, rfl⟩) rfl rfl) rfl rfl ?_
        show WP 218 (28, [(14, 248), (0, x1), (0, x2)], [(1, F_X12_allHeat (H_X12_minute h))], H_X12_minute h) Q
        refine WP.aload_n rfl rfl ⟨by decide, by decide⟩ ?_
        refine WP.getRF (b := 264) rfl rfl rfl ?_
        refine WP.iload_n rfl rfl ?_
        refine WP.laload rfl ⟨by decide, by decide, by decide⟩ o14 ?_
        refine WP.lcmp rfl ?_
        have k15 : ∀ Q' : Option pV → pH → Prop, (WP 218 (37, [(14, 248), (0, x1), (0, x2)], [(0, s_X12_check_2 x2 h)], H_X12_minute h) Q') → WP 218 (33, [(14, 248), (0, x1), (0, x2)], [(0, pm_lcmp (F_X12_allHeat (H_X12_minute h)) ((H_X12_minute h) 264 x2))], H_X12_minute h) Q' := fun Q' kk => by
          refine WP.nl_ne rfl (fun c16 => ?_) (fun c16 => ?_)
          · refine WP.iload_n rfl rfl ?_
            have e := kk; simp only [s_X12_check_2, if_neg (c16)] at e ⊢; exact e
          · refine WP.iconst rfl ?_
            refine WP.goto rfl ?_
            have e := kk; simp only [s_X12_check_2, if_pos c16] at e ⊢; exact e
        refine k15 _ ?_
        refine WP.istore_n (L' := [(14, 248), (0, s_X12_check_2 x2 h), (0, x2)]) rfl rfl ?_
        refine WP.iincE (L' := [(14, 248), (0, s_X12_check_2 x2 h), (0, x2 + 1)]) rfl rfl o18 rfl ?_
        refine WP.goto rfl ?_
        exact kk [] (s_X12_check_2 x2 h, x2 + 1, H_X12_minute h) (rfl)
  · intro hP hc
    generalize hs : (L_X12_check_17 x1 x2 h : Int × Int × pH) = s at kk
    change P_X12_check_17 (L_X12_check_17 x1 x2 h).1 (L_X12_check_17 x1 x2 h).2.1 (L_X12_check_17 x1 x2 h).2.2 at hP
    change ¬ C_X12_check_17 (L_X12_check_17 x1 x2 h).1 (L_X12_check_17 x1 x2 h).2.1 (L_X12_check_17 x1 x2 h).2.2 at hc
    intro us
    show WP 218 (17, [(14, 248), (0, (L_X12_check_17 x1 x2 h).1), (0, (L_X12_check_17 x1 x2 h).2.1)], [], (L_X12_check_17 x1 x2 h).2.2) Q
    rw [hs] at hP hc ⊢
    obtain ⟨x1, x2, h⟩ := s
    change P_X12_check_17 x1 x2 h at hP
    change ¬ (x2 < h 248 20 ∧ x1 = (-1)) at hc
    unfold P_X12_check_17 at hP
    show WP 218 (17, [(14, 248), (0, x1), (0, x2)], [], h) Q
    refine WP.iload_n rfl rfl ?_
    refine WP.aload_n rfl rfl ⟨by decide, by decide⟩ ?_
    refine WP.getI rfl rfl ?_
    refine WP.ni_ge rfl (fun c8 => ?_) (fun c8 => ?_)
    · exact kk []
    · refine WP.iload_n rfl rfl ?_
      refine WP.iconst rfl ?_
      refine WP.ni_ne rfl (fun c9 => ?_) (fun c9 => ?_)
      · exact kk []
      · exact absurd (show x2 < h 248 20 ∧ x1 = (-1) from ⟨c8, c9⟩) hc
noncomputable def s_X12_check_3 (h : pH) : Int := (L_X12_check_17 (-1) 0 (s_X12_check_1 h)).1
noncomputable def s_X12_check_4 (h : pH) : Int := (L_X12_check_17 (-1) 0 (s_X12_check_1 h)).2.1
noncomputable def s_X12_check_5 (h : pH) : pH := (L_X12_check_17 (-1) 0 (s_X12_check_1 h)).2.2
noncomputable def F_X12_check (h : pH) : Int := s_X12_check_3 h
noncomputable def H_X12_check (h : pH) : pH := H_X12_copy 250 249 (s_X12_check_5 h)
noncomputable def P_X12_check (h : pH) : Prop := P_X12_copy 249 250 h ∧ (((¬ (H_X12_copy 249 250 h) 248 21 = 0) → ((P_X12_copy 253 249 (H_X12_copy 249 250 h))))) ∧ (O_X12_check_17 (-1) 0 (s_X12_check_1 h)) ∧ (P_X12_copy 250 249 (s_X12_check_5 h))
set_option maxHeartbeats 4000000 in
theorem w_X12_check (h : pH) {Q : Option pV → pH → Prop} (hp : P_X12_check h) (kk : Q (some (0, F_X12_check h)) (H_X12_check h)) : WP 218 (0, [(14, 248), pU, pU], [], h) Q := by
  unfold P_X12_check at hp
  obtain ⟨o1, q7, o19, o21⟩ := hp
  refine WP.aload_n rfl rfl ⟨by decide, by decide⟩ ?_
  refine WP.getRF (b := 249) rfl rfl rfl ?_
  refine WP.aload_n rfl rfl ⟨by decide, by decide⟩ ?_
  refine WP.getRF (b := 250) rfl rfl rfl ?_
  refine WP.callF (c_X12_copy 249 250 h o1) rfl rfl (pm_cok rfl rfl (Or.inl rfl) rfl rfl) rfl rfl ?_
  show WP 218 (5, [(14, 248), pU, pU], [], H_X12_copy 249 250 h) Q
  refine WP.aload_n rfl rfl ⟨by decide, by decide⟩ ?_
  refine WP.getZ rfl rfl ?_
  have k2 : ∀ Q' : Option pV → pH → Prop, (WP 218 (13, [(14, 248), pU, pU], [], s_X12_check_1 h) Q') → WP 218 (7, [(14, 248), pU, pU], [(0, (H_X12_copy 249 250 h) 248 21)], H_X12_copy 249 250 h) Q' := fun Q' kk => by
    have q5 := q7
    refine WP.nz_eq rfl (fun c3 => ?_) (fun c3 => ?_)
    · have e := kk; simp only [s_X12_check_1, if_pos c3] at e ⊢; exact e
    · have o4 := q5 c3
      refine WP.aload_n rfl rfl ⟨by decide, by decide⟩ ?_
      refine WP.getRF (b := 253) rfl rfl rfl ?_
      refine WP.aload_n rfl rfl ⟨by decide, by decide⟩ ?_
      refine WP.getRF (b := 249) rfl rfl rfl ?_
      refine WP.callF (c_X12_copy 253 249 (H_X12_copy 249 250 h) o4) rfl rfl (pm_cok rfl rfl (Or.inl rfl) rfl rfl) rfl rfl ?_
      show WP 218 (13, [(14, 248), pU, pU], [], H_X12_copy 253 249 (H_X12_copy 249 250 h)) Q'
      have e := kk; simp only [s_X12_check_1, if_neg (c3)] at e ⊢; exact e
  refine k2 _ ?_
  refine WP.iconst rfl ?_
  refine WP.istore_n (L' := [(14, 248), (0, (-1)), pU]) rfl rfl ?_
  refine WP.iconst rfl ?_
  refine WP.istore_n (L' := [(14, 248), (0, (-1)), (0, 0)]) rfl rfl ?_
  refine lp_X12_check_17 (-1) 0 (s_X12_check_1 h) o19 (fun us20 => ?_) []
  show WP 218 (40, [(14, 248), (0, s_X12_check_3 h), (0, s_X12_check_4 h)], [], s_X12_check_5 h) Q
  refine WP.aload_n rfl rfl ⟨by decide, by decide⟩ ?_
  refine WP.getRF (b := 250) rfl rfl rfl ?_
  refine WP.aload_n rfl rfl ⟨by decide, by decide⟩ ?_
  refine WP.getRF (b := 249) rfl rfl rfl ?_
  refine WP.callF (c_X12_copy 250 249 (s_X12_check_5 h) o21) rfl rfl (pm_cok rfl rfl (Or.inl rfl) rfl rfl) rfl rfl ?_
  show WP 218 (45, [(14, 248), (0, s_X12_check_3 h), (0, s_X12_check_4 h)], [], H_X12_copy 250 249 (s_X12_check_5 h)) Q
  refine WP.iload_n rfl rfl ?_
  refine WP.reti rfl ?_; exact kk
theorem c_X12_check (h : pH) (hp : P_X12_check h) : CP 218 [(14, 248)] h (fun r h1 => r = some (0, F_X12_check h) ∧ h1 = H_X12_check h) := w_X12_check h hp ⟨rfl, rfl⟩
noncomputable def s_X9_readAt_1 (a0 : Int) (a1 : Int) (h : pH) : pH := if (pm_upd h a0 10 0) a0 12 = 0 then if h (a0 + 1) a1 = 41 then H_X9_readClosing a0 a1 (pm_upd h a0 10 0) else H_X9_readJoin a0 a1 (h (a0 + 1) a1) (pm_upd h a0 10 0) else H_X9_readUnit a0 a1 (h (a0 + 1) a1) (pm_upd h a0 10 0)
noncomputable def H_X9_readAt (a0 : Int) (a1 : Int) (h : pH) : pH := if h (a0 + 1) a1 < 48 then if h (a0 + 1) a1 = 32 then pm_upd h a0 10 0 else s_X9_readAt_1 a0 a1 h else if 57 < h (a0 + 1) a1 then if h (a0 + 1) a1 = 32 then pm_upd h a0 10 0 else s_X9_readAt_1 a0 a1 h else H_X9_readDigit a0 a1 ((h (a0 + 1) a1) - 48) h
noncomputable def P_X9_readAt (a0 : Int) (a1 : Int) (h : pH) : Prop := (0 ≤ a1 ∧ a1 < 60) ∧ (((h (a0 + 1) a1 < 48) → (((¬ h (a0 + 1) a1 = 32) → ((((((pm_upd h a0 10 0) a0 12 = 0) → ((((h (a0 + 1) a1 = 41) → ((P_X9_readClosing a0 a1 (pm_upd h a0 10 0)))) ∧ ((¬ h (a0 + 1) a1 = 41) → ((P_X9_readJoin a0 a1 (h (a0 + 1) a1) (pm_upd h a0 10 0))))))) ∧ ((¬ (pm_upd h a0 10 0) a0 12 = 0) → ((P_X9_readUnit a0 a1 (h (a0 + 1) a1) (pm_upd h a0 10 0)))))))))) ∧ ((48 ≤ h (a0 + 1) a1) → ((((57 < h (a0 + 1) a1) → (((¬ h (a0 + 1) a1 = 32) → ((((((pm_upd h a0 10 0) a0 12 = 0) → ((((h (a0 + 1) a1 = 41) → ((P_X9_readClosing a0 a1 (pm_upd h a0 10 0)))) ∧ ((¬ h (a0 + 1) a1 = 41) → ((P_X9_readJoin a0 a1 (h (a0 + 1) a1) (pm_upd h a0 10 0))))))) ∧ ((¬ (pm_upd h a0 10 0) a0 12 = 0) → ((P_X9_readUnit a0 a1 (h (a0 + 1) a1) (pm_upd h a0 10 0)))))))))) ∧ ((h (a0 + 1) a1 ≤ 57) → ((fx_i ((h (a0 + 1) a1) - 48)) ∧ (P_X9_readDigit a0 a1 ((h (a0 + 1) a1) - 48) h)))))))
set_option maxHeartbeats 4000000 in
theorem w_X9_readAt (a0 : Int) (a1 : Int) (h : pH) {Q : Option pV → pH → Prop} (hp : P_X9_readAt a0 a1 h) (kk : Q (none) (H_X9_readAt a0 a1 h)) : WP 63 (0, [(11, a0), (0, a1), pU], [], h) Q := by
  unfold P_X9_readAt at hp
  obtain ⟨o1, q31⟩ := hp
  refine WP.aload_n rfl rfl ⟨by decide, by decide⟩ ?_
  refine WP.getR rfl rfl ?_
  refine WP.iload_n rfl rfl ?_
  refine WP.iaload rfl ⟨by decide, by decide, by decide⟩ o1 ?_
  refine WP.istore_n (L' := [(11, a0), (0, a1), (0, h (a0 + 1) a1)]) rfl rfl ?_
  refine WP.iload_n rfl rfl ?_
  refine WP.bipush rfl ?_
  refine WP.ni_lt rfl (fun c2 => ?_) (fun c2 => ?_)
  · have q14 := q31.1 c2
    refine WP.aload_n rfl rfl ⟨by decide, by decide⟩ ?_
    refine WP.iconst rfl ?_
    refine WP.putI rfl rfl ?_
    refine WP.iload_n rfl rfl ?_
    refine WP.bipush rfl ?_
    refine WP.ni_ne rfl (fun c3 => ?_) (fun c3 => ?_)
    · have q13 := q14 c3
      refine WP.aload_n rfl rfl ⟨by decide, by decide⟩ ?_
      refine WP.getZ rfl rfl ?_
      have k4 : ∀ Q' : Option pV → pH → Prop, (WP 63 (44, [(11, a0), (0, a1), (0, h (a0 + 1) a1)], [], s_X9_readAt_1 a0 a1 h) Q') → WP 63 (27, [(11, a0), (0, a1), (0, h (a0 + 1) a1)], [(0, (pm_upd h a0 10 0) a0 12)], pm_upd h a0 10 0) Q' := fun Q' kk => by
        have q11 := q13
        refine WP.nz_eq rfl (fun c5 => ?_) (fun c5 => ?_)
        · have q9 := q11.1 c5
          refine WP.iload_n rfl rfl ?_
          refine WP.bipush rfl ?_
          refine WP.ni_ne rfl (fun c6 => ?_) (fun c6 => ?_)
          · have o8 := q9.2 c6
            refine WP.aload_n rfl rfl ⟨by decide, by decide⟩ ?_
            refine WP.iload_n rfl rfl ?_
            refine WP.iload_n rfl rfl ?_
            refine WP.callF (c_X9_readJoin a0 a1 (h (a0 + 1) a1) (pm_upd h a0 10 0) o8) rfl rfl (pm_cok rfl rfl (Or.inr ⟨_, _, rfl⟩) rfl rfl) rfl rfl ?_
            show WP 63 (44, [(11, a0), (0, a1), (0, h (a0 + 1) a1)], [], H_X9_readJoin a0 a1 (h (a0 + 1) a1) (pm_upd h a0 10 0)) Q'
            have e := kk; simp only [s_X9_readAt_1, if_pos c5, if_neg (c6)] at e ⊢; exact e
          · have o7 := q9.1 c6
            refine WP.aload_n rfl rfl ⟨by decide, by decide⟩ ?_
            refine WP.iload_n rfl rfl ?_
            refine WP.callF (c_X9_readClosing a0 a1 (pm_upd h a0 10 0) o7) rfl rfl (pm_cok rfl rfl (Or.inr ⟨_, _, rfl⟩) rfl rfl) rfl rfl ?_
            show WP 63 (39, [(11, a0), (0, a1), (0, h (a0 + 1) a1)], [], H_X9_readClosing a0 a1 (pm_upd h a0 10 0)) Q'
            refine WP.goto rfl ?_
            have e := kk; simp only [s_X9_readAt_1, if_pos c5, if_pos c6] at e ⊢; exact e
        · have o10 := q11.2 c5
          refine WP.aload_n rfl rfl ⟨by decide, by decide⟩ ?_
          refine WP.iload_n rfl rfl ?_
          refine WP.iload_n rfl rfl ?_
          refine WP.callF (c_X9_readUnit a0 a1 (h (a0 + 1) a1) (pm_upd h a0 10 0) o10) rfl rfl (pm_cok rfl rfl (Or.inr ⟨_, _, rfl⟩) rfl rfl) rfl rfl ?_
          show WP 63 (32, [(11, a0), (0, a1), (0, h (a0 + 1) a1)], [], H_X9_readUnit a0 a1 (h (a0 + 1) a1) (pm_upd h a0 10 0)) Q'
          refine WP.goto rfl ?_
          have e := kk; simp only [s_X9_readAt_1, if_neg (c5)] at e ⊢; exact e
      refine k4 _ ?_
      refine WP.retv rfl ?_; have e := kk; simp only [H_X9_readAt, if_pos c2, if_neg (c3)] at e ⊢; exact e
    · refine WP.retv rfl ?_; have e := kk; simp only [H_X9_readAt, if_pos c2, if_pos c3] at e ⊢; exact e
  · have q30 := q31.2 c2
    refine WP.iload_n rfl rfl ?_
    refine WP.bipush rfl ?_
    refine WP.ni_gt rfl (fun c15 => ?_) (fun c15 => ?_)
    · have q27 := q30.1 c15
      refine WP.aload_n rfl rfl ⟨by decide, by decide⟩ ?_
      refine WP.iconst rfl ?_
      refine WP.putI rfl rfl ?_
      refine WP.iload_n rfl rfl ?_
      refine WP.bipush rfl ?_
      refine WP.ni_ne rfl (fun c16 => ?_) (fun c16 => ?_)
      · have q26 := q27 c16
        refine WP.aload_n rfl rfl ⟨by decide, by decide⟩ ?_
        refine WP.getZ rfl rfl ?_
        have k17 : ∀ Q' : Option pV → pH → Prop, (WP 63 (44, [(11, a0), (0, a1), (0, h (a0 + 1) a1)], [], s_X9_readAt_1 a0 a1 h) Q') → WP 63 (27, [(11, a0), (0, a1), (0, h (a0 + 1) a1)], [(0, (pm_upd h a0 10 0) a0 12)], pm_upd h a0 10 0) Q' := fun Q' kk => by
          have q24 := q26
          refine WP.nz_eq rfl (fun c18 => ?_) (fun c18 => ?_)
          · have q22 := q24.1 c18
            refine WP.iload_n rfl rfl ?_
            refine WP.bipush rfl ?_
            refine WP.ni_ne rfl (fun c19 => ?_) (fun c19 => ?_)
            · have o21 := q22.2 c19
              refine WP.aload_n rfl rfl ⟨by decide, by decide⟩ ?_
              refine WP.iload_n rfl rfl ?_
              refine WP.iload_n rfl rfl ?_
              refine WP.callF (c_X9_readJoin a0 a1 (h (a0 + 1) a1) (pm_upd h a0 10 0) o21) rfl rfl (pm_cok rfl rfl (Or.inr ⟨_, _, rfl⟩) rfl rfl) rfl rfl ?_
              show WP 63 (44, [(11, a0), (0, a1), (0, h (a0 + 1) a1)], [], H_X9_readJoin a0 a1 (h (a0 + 1) a1) (pm_upd h a0 10 0)) Q'
              have e := kk; simp only [s_X9_readAt_1, if_pos c18, if_neg (c19)] at e ⊢; exact e
            · have o20 := q22.1 c19
              refine WP.aload_n rfl rfl ⟨by decide, by decide⟩ ?_
              refine WP.iload_n rfl rfl ?_
              refine WP.callF (c_X9_readClosing a0 a1 (pm_upd h a0 10 0) o20) rfl rfl (pm_cok rfl rfl (Or.inr ⟨_, _, rfl⟩) rfl rfl) rfl rfl ?_
              show WP 63 (39, [(11, a0), (0, a1), (0, h (a0 + 1) a1)], [], H_X9_readClosing a0 a1 (pm_upd h a0 10 0)) Q'
              refine WP.goto rfl ?_
              have e := kk; simp only [s_X9_readAt_1, if_pos c18, if_pos c19] at e ⊢; exact e
          · have o23 := q24.2 c18
            refine WP.aload_n rfl rfl ⟨by decide, by decide⟩ ?_
            refine WP.iload_n rfl rfl ?_
            refine WP.iload_n rfl rfl ?_
            refine WP.callF (c_X9_readUnit a0 a1 (h (a0 + 1) a1) (pm_upd h a0 10 0) o23) rfl rfl (pm_cok rfl rfl (Or.inr ⟨_, _, rfl⟩) rfl rfl) rfl rfl ?_
            show WP 63 (32, [(11, a0), (0, a1), (0, h (a0 + 1) a1)], [], H_X9_readUnit a0 a1 (h (a0 + 1) a1) (pm_upd h a0 10 0)) Q'
            refine WP.goto rfl ?_
            have e := kk; simp only [s_X9_readAt_1, if_neg (c18)] at e ⊢; exact e
        refine k17 _ ?_
        refine WP.retv rfl ?_; have e := kk; simp only [H_X9_readAt, if_neg (Int.not_lt.mpr c2), if_pos c15, if_neg (c16)] at e ⊢; exact e
      · refine WP.retv rfl ?_; have e := kk; simp only [H_X9_readAt, if_neg (Int.not_lt.mpr c2), if_pos c15, if_pos c16] at e ⊢; exact e
    · obtain ⟨o28, o29⟩ := q30.2 c15
      refine WP.aload_n rfl rfl ⟨by decide, by decide⟩ ?_
      refine WP.iload_n rfl rfl ?_
      refine WP.iload_n rfl rfl ?_
      refine WP.bipush rfl ?_
      refine WP.isubE rfl o28 ?_
      refine WP.callF (c_X9_readDigit a0 a1 ((h (a0 + 1) a1) - 48) h o29) rfl rfl (pm_cok rfl rfl (Or.inr ⟨_, _, rfl⟩) rfl rfl) rfl rfl ?_
      show WP 63 (17, [(11, a0), (0, a1), (0, h (a0 + 1) a1)], [], H_X9_readDigit a0 a1 ((h (a0 + 1) a1) - 48) h) Q
      refine WP.retv rfl ?_; have e := kk; simp only [H_X9_readAt, if_neg (Int.not_lt.mpr c2), if_neg (Int.not_lt.mpr c15)] at e ⊢; exact e
theorem c_X9_readAt (a0 : Int) (a1 : Int) (h : pH) (hp : P_X9_readAt a0 a1 h) : CP 63 [(11, a0), (0, a1)] h (fun r h1 => r = none ∧ h1 = H_X9_readAt a0 a1 h) := w_X9_readAt a0 a1 h hp ⟨rfl, rfl⟩
noncomputable def s_X9_readAll_1 (a0 : Int) (h : pH) : pH := pm_upd (pm_upd (pm_upd (pm_upd h a0 5 (-1)) a0 6 0) a0 7 0) a0 8 0
noncomputable def s_X9_readAll_2 (a0 : Int) (h : pH) : pH := pm_upd (pm_upd (pm_upd (s_X9_readAll_1 a0 h) a0 9 0) a0 10 0) a0 12 1
def C_X9_readAll_23 (a0 : Int) (x1 : Int) (h : pH) : Prop := x1 < h a0 4 ∧ h a0 5 = (-1)
noncomputable def B_X9_readAll_23 (a0 : Int) (x1 : Int) (h : pH) : Int × pH := (x1 + 1, H_X9_readAt a0 x1 h)
noncomputable def P_X9_readAll_23 (a0 : Int) (x1 : Int) (h : pH) : Prop := ((x1 < h a0 4 ∧ h a0 5 = (-1)) → P_X9_readAt a0 x1 h ∧ (fx_i (x1 + 1)))
noncomputable def L_X9_readAll_23 (a0 : Int) (x1 : Int) (h : pH) : Int × pH := fx_wh (σ := Int × pH) (fun s => C_X9_readAll_23 a0 s.1 s.2) (fun s => B_X9_readAll_23 a0 s.1 s.2) (x1, h)
def O_X9_readAll_23 (a0 : Int) (x1 : Int) (h : pH) : Prop := fx_ok (σ := Int × pH) (fun s => C_X9_readAll_23 a0 s.1 s.2) (fun s => B_X9_readAll_23 a0 s.1 s.2) (fun s => P_X9_readAll_23 a0 s.1 s.2) (x1, h)
set_option maxHeartbeats 4000000 in
theorem lp_X9_readAll_23 (a0 : Int) (x1 : Int) (h : pH) {Q : Option pV → pH → Prop} (hp : O_X9_readAll_23 a0 x1 h) (kk : ∀ us : List pV, WP 61 (36, [(11, a0), (0, (L_X9_readAll_23 a0 x1 h).1)], [], (L_X9_readAll_23 a0 x1 h).2) Q) : ∀ us : List pV, WP 61 (23, [(11, a0), (0, x1)], [], h) Q := by
  refine WP.wh (σ := Int × pH) (fun s => C_X9_readAll_23 a0 s.1 s.2) (fun s => B_X9_readAll_23 a0 s.1 s.2) (fun s => P_X9_readAll_23 a0 s.1 s.2) (fun s us => (23, [(11, a0), (0, s.1)], [], s.2)) (x1, h) hp ?_ ?_
  · intro s us hP hc kk
    obtain ⟨x1, h⟩ := s
    change P_X9_readAll_23 a0 x1 h at hP
    change x1 < h a0 4 ∧ h a0 5 = (-1) at hc
    replace kk : ∀ (us' : List pV) (s' : Int × pH), s' = B_X9_readAll_23 a0 x1 h → WP 61 (23, [(11, a0), (0, s'.1)], [], s'.2) Q := fun us' s' e => by subst e; exact kk us'
    unfold P_X9_readAll_23 at hP
    obtain ⟨o5, o6⟩ := hP hc
    show WP 61 (23, [(11, a0), (0, x1)], [], h) Q
    refine WP.iload_n rfl rfl ?_
    refine WP.aload_n rfl rfl ⟨by decide, by decide⟩ ?_
    refine WP.getI rfl rfl ?_
    refine WP.ni_ge rfl (fun c3 => ?_) (fun c3 => ?_)
    · exact absurd hc (fun q => (Int.not_lt.mpr c3) q.1)
    · refine WP.aload_n rfl rfl ⟨by decide, by decide⟩ ?_
      refine WP.getI rfl rfl ?_
      refine WP.iconst rfl ?_
      refine WP.ni_ne rfl (fun c4 => ?_) (fun c4 => ?_)
      · exact absurd hc (fun q => (c4) q.2)
      · refine WP.aload_n rfl rfl ⟨by decide, by decide⟩ ?_
        refine WP.iload_n rfl rfl ?_
        refine WP.callF (c_X9_readAt a0 x1 h o5) rfl rfl (pm_cok rfl rfl (Or.inr ⟨_, _, rfl⟩) rfl rfl) rfl rfl ?_
        show WP 61 (34, [(11, a0), (0, x1)], [], H_X9_readAt a0 x1 h) Q
        refine WP.iincE (L' := [(11, a0), (0, x1 + 1)]) rfl rfl o6 rfl ?_
        refine WP.goto rfl ?_
        exact kk [] (x1 + 1, H_X9_readAt a0 x1 h) (rfl)
  · intro hP hc
    generalize hs : (L_X9_readAll_23 a0 x1 h : Int × pH) = s at kk
    change P_X9_readAll_23 a0 (L_X9_readAll_23 a0 x1 h).1 (L_X9_readAll_23 a0 x1 h).2 at hP
    change ¬ C_X9_readAll_23 a0 (L_X9_readAll_23 a0 x1 h).1 (L_X9_readAll_23 a0 x1 h).2 at hc
    intro us
    show WP 61 (23, [(11, a0), (0, (L_X9_readAll_23 a0 x1 h).1)], [], (L_X9_readAll_23 a0 x1 h).2) Q
    rw [hs] at hP hc ⊢
    obtain ⟨x1, h⟩ := s
    change P_X9_readAll_23 a0 x1 h at hP
    change ¬ (x1 < h a0 4 ∧ h a0 5 = (-1)) at hc
    unfold P_X9_readAll_23 at hP
    show WP 61 (23, [(11, a0), (0, x1)], [], h) Q
    refine WP.iload_n rfl rfl ?_
    refine WP.aload_n rfl rfl ⟨by decide, by decide⟩ ?_
    refine WP.getI rfl rfl ?_
    refine WP.ni_ge rfl (fun c1 => ?_) (fun c1 => ?_)
    · exact kk []
    · refine WP.aload_n rfl rfl ⟨by decide, by decide⟩ ?_
      refine WP.getI rfl rfl ?_
      refine WP.iconst rfl ?_
      refine WP.ni_ne rfl (fun c2 => ?_) (fun c2 => ?_)
      · exact kk []
      · exact absurd (show x1 < h a0 4 ∧ h a0 5 = (-1) from ⟨c1, c2⟩) hc
noncomputable def s_X9_readAll_3 (a0 : Int) (h : pH) : Int := (L_X9_readAll_23 a0 0 (s_X9_readAll_2 a0 h)).1
noncomputable def s_X9_readAll_4 (a0 : Int) (h : pH) : pH := (L_X9_readAll_23 a0 0 (s_X9_readAll_2 a0 h)).2
noncomputable def s_X9_readAll_5 (a0 : Int) (h : pH) : pH := H_X9_refuse a0 ((s_X9_readAll_4 a0 h) a0 4) 1 (s_X9_readAll_4 a0 h)
noncomputable def s_X9_readAll_6 (a0 : Int) (h : pH) : pH := if (s_X9_readAll_4 a0 h) a0 5 = (-1) then if (s_X9_readAll_4 a0 h) a0 12 = 0 then if (s_X9_readAll_4 a0 h) a0 8 ≤ 0 then s_X9_readAll_4 a0 h else s_X9_readAll_5 a0 h else s_X9_readAll_5 a0 h else s_X9_readAll_4 a0 h
noncomputable def s_X9_readAll_7 (a0 : Int) (h : pH) : pH := H_X9_putWaiting a0 (F_X9_binding 124 (s_X9_readAll_6 a0 h)) (s_X9_readAll_6 a0 h)
noncomputable def H_X9_readAll (a0 : Int) (h : pH) : pH := s_X9_readAll_7 a0 h
noncomputable def P_X9_readAll (a0 : Int) (h : pH) : Prop := (O_X9_readAll_23 a0 0 (s_X9_readAll_2 a0 h)) ∧ ((((s_X9_readAll_4 a0 h) a0 5 = (-1)) → (((((s_X9_readAll_4 a0 h) a0 12 = 0) → (((0 < (s_X9_readAll_4 a0 h) a0 8) → ((P_X9_refuse a0 ((s_X9_readAll_4 a0 h) a0 4) 1 (s_X9_readAll_4 a0 h)))))) ∧ ((¬ (s_X9_readAll_4 a0 h) a0 12 = 0) → ((P_X9_refuse a0 ((s_X9_readAll_4 a0 h) a0 4) 1 (s_X9_readAll_4 a0 h)))))))) ∧ (P_X9_putWaiting a0 (F_X9_binding 124 (s_X9_readAll_6 a0 h)) (s_X9_readAll_6 a0 h))
set_option maxHeartbeats 4000000 in
theorem w_X9_readAll (a0 : Int) (h : pH) {Q : Option pV → pH → Prop} (hp : P_X9_readAll a0 h) (kk : Q (none) (H_X9_readAll a0 h)) : WP 61 (0, [(11, a0), pU], [], h) Q := by
  unfold P_X9_readAll at hp
  obtain ⟨o7, q19, o20⟩ := hp
  refine WP.aload_n rfl rfl ⟨by decide, by decide⟩ ?_
  refine WP.iconst rfl ?_
  refine WP.putI rfl rfl ?_
  refine WP.aload_n rfl rfl ⟨by decide, by decide⟩ ?_
  refine WP.iconst rfl ?_
  refine WP.putI rfl rfl ?_
  refine WP.aload_n rfl rfl ⟨by decide, by decide⟩ ?_
  refine WP.iconst rfl ?_
  refine WP.putI rfl rfl ?_
  refine WP.aload_n rfl rfl ⟨by decide, by decide⟩ ?_
  refine WP.iconst rfl ?_
  refine WP.putI rfl rfl ?_
  show WP 61 (12, [(11, a0), pU], [], s_X9_readAll_1 a0 h) Q
  refine WP.aload_n rfl rfl ⟨by decide, by decide⟩ ?_
  refine WP.iconst rfl ?_
  refine WP.putI rfl rfl ?_
  refine WP.aload_n rfl rfl ⟨by decide, by decide⟩ ?_
  refine WP.iconst rfl ?_
  refine WP.putI rfl rfl ?_
  refine WP.aload_n rfl rfl ⟨by decide, by decide⟩ ?_
  refine WP.iconst rfl ?_
  refine WP.putZ rfl rfl (by decide) ?_
  show WP 61 (21, [(11, a0), pU], [], s_X9_readAll_2 a0 h) Q
  refine WP.iconst rfl ?_
  refine WP.istore_n (L' := [(11, a0), (0, 0)]) rfl rfl ?_
  refine lp_X9_readAll_23 a0 0 (s_X9_readAll_2 a0 h) o7 (fun us8 => ?_) []
  show WP 61 (36, [(11, a0), (0, s_X9_readAll_3 a0 h)], [], s_X9_readAll_4 a0 h) Q
  refine WP.aload_n rfl rfl ⟨by decide, by decide⟩ ?_
  refine WP.getI rfl rfl ?_
  refine WP.iconst rfl ?_
  have k9 : ∀ Q' : Option pV → pH → Prop, (WP 61 (51, [(11, a0), (0, s_X9_readAll_3 a0 h)], [], s_X9_readAll_6 a0 h) Q') → WP 61 (39, [(11, a0), (0, s_X9_readAll_3 a0 h)], [(0, (-1)), (0, (s_X9_readAll_4 a0 h) a0 5)], s_X9_readAll_4 a0 h) Q' := fun Q' kk => by
    have q17 := q19
    refine WP.ni_ne rfl (fun c10 => ?_) (fun c10 => ?_)
    · have e := kk; simp only [s_X9_readAll_6, if_neg (c10)] at e ⊢; exact e
    · have q16 := q17 c10
      refine WP.aload_n rfl rfl ⟨by decide, by decide⟩ ?_
      refine WP.getZ rfl rfl ?_
      refine WP.nz_ne rfl (fun c11 => ?_) (fun c11 => ?_)
      · have o15 := q16.2 c11
        refine WP.aload_n rfl rfl ⟨by decide, by decide⟩ ?_
        refine WP.aload_n rfl rfl ⟨by decide, by decide⟩ ?_
        refine WP.getI rfl rfl ?_
        refine WP.iconst rfl ?_
        refine WP.callF (c_X9_refuse a0 ((s_X9_readAll_4 a0 h) a0 4) 1 (s_X9_readAll_4 a0 h) o15) rfl rfl (pm_cok rfl rfl (Or.inr ⟨_, _, rfl⟩) rfl rfl) rfl rfl ?_
        show WP 61 (51, [(11, a0), (0, s_X9_readAll_3 a0 h)], [], s_X9_readAll_5 a0 h) Q'
        have e := kk; simp only [s_X9_readAll_6, if_pos c10, if_neg (c11)] at e ⊢; exact e
      · have q14 := q16.1 c11
        refine WP.aload_n rfl rfl ⟨by decide, by decide⟩ ?_
        refine WP.getI rfl rfl ?_
        refine WP.nz_le rfl (fun c12 => ?_) (fun c12 => ?_)
        · have e := kk; simp only [s_X9_readAll_6, if_pos c10, if_pos c11, if_pos c12] at e ⊢; exact e
        · have o13 := q14 c12
          refine WP.aload_n rfl rfl ⟨by decide, by decide⟩ ?_
          refine WP.aload_n rfl rfl ⟨by decide, by decide⟩ ?_
          refine WP.getI rfl rfl ?_
          refine WP.iconst rfl ?_
          refine WP.callF (c_X9_refuse a0 ((s_X9_readAll_4 a0 h) a0 4) 1 (s_X9_readAll_4 a0 h) o13) rfl rfl (pm_cok rfl rfl (Or.inr ⟨_, _, rfl⟩) rfl rfl) rfl rfl ?_
          show WP 61 (51, [(11, a0), (0, s_X9_readAll_3 a0 h)], [], s_X9_readAll_5 a0 h) Q'
          have e := kk; simp only [s_X9_readAll_6, if_pos c10, if_pos c11, if_neg (Int.not_le.mpr c12)] at e ⊢; exact e
  refine k9 _ ?_
  refine WP.aload_n rfl rfl ⟨by decide, by decide⟩ ?_
  refine WP.bipush rfl ?_
  refine WP.callF (c_X9_binding 124 (s_X9_readAll_6 a0 h)) rfl rfl (pm_cok rfl rfl (Or.inl rfl) rfl rfl) rfl rfl ?_
  show WP 61 (54, [(11, a0), (0, s_X9_readAll_3 a0 h)], [(0, F_X9_binding 124 (s_X9_readAll_6 a0 h)), (11, a0)], s_X9_readAll_6 a0 h) Q
  refine WP.callF (c_X9_putWaiting a0 (F_X9_binding 124 (s_X9_readAll_6 a0 h)) (s_X9_readAll_6 a0 h) o20) rfl rfl (pm_cok rfl rfl (Or.inr ⟨_, _, rfl⟩) rfl rfl) rfl rfl ?_
  show WP 61 (55, [(11, a0), (0, s_X9_readAll_3 a0 h)], [], s_X9_readAll_7 a0 h) Q
  refine WP.retv rfl ?_; exact kk
theorem c_X9_readAll (a0 : Int) (h : pH) (hp : P_X9_readAll a0 h) : CP 61 [(11, a0)] h (fun r h1 => r = none ∧ h1 = H_X9_readAll a0 h) := w_X9_readAll a0 h hp ⟨rfl, rfl⟩
noncomputable def s_X9_append_1 (a0 : Int) (a1 : Int) (h : pH) : pH := pm_upd (pm_upd h (a0 + 1) (h a0 4) a1) a0 4 (((pm_upd h (a0 + 1) (h a0 4) a1) a0 4) + 1)
noncomputable def F_X9_append (a0 : Int) (a1 : Int) (h : pH) : Int := if h a0 4 < 60 then (H_X9_readAll a0 (s_X9_append_1 a0 a1 h)) a0 4 else (-4)
noncomputable def H_X9_append (a0 : Int) (a1 : Int) (h : pH) : pH := if h a0 4 < 60 then H_X9_readAll a0 (s_X9_append_1 a0 a1 h) else h
noncomputable def P_X9_append (a0 : Int) (a1 : Int) (h : pH) : Prop := ((h a0 4 < 60) → ((0 ≤ h a0 4 ∧ h a0 4 < 60) ∧ (fx_i (((pm_upd h (a0 + 1) (h a0 4) a1) a0 4) + 1)) ∧ (P_X9_readAll a0 (s_X9_append_1 a0 a1 h))))
set_option maxHeartbeats 4000000 in
theorem w_X9_append (a0 : Int) (a1 : Int) (h : pH) {Q : Option pV → pH → Prop} (hp : P_X9_append a0 a1 h) (kk : Q (some (0, F_X9_append a0 a1 h)) (H_X9_append a0 a1 h)) : WP 59 (0, [(11, a0), (0, a1)], [], h) Q := by
  unfold P_X9_append at hp
  have q5 := hp
  refine WP.aload_n rfl rfl ⟨by decide, by decide⟩ ?_
  refine WP.getI rfl rfl ?_
  refine WP.bipush rfl ?_
  refine WP.ni_lt rfl (fun c1 => ?_) (fun c1 => ?_)
  · obtain ⟨o2, o3, o4⟩ := q5 c1
    refine WP.aload_n rfl rfl ⟨by decide, by decide⟩ ?_
    refine WP.getR rfl rfl ?_
    refine WP.aload_n rfl rfl ⟨by decide, by decide⟩ ?_
    refine WP.getI rfl rfl ?_
    refine WP.iload_n rfl rfl ?_
    refine WP.iastore rfl ⟨by decide, by decide, by decide⟩ o2 ?_
    refine WP.aload_n rfl rfl ⟨by decide, by decide⟩ ?_
    refine WP.dup rfl (by decide) ?_
    refine WP.getI rfl rfl ?_
    refine WP.iconst rfl ?_
    refine WP.iaddE rfl o3 ?_
    refine WP.putI rfl rfl ?_
    show WP 59 (18, [(11, a0), (0, a1)], [], s_X9_append_1 a0 a1 h) Q
    refine WP.aload_n rfl rfl ⟨by decide, by decide⟩ ?_
    refine WP.callF (c_X9_readAll a0 (s_X9_append_1 a0 a1 h) o4) rfl rfl (pm_cok rfl rfl (Or.inr ⟨_, _, rfl⟩) rfl rfl) rfl rfl ?_
    show WP 59 (20, [(11, a0), (0, a1)], [], H_X9_readAll a0 (s_X9_append_1 a0 a1 h)) Q
    refine WP.aload_n rfl rfl ⟨by decide, by decide⟩ ?_
    refine WP.getI rfl rfl ?_
    refine WP.reti rfl ?_; have e := kk; simp only [F_X9_append, H_X9_append, if_pos c1] at e ⊢; exact e
  · refine WP.bipush rfl ?_
    refine WP.reti rfl ?_; have e := kk; simp only [F_X9_append, H_X9_append, if_neg (Int.not_lt.mpr c1)] at e ⊢; exact e
theorem c_X9_append (a0 : Int) (a1 : Int) (h : pH) (hp : P_X9_append a0 a1 h) : CP 59 [(11, a0), (0, a1)] h (fun r h1 => r = some (0, F_X9_append a0 a1 h) ∧ h1 = H_X9_append a0 a1 h) := w_X9_append a0 a1 h hp ⟨rfl, rfl⟩
noncomputable def F_X9_clear (a0 : Int) (h : pH) : Int := h a0 4
noncomputable def H_X9_clear (a0 : Int) (h : pH) : pH := H_X9_readAll a0 (pm_upd h a0 4 0)
noncomputable def P_X9_clear (a0 : Int) (h : pH) : Prop := (P_X9_readAll a0 (pm_upd h a0 4 0))
set_option maxHeartbeats 4000000 in
theorem w_X9_clear (a0 : Int) (h : pH) {Q : Option pV → pH → Prop} (hp : P_X9_clear a0 h) (kk : Q (some (0, F_X9_clear a0 h)) (H_X9_clear a0 h)) : WP 60 (0, [(11, a0), pU], [], h) Q := by
  unfold P_X9_clear at hp
  have o1 := hp
  refine WP.aload_n rfl rfl ⟨by decide, by decide⟩ ?_
  refine WP.getI rfl rfl ?_
  refine WP.istore_n (L' := [(11, a0), (0, h a0 4)]) rfl rfl ?_
  refine WP.aload_n rfl rfl ⟨by decide, by decide⟩ ?_
  refine WP.iconst rfl ?_
  refine WP.putI rfl rfl ?_
  refine WP.aload_n rfl rfl ⟨by decide, by decide⟩ ?_
  refine WP.callF (c_X9_readAll a0 (pm_upd h a0 4 0) o1) rfl rfl (pm_cok rfl rfl (Or.inr ⟨_, _, rfl⟩) rfl rfl) rfl rfl ?_
  show WP 60 (8, [(11, a0), (0, h a0 4)], [], H_X9_readAll a0 (pm_upd h a0 4 0)) Q
  refine WP.iload_n rfl rfl ?_
  refine WP.reti rfl ?_; exact kk
theorem c_X9_clear (a0 : Int) (h : pH) (hp : P_X9_clear a0 h) : CP 60 [(11, a0)] h (fun r h1 => r = some (0, F_X9_clear a0 h) ∧ h1 = H_X9_clear a0 h) := w_X9_clear a0 h hp ⟨rfl, rfl⟩
noncomputable def F_X11_write (a1 : Int) (h : pH) : Int := if 0 ≤ a1 ∧ a1 ≤ 127 then F_X9_append 38 a1 h else (-2)
noncomputable def H_X11_write (a1 : Int) (h : pH) : pH := if 0 ≤ a1 ∧ a1 ≤ 127 then H_X9_append 38 a1 h else h
noncomputable def P_X11_write (a1 : Int) (h : pH) : Prop := ((0 ≤ a1 ∧ a1 ≤ 127) → P_X9_append 38 a1 h)
set_option maxHeartbeats 4000000 in
theorem w_X11_write (a1 : Int) (h : pH) {Q : Option pV → pH → Prop} (hp : P_X11_write a1 h) (kk : Q (some (0, F_X11_write a1 h)) (H_X11_write a1 h)) : WP 109 (0, [(13, 0), (0, a1)], [], h) Q := by
  unfold P_X11_write at hp
  have q3 := hp
  refine WP.iload_n rfl rfl ?_
  refine WP.iconst rfl ?_
  refine WP.bipush rfl ?_
  refine WP.callF (c_X11_within a1 0 127 h) rfl rfl (pm_cok rfl rfl (Or.inl rfl) rfl rfl) rfl rfl ?_
  show WP 109 (4, [(13, 0), (0, a1)], [(0, if 0 ≤ a1 ∧ a1 ≤ 127 then 1 else 0)], h) Q
  refine WP.nb_ne rfl (fun c1 => ?_) (fun c1 => ?_)
  · have o2 := q3 c1
    refine WP.aload_n rfl rfl ⟨by decide, by decide⟩ ?_
    refine WP.getRF (b := 1) rfl rfl rfl ?_
    refine WP.getRF (b := 38) rfl rfl rfl ?_
    refine WP.iload_n rfl rfl ?_
    refine WP.callF (c_X9_append 38 a1 h o2) rfl rfl (pm_cok rfl rfl (Or.inr ⟨_, _, rfl⟩) rfl rfl) rfl rfl ?_
    show WP 109 (12, [(13, 0), (0, a1)], [(0, F_X9_append 38 a1 h)], H_X9_append 38 a1 h) Q
    refine WP.reti rfl ?_; have e := kk; simp only [F_X11_write, H_X11_write, if_pos c1] at e ⊢; exact e
  · refine WP.bipush rfl ?_
    refine WP.reti rfl ?_; have e := kk; simp only [F_X11_write, H_X11_write, if_neg (c1)] at e ⊢; exact e
theorem c_X11_write (a1 : Int) (h : pH) (hp : P_X11_write a1 h) : CP 109 [(13, 0), (0, a1)] h (fun r h1 => r = some (0, F_X11_write a1 h) ∧ h1 = H_X11_write a1 h) := w_X11_write a1 h hp ⟨rfl, rfl⟩
noncomputable def F_X11_erase (h : pH) : Int := F_X9_clear 38 h
noncomputable def H_X11_erase (h : pH) : pH := H_X9_clear 38 h
noncomputable def P_X11_erase (h : pH) : Prop := P_X9_clear 38 h
set_option maxHeartbeats 4000000 in
theorem w_X11_erase (h : pH) {Q : Option pV → pH → Prop} (hp : P_X11_erase h) (kk : Q (some (0, F_X11_erase h)) (H_X11_erase h)) : WP 110 (0, [(13, 0)], [], h) Q := by
  unfold P_X11_erase at hp
  have o1 := hp
  refine WP.aload_n rfl rfl ⟨by decide, by decide⟩ ?_
  refine WP.getRF (b := 1) rfl rfl rfl ?_
  refine WP.getRF (b := 38) rfl rfl rfl ?_
  refine WP.callF (c_X9_clear 38 h o1) rfl rfl (pm_cok rfl rfl (Or.inr ⟨_, _, rfl⟩) rfl rfl) rfl rfl ?_
  show WP 110 (4, [(13, 0)], [(0, F_X9_clear 38 h)], H_X9_clear 38 h) Q
  refine WP.reti rfl ?_; exact kk
theorem c_X11_erase (h : pH) (hp : P_X11_erase h) : CP 110 [(13, 0)] h (fun r h1 => r = some (0, F_X11_erase h) ∧ h1 = H_X11_erase h) := w_X11_erase h hp ⟨rfl, rfl⟩
