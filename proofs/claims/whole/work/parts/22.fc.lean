noncomputable def s_X7_bestFrom_1 (a2 : Int) (x3 : Int) (x5 : Int) (h : pH) : Int := if h 149 x5 = (-1) then x3 else pm_or x3 (pm_and (pm_shl 1 (h 149 x5)) a2)
noncomputable def s_X7_bestFrom_2 (x4 : Int) (x5 : Int) (h : pH) : Int := if h 149 x5 = (-1) then x4 + 1 else x4
def C_X7_bestFrom_6 (a2 : Int) (h : pH) (x3 : Int) (x4 : Int) (x5 : Int) : Prop := x5 < h 147 5
noncomputable def B_X7_bestFrom_6 (a2 : Int) (h : pH) (x3 : Int) (x4 : Int) (x5 : Int) : Int × Int × Int := (s_X7_bestFrom_1 a2 x3 x5 h, s_X7_bestFrom_2 x4 x5 h, x5 + 1)
noncomputable def P_X7_bestFrom_6 (a2 : Int) (h : pH) (x3 : Int) (x4 : Int) (x5 : Int) : Prop := ((x5 < h 147 5) → (0 ≤ x5 ∧ x5 < 8) ∧ (((h 149 x5 = (-1)) → ((fx_i (x4 + 1))))) ∧ (fx_i (x5 + 1)))
noncomputable def L_X7_bestFrom_6 (a2 : Int) (h : pH) (x3 : Int) (x4 : Int) (x5 : Int) : Int × Int × Int := fx_wh (σ := Int × Int × Int) (fun s => C_X7_bestFrom_6 a2 h s.1 s.2.1 s.2.2) (fun s => B_X7_bestFrom_6 a2 h s.1 s.2.1 s.2.2) (x3, x4, x5)
def O_X7_bestFrom_6 (a2 : Int) (h : pH) (x3 : Int) (x4 : Int) (x5 : Int) : Prop := fx_ok (σ := Int × Int × Int) (fun s => C_X7_bestFrom_6 a2 h s.1 s.2.1 s.2.2) (fun s => B_X7_bestFrom_6 a2 h s.1 s.2.1 s.2.2) (fun s => P_X7_bestFrom_6 a2 h s.1 s.2.1 s.2.2) (x3, x4, x5)
set_option maxHeartbeats 4000000 in
theorem lp_X7_bestFrom_6 (a2 : Int) (h : pH) (x3 : Int) (x4 : Int) (x5 : Int) {Q : Option pV → pH → Prop} (hp : O_X7_bestFrom_6 a2 h x3 x4 x5) (kk : ∀ us : List pV, WP 51 (31, [(9, 147), us.getD 0 pU, (0, a2), (0, (L_X7_bestFrom_6 a2 h x3 x4 x5).1), (0, (L_X7_bestFrom_6 a2 h x3 x4 x5).2.1), (0, (L_X7_bestFrom_6 a2 h x3 x4 x5).2.2), us.getD 1 pU, us.getD 2 pU, us.getD 3 pU, us.getD 4 pU], [], h) Q) : ∀ us : List pV, WP 51 (6, [(9, 147), us.getD 0 pU, (0, a2), (0, x3), (0, x4), (0, x5), us.getD 1 pU, us.getD 2 pU, us.getD 3 pU, us.getD 4 pU], [], h) Q := by
  refine WP.wh (σ := Int × Int × Int) (fun s => C_X7_bestFrom_6 a2 h s.1 s.2.1 s.2.2) (fun s => B_X7_bestFrom_6 a2 h s.1 s.2.1 s.2.2) (fun s => P_X7_bestFrom_6 a2 h s.1 s.2.1 s.2.2) (fun s us => (6, [(9, 147), us.getD 0 pU, (0, a2), (0, s.1), (0, s.2.1), (0, s.2.2), us.getD 1 pU, us.getD 2 pU, us.getD 3 pU, us.getD 4 pU], [], h)) (x3, x4, x5) hp ?_ ?_
  · intro s us hP hc kk
    obtain ⟨x3, x4, x5⟩ := s
    change P_X7_bestFrom_6 a2 h x3 x4 x5 at hP
    change x5 < h 147 5 at hc
    replace kk : ∀ (us' : List pV) (s' : Int × Int × Int), s' = B_X7_bestFrom_6 a2 h x3 x4 x5 → WP 51 (6, [(9, 147), us'.getD 0 pU, (0, a2), (0, s'.1), (0, s'.2.1), (0, s'.2.2), us'.getD 1 pU, us'.getD 2 pU, us'.getD 3 pU, us'.getD 4 pU], [], h) Q := fun us' s' e => by subst e; exact kk us'
    unfold P_X7_bestFrom_6 at hP
    obtain ⟨o3, q9, o10⟩ := hP hc
    show WP 51 (6, [(9, 147), us.getD 0 pU, (0, a2), (0, x3), (0, x4), (0, x5), us.getD 1 pU, us.getD 2 pU, us.getD 3 pU, us.getD 4 pU], [], h) Q
    refine WP.iload rfl rfl ?_
    refine WP.aload_n rfl rfl ⟨by decide, by decide⟩ ?_
    refine WP.getI rfl rfl ?_
    refine WP.ni_ge rfl (fun c2 => ?_) (fun c2 => ?_)
    · exact absurd hc (Int.not_lt.mpr c2)
    · refine WP.aload_n rfl rfl ⟨by decide, by decide⟩ ?_
      refine WP.getRF (b := 149) rfl rfl rfl ?_
      refine WP.iload rfl rfl ?_
      refine WP.iaload rfl ⟨by decide, by decide, by decide⟩ o3 ?_
      refine WP.iconst rfl ?_
      have k4 : ∀ Q' : Option pV → pH → Prop, (WP 51 (29, [(9, 147), us.getD 0 pU, (0, a2), (0, s_X7_bestFrom_1 a2 x3 x5 h), (0, s_X7_bestFrom_2 x4 x5 h), (0, x5), us.getD 1 pU, us.getD 2 pU, us.getD 3 pU, us.getD 4 pU], [], h) Q') → WP 51 (15, [(9, 147), us.getD 0 pU, (0, a2), (0, x3), (0, x4), (0, x5), us.getD 1 pU, us.getD 2 pU, us.getD 3 pU, us.getD 4 pU], [(0, (-1)), (0, h 149 x5)], h) Q' := fun Q' kk => by
        have q7 := q9
        refine WP.ni_ne rfl (fun c5 => ?_) (fun c5 => ?_)
        · refine WP.iload_n rfl rfl ?_
          refine WP.iconst rfl ?_
          refine WP.aload_n rfl rfl ⟨by decide, by decide⟩ ?_
          refine WP.getRF (b := 149) rfl rfl rfl ?_
          refine WP.iload rfl rfl ?_
          refine WP.iaload rfl ⟨by decide, by decide, by decide⟩ o3 ?_
          refine WP.ishl rfl ?_
          refine WP.iload_n rfl rfl ?_
          refine WP.iand rfl ?_
          refine WP.ior rfl ?_
          refine WP.istore_n (L' := [(9, 147), us.getD 0 pU, (0, a2), (0, pm_or x3 (pm_and (pm_shl 1 (h 149 x5)) a2)), (0, x4), (0, x5), us.getD 1 pU, us.getD 2 pU, us.getD 3 pU, us.getD 4 pU]) rfl rfl ?_
          have e := kk; simp only [s_X7_bestFrom_1, s_X7_bestFrom_2, if_neg (c5)] at e ⊢; exact e
        · have o6 := q7 c5
          refine WP.iincE (L' := [(9, 147), us.getD 0 pU, (0, a2), (0, x3), (0, x4 + 1), (0, x5), us.getD 1 pU, us.getD 2 pU, us.getD 3 pU, us.getD 4 pU]) rfl rfl o6 rfl ?_
          refine WP.goto rfl ?_
          have e := kk; simp only [s_X7_bestFrom_1, s_X7_bestFrom_2, if_pos c5] at e ⊢; exact e
      refine k4 _ ?_
      refine WP.iincE (L' := [(9, 147), us.getD 0 pU, (0, a2), (0, s_X7_bestFrom_1 a2 x3 x5 h), (0, s_X7_bestFrom_2 x4 x5 h), (0, x5 + 1), us.getD 1 pU, us.getD 2 pU, us.getD 3 pU, us.getD 4 pU]) rfl rfl o10 rfl ?_
      refine WP.goto rfl ?_
      exact kk [us.getD 0 pU, us.getD 1 pU, us.getD 2 pU, us.getD 3 pU, us.getD 4 pU] (s_X7_bestFrom_1 a2 x3 x5 h, s_X7_bestFrom_2 x4 x5 h, x5 + 1) (rfl)
  · intro hP hc
    generalize hs : (L_X7_bestFrom_6 a2 h x3 x4 x5 : Int × Int × Int) = s at kk
    change P_X7_bestFrom_6 a2 h (L_X7_bestFrom_6 a2 h x3 x4 x5).1 (L_X7_bestFrom_6 a2 h x3 x4 x5).2.1 (L_X7_bestFrom_6 a2 h x3 x4 x5).2.2 at hP
    change ¬ C_X7_bestFrom_6 a2 h (L_X7_bestFrom_6 a2 h x3 x4 x5).1 (L_X7_bestFrom_6 a2 h x3 x4 x5).2.1 (L_X7_bestFrom_6 a2 h x3 x4 x5).2.2 at hc
    intro us
    show WP 51 (6, [(9, 147), us.getD 0 pU, (0, a2), (0, (L_X7_bestFrom_6 a2 h x3 x4 x5).1), (0, (L_X7_bestFrom_6 a2 h x3 x4 x5).2.1), (0, (L_X7_bestFrom_6 a2 h x3 x4 x5).2.2), us.getD 1 pU, us.getD 2 pU, us.getD 3 pU, us.getD 4 pU], [], h) Q
    rw [hs] at hP hc ⊢
    obtain ⟨x3, x4, x5⟩ := s
    change P_X7_bestFrom_6 a2 h x3 x4 x5 at hP
    change ¬ (x5 < h 147 5) at hc
    unfold P_X7_bestFrom_6 at hP
    show WP 51 (6, [(9, 147), us.getD 0 pU, (0, a2), (0, x3), (0, x4), (0, x5), us.getD 1 pU, us.getD 2 pU, us.getD 3 pU, us.getD 4 pU], [], h) Q
    refine WP.iload rfl rfl ?_
    refine WP.aload_n rfl rfl ⟨by decide, by decide⟩ ?_
    refine WP.getI rfl rfl ?_
    refine WP.ni_ge rfl (fun c1 => ?_) (fun c1 => ?_)
    · exact kk [us.getD 0 pU, us.getD 1 pU, us.getD 2 pU, us.getD 3 pU, us.getD 4 pU]
    · exact absurd (show x5 < h 147 5 from c1) hc
noncomputable def s_X7_bestFrom_3 (a1 : Int) (a2 : Int) (h : pH) : Int := (L_X7_bestFrom_6 a2 h 0 0 a1).1
noncomputable def s_X7_bestFrom_4 (a1 : Int) (a2 : Int) (h : pH) : Int := (L_X7_bestFrom_6 a2 h 0 0 a1).2.1
noncomputable def s_X7_bestFrom_5 (a1 : Int) (a2 : Int) (h : pH) : Int := (L_X7_bestFrom_6 a2 h 0 0 a1).2.2
noncomputable def s_X7_bestFrom_6 (a2 : Int) (y3 : Int) (x4 : Int) (x7 : Int) (h : pH) : Int := if pm_and (pm_shr y3 (h 152 x7)) 1 = 1 then x4 else if x4 ≤ 0 then x4 else if pm_and (pm_shr a2 (h 152 x7)) 1 = 1 then x4 + (-1) else x4
noncomputable def s_X7_bestFrom_7 (a2 : Int) (y3 : Int) (x4 : Int) (x5 : Int) (x7 : Int) (h : pH) : Int := if pm_and (pm_shr y3 (h 152 x7)) 1 = 1 then x5 + (1099511627776 - (h 151 (h 152 x7))) else if x4 ≤ 0 then x5 else if pm_and (pm_shr a2 (h 152 x7)) 1 = 1 then x5 + (1099511627776 - (h 151 (h 152 x7))) else x5
def C_X7_bestFrom_35 (a2 : Int) (y3 : Int) (h : pH) (x4 : Int) (x5 : Int) (x7 : Int) : Prop := x7 < h 147 6
noncomputable def B_X7_bestFrom_35 (a2 : Int) (y3 : Int) (h : pH) (x4 : Int) (x5 : Int) (x7 : Int) : Int × Int × Int := (s_X7_bestFrom_6 a2 y3 x4 x7 h, s_X7_bestFrom_7 a2 y3 x4 x5 x7 h, x7 + 1)
noncomputable def P_X7_bestFrom_35 (a2 : Int) (y3 : Int) (h : pH) (x4 : Int) (x5 : Int) (x7 : Int) : Prop := ((x7 < h 147 6) → (0 ≤ x7 ∧ x7 < 10) ∧ ((((pm_and (pm_shr y3 (h 152 x7)) 1 = 1) → ((P_X7_worth (h 152 x7) h) ∧ (fx_l (x5 + (1099511627776 - (h 151 (h 152 x7))))))) ∧ ((¬ (pm_and (pm_shr y3 (h 152 x7)) 1 = 1)) → (((0 < x4) → (((pm_and (pm_shr a2 (h 152 x7)) 1 = 1) → ((P_X7_worth (h 152 x7) h) ∧ (fx_l (x5 + (1099511627776 - (h 151 (h 152 x7))))) ∧ (fx_i (x4 + (-1))))))))))) ∧ (fx_i (x7 + 1)))
noncomputable def L_X7_bestFrom_35 (a2 : Int) (y3 : Int) (h : pH) (x4 : Int) (x5 : Int) (x7 : Int) : Int × Int × Int := fx_wh (σ := Int × Int × Int) (fun s => C_X7_bestFrom_35 a2 y3 h s.1 s.2.1 s.2.2) (fun s => B_X7_bestFrom_35 a2 y3 h s.1 s.2.1 s.2.2) (x4, x5, x7)
def O_X7_bestFrom_35 (a2 : Int) (y3 : Int) (h : pH) (x4 : Int) (x5 : Int) (x7 : Int) : Prop := fx_ok (σ := Int × Int × Int) (fun s => C_X7_bestFrom_35 a2 y3 h s.1 s.2.1 s.2.2) (fun s => B_X7_bestFrom_35 a2 y3 h s.1 s.2.1 s.2.2) (fun s => P_X7_bestFrom_35 a2 y3 h s.1 s.2.1 s.2.2) (x4, x5, x7)
set_option maxHeartbeats 4000000 in
theorem lp_X7_bestFrom_35 (a2 : Int) (y3 : Int) (h : pH) (x4 : Int) (x5 : Int) (x7 : Int) {Q : Option pV → pH → Prop} (hp : O_X7_bestFrom_35 a2 y3 h x4 x5 x7) (kk : ∀ us : List pV, WP 51 (82, [(9, 147), us.getD 0 pU, (0, a2), (0, y3), (0, (L_X7_bestFrom_35 a2 y3 h x4 x5 x7).1), (1, (L_X7_bestFrom_35 a2 y3 h x4 x5 x7).2.1), pU, (0, (L_X7_bestFrom_35 a2 y3 h x4 x5 x7).2.2), us.getD 1 pU, us.getD 2 pU], [], h) Q) : ∀ us : List pV, WP 51 (35, [(9, 147), us.getD 0 pU, (0, a2), (0, y3), (0, x4), (1, x5), pU, (0, x7), us.getD 1 pU, us.getD 2 pU], [], h) Q := by
  refine WP.wh (σ := Int × Int × Int) (fun s => C_X7_bestFrom_35 a2 y3 h s.1 s.2.1 s.2.2) (fun s => B_X7_bestFrom_35 a2 y3 h s.1 s.2.1 s.2.2) (fun s => P_X7_bestFrom_35 a2 y3 h s.1 s.2.1 s.2.2) (fun s us => (35, [(9, 147), us.getD 0 pU, (0, a2), (0, y3), (0, s.1), (1, s.2.1), pU, (0, s.2.2), us.getD 1 pU, us.getD 2 pU], [], h)) (x4, x5, x7) hp ?_ ?_
  · intro s us hP hc kk
    obtain ⟨x4, x5, x7⟩ := s
    change P_X7_bestFrom_35 a2 y3 h x4 x5 x7 at hP
    change x7 < h 147 6 at hc
    replace kk : ∀ (us' : List pV) (s' : Int × Int × Int), s' = B_X7_bestFrom_35 a2 y3 h x4 x5 x7 → WP 51 (35, [(9, 147), us'.getD 0 pU, (0, a2), (0, y3), (0, s'.1), (1, s'.2.1), pU, (0, s'.2.2), us'.getD 1 pU, us'.getD 2 pU], [], h) Q := fun us' s' e => by subst e; exact kk us'
    unfold P_X7_bestFrom_35 at hP
    obtain ⟨o15, q32, o33⟩ := hP hc
    show WP 51 (35, [(9, 147), us.getD 0 pU, (0, a2), (0, y3), (0, x4), (1, x5), pU, (0, x7), us.getD 1 pU, us.getD 2 pU], [], h) Q
    refine WP.iload rfl rfl ?_
    refine WP.aload_n rfl rfl ⟨by decide, by decide⟩ ?_
    refine WP.getI rfl rfl ?_
    refine WP.ni_ge rfl (fun c14 => ?_) (fun c14 => ?_)
    · exact absurd hc (Int.not_lt.mpr c14)
    · refine WP.aload_n rfl rfl ⟨by decide, by decide⟩ ?_
      refine WP.getRF (b := 152) rfl rfl rfl ?_
      refine WP.iload rfl rfl ?_
      refine WP.iaload rfl ⟨by decide, by decide, by decide⟩ o15 ?_
      refine WP.istore (L' := [(9, 147), us.getD 0 pU, (0, a2), (0, y3), (0, x4), (1, x5), pU, (0, x7), (0, h 152 x7), us.getD 2 pU]) rfl rfl ?_
      refine WP.iload_n rfl rfl ?_
      refine WP.iload rfl rfl ?_
      refine WP.ishr rfl ?_
      refine WP.iconst rfl ?_
      refine WP.iand rfl ?_
      refine WP.iconst rfl ?_
      have k16 : ∀ Q' : Option pV → pH → Prop, (WP 51 (54, [(9, 147), us.getD 0 pU, (0, a2), (0, y3), (0, x4), (1, x5), pU, (0, x7), (0, h 152 x7), us.getD 2 pU], [(0, if pm_and (pm_shr y3 (h 152 x7)) 1 = 1 then 1 else 0)], h) Q') → WP 51 (50, [(9, 147), us.getD 0 pU, (0, a2), (0, y3), (0, x4), (1, x5), pU, (0, x7), (0, h 152 x7), us.getD 2 pU], [(0, 1), (0, pm_and (pm_shr y3 (h 152 x7)) 1)], h) Q' := fun Q' kk => by
        refine WP.ni_ne rfl (fun c17 => ?_) (fun c17 => ?_)
        · refine WP.iconst rfl ?_
          have e := kk; simp only [if_neg (c17), if_neg (show ¬ (pm_and (pm_shr y3 (h 152 x7)) 1 = 1) from c17)] at e ⊢; exact e
        · refine WP.iconst rfl ?_
          refine WP.goto rfl ?_
          have e := kk; simp only [if_pos c17, if_pos (show pm_and (pm_shr y3 (h 152 x7)) 1 = 1 from c17)] at e ⊢; exact e
      refine k16 _ ?_
      refine WP.istore (L' := [(9, 147), us.getD 0 pU, (0, a2), (0, y3), (0, x4), (1, x5), pU, (0, x7), (0, h 152 x7), (0, if pm_and (pm_shr y3 (h 152 x7)) 1 = 1 then 1 else 0)]) rfl rfl ?_
      refine WP.iload rfl rfl ?_
      have k19 : ∀ Q' : Option pV → pH → Prop, (WP 51 (80, [(9, 147), us.getD 0 pU, (0, a2), (0, y3), (0, s_X7_bestFrom_6 a2 y3 x4 x7 h), (1, s_X7_bestFrom_7 a2 y3 x4 x5 x7 h), pU, (0, x7), (0, h 152 x7), (0, if pm_and (pm_shr y3 (h 152 x7)) 1 = 1 then 1 else 0)], [], h) Q') → WP 51 (56, [(9, 147), us.getD 0 pU, (0, a2), (0, y3), (0, x4), (1, x5), pU, (0, x7), (0, h 152 x7), (0, if pm_and (pm_shr y3 (h 152 x7)) 1 = 1 then 1 else 0)], [(0, if pm_and (pm_shr y3 (h 152 x7)) 1 = 1 then 1 else 0)], h) Q' := fun Q' kk => by
        have q30 := q32
        refine WP.nb_eq rfl (fun c20 => ?_) (fun c20 => ?_)
        · have q29 := q30.2 c20
          refine WP.iload rfl rfl ?_
          refine WP.nz_le rfl (fun c23 => ?_) (fun c23 => ?_)
          · have e := kk; simp only [s_X7_bestFrom_6, s_X7_bestFrom_7, if_neg (c20), if_pos c23] at e ⊢; exact e
          · have q28 := q29 c23
            refine WP.iload_n rfl rfl ?_
            refine WP.iload rfl rfl ?_
            refine WP.ishr rfl ?_
            refine WP.iconst rfl ?_
            refine WP.iand rfl ?_
            refine WP.iconst rfl ?_
            refine WP.ni_ne rfl (fun c24 => ?_) (fun c24 => ?_)
            · have e := kk; simp only [s_X7_bestFrom_6, s_X7_bestFrom_7, if_neg (c20), if_neg (Int.not_le.mpr c23), if_neg (c24)] at e ⊢; exact e
            · obtain ⟨o25, o26, o27⟩ := q28 c24
              refine WP.lload rfl rfl ?_
              refine WP.aload_n rfl rfl ⟨by decide, by decide⟩ ?_
              refine WP.iload rfl rfl ?_
              refine WP.callF (c_X7_worth (h 152 x7) h o25) rfl rfl (pm_cok rfl rfl (Or.inr ⟨_, _, rfl⟩) rfl rfl) rfl rfl ?_
              show WP 51 (77, [(9, 147), us.getD 0 pU, (0, a2), (0, y3), (0, x4), (1, x5), pU, (0, x7), (0, h 152 x7), (0, if pm_and (pm_shr y3 (h 152 x7)) 1 = 1 then 1 else 0)], [(1, 1099511627776 - (h 151 (h 152 x7))), (1, x5)], h) Q'
              refine WP.laddE rfl o26 ?_
              refine WP.lstore (L' := [(9, 147), us.getD 0 pU, (0, a2), (0, y3), (0, x4), (1, x5 + (1099511627776 - (h 151 (h 152 x7)))), pU, (0, x7), (0, h 152 x7), (0, if pm_and (pm_shr y3 (h 152 x7)) 1 = 1 then 1 else 0)]) rfl rfl ?_
              refine WP.iincE (L' := [(9, 147), us.getD 0 pU, (0, a2), (0, y3), (0, x4 + (-1)), (1, x5 + (1099511627776 - (h 151 (h 152 x7)))), pU, (0, x7), (0, h 152 x7), (0, if pm_and (pm_shr y3 (h 152 x7)) 1 = 1 then 1 else 0)]) rfl rfl o27 rfl ?_
              have e := kk; simp only [s_X7_bestFrom_6, s_X7_bestFrom_7, if_neg (c20), if_neg (Int.not_le.mpr c23), if_pos c24] at e ⊢; exact e
        · obtain ⟨o21, o22⟩ := q30.1 c20
          refine WP.lload rfl rfl ?_
          refine WP.aload_n rfl rfl ⟨by decide, by decide⟩ ?_
          refine WP.iload rfl rfl ?_
          refine WP.callF (c_X7_worth (h 152 x7) h o21) rfl rfl (pm_cok rfl rfl (Or.inr ⟨_, _, rfl⟩) rfl rfl) rfl rfl ?_
          show WP 51 (61, [(9, 147), us.getD 0 pU, (0, a2), (0, y3), (0, x4), (1, x5), pU, (0, x7), (0, h 152 x7), (0, if pm_and (pm_shr y3 (h 152 x7)) 1 = 1 then 1 else 0)], [(1, 1099511627776 - (h 151 (h 152 x7))), (1, x5)], h) Q'
          refine WP.laddE rfl o22 ?_
          refine WP.lstore (L' := [(9, 147), us.getD 0 pU, (0, a2), (0, y3), (0, x4), (1, x5 + (1099511627776 - (h 151 (h 152 x7)))), pU, (0, x7), (0, h 152 x7), (0, if pm_and (pm_shr y3 (h 152 x7)) 1 = 1 then 1 else 0)]) rfl rfl ?_
          refine WP.goto rfl ?_
          have e := kk; simp only [s_X7_bestFrom_6, s_X7_bestFrom_7, if_pos c20] at e ⊢; exact e
      refine k19 _ ?_
      refine WP.iincE (L' := [(9, 147), us.getD 0 pU, (0, a2), (0, y3), (0, s_X7_bestFrom_6 a2 y3 x4 x7 h), (1, s_X7_bestFrom_7 a2 y3 x4 x5 x7 h), pU, (0, x7 + 1), (0, h 152 x7), (0, if pm_and (pm_shr y3 (h 152 x7)) 1 = 1 then 1 else 0)]) rfl rfl o33 rfl ?_
      refine WP.goto rfl ?_
      exact kk [us.getD 0 pU, (0, h 152 x7), (0, if pm_and (pm_shr y3 (h 152 x7)) 1 = 1 then 1 else 0)] (s_X7_bestFrom_6 a2 y3 x4 x7 h, s_X7_bestFrom_7 a2 y3 x4 x5 x7 h, x7 + 1) (rfl)
  · intro hP hc
    generalize hs : (L_X7_bestFrom_35 a2 y3 h x4 x5 x7 : Int × Int × Int) = s at kk
    change P_X7_bestFrom_35 a2 y3 h (L_X7_bestFrom_35 a2 y3 h x4 x5 x7).1 (L_X7_bestFrom_35 a2 y3 h x4 x5 x7).2.1 (L_X7_bestFrom_35 a2 y3 h x4 x5 x7).2.2 at hP
    change ¬ C_X7_bestFrom_35 a2 y3 h (L_X7_bestFrom_35 a2 y3 h x4 x5 x7).1 (L_X7_bestFrom_35 a2 y3 h x4 x5 x7).2.1 (L_X7_bestFrom_35 a2 y3 h x4 x5 x7).2.2 at hc
    intro us
    show WP 51 (35, [(9, 147), us.getD 0 pU, (0, a2), (0, y3), (0, (L_X7_bestFrom_35 a2 y3 h x4 x5 x7).1), (1, (L_X7_bestFrom_35 a2 y3 h x4 x5 x7).2.1), pU, (0, (L_X7_bestFrom_35 a2 y3 h x4 x5 x7).2.2), us.getD 1 pU, us.getD 2 pU], [], h) Q
    rw [hs] at hP hc ⊢
    obtain ⟨x4, x5, x7⟩ := s
    change P_X7_bestFrom_35 a2 y3 h x4 x5 x7 at hP
    change ¬ (x7 < h 147 6) at hc
    unfold P_X7_bestFrom_35 at hP
    show WP 51 (35, [(9, 147), us.getD 0 pU, (0, a2), (0, y3), (0, x4), (1, x5), pU, (0, x7), us.getD 1 pU, us.getD 2 pU], [], h) Q
    refine WP.iload rfl rfl ?_
    refine WP.aload_n rfl rfl ⟨by decide, by decide⟩ ?_
    refine WP.getI rfl rfl ?_
    refine WP.ni_ge rfl (fun c13 => ?_) (fun c13 => ?_)
    · exact kk [us.getD 0 pU, us.getD 1 pU, us.getD 2 pU]
    · exact absurd (show x7 < h 147 6 from c13) hc
noncomputable def s_X7_bestFrom_8 (a1 : Int) (a2 : Int) (h : pH) : Int := (L_X7_bestFrom_35 a2 (s_X7_bestFrom_3 a1 a2 h) h (s_X7_bestFrom_4 a1 a2 h) 0 0).1
noncomputable def s_X7_bestFrom_9 (a1 : Int) (a2 : Int) (h : pH) : Int := (L_X7_bestFrom_35 a2 (s_X7_bestFrom_3 a1 a2 h) h (s_X7_bestFrom_4 a1 a2 h) 0 0).2.1
noncomputable def s_X7_bestFrom_10 (a1 : Int) (a2 : Int) (h : pH) : Int := (L_X7_bestFrom_35 a2 (s_X7_bestFrom_3 a1 a2 h) h (s_X7_bestFrom_4 a1 a2 h) 0 0).2.2
noncomputable def F_X7_bestFrom (a1 : Int) (a2 : Int) (h : pH) : Int := s_X7_bestFrom_9 a1 a2 h
noncomputable def P_X7_bestFrom (a1 : Int) (a2 : Int) (h : pH) : Prop := O_X7_bestFrom_6 a2 h 0 0 a1 ∧ (O_X7_bestFrom_35 a2 (s_X7_bestFrom_3 a1 a2 h) h (s_X7_bestFrom_4 a1 a2 h) 0 0)
set_option maxHeartbeats 4000000 in
theorem w_X7_bestFrom (a1 : Int) (a2 : Int) (h : pH) {Q : Option pV → pH → Prop} (hp : P_X7_bestFrom a1 a2 h) (kk : Q (some (1, F_X7_bestFrom a1 a2 h)) (h)) : WP 51 (0, [(9, 147), (0, a1), (0, a2), pU, pU, pU, pU, pU, pU, pU], [], h) Q := by
  unfold P_X7_bestFrom at hp
  obtain ⟨o11, o34⟩ := hp
  refine WP.iconst rfl ?_
  refine WP.istore_n (L' := [(9, 147), (0, a1), (0, a2), (0, 0), pU, pU, pU, pU, pU, pU]) rfl rfl ?_
  refine WP.iconst rfl ?_
  refine WP.istore (L' := [(9, 147), (0, a1), (0, a2), (0, 0), (0, 0), pU, pU, pU, pU, pU]) rfl rfl ?_
  refine WP.iload_n rfl rfl ?_
  refine WP.istore (L' := [(9, 147), (0, a1), (0, a2), (0, 0), (0, 0), (0, a1), pU, pU, pU, pU]) rfl rfl ?_
  refine lp_X7_bestFrom_6 a2 h 0 0 a1 o11 (fun us12 => ?_) [(0, a1), pU, pU, pU, pU]
  show WP 51 (31, [(9, 147), us12.getD 0 pU, (0, a2), (0, s_X7_bestFrom_3 a1 a2 h), (0, s_X7_bestFrom_4 a1 a2 h), (0, s_X7_bestFrom_5 a1 a2 h), us12.getD 1 pU, us12.getD 2 pU, us12.getD 3 pU, us12.getD 4 pU], [], h) Q
  refine WP.lconst rfl ?_
  refine WP.lstore (L' := [(9, 147), us12.getD 0 pU, (0, a2), (0, s_X7_bestFrom_3 a1 a2 h), (0, s_X7_bestFrom_4 a1 a2 h), (1, 0), pU, us12.getD 2 pU, us12.getD 3 pU, us12.getD 4 pU]) rfl rfl ?_
  refine WP.iconst rfl ?_
  refine WP.istore (L' := [(9, 147), us12.getD 0 pU, (0, a2), (0, s_X7_bestFrom_3 a1 a2 h), (0, s_X7_bestFrom_4 a1 a2 h), (1, 0), pU, (0, 0), us12.getD 3 pU, us12.getD 4 pU]) rfl rfl ?_
  refine lp_X7_bestFrom_35 a2 (s_X7_bestFrom_3 a1 a2 h) h (s_X7_bestFrom_4 a1 a2 h) 0 0 o34 (fun us35 => ?_) [us12.getD 0 pU, us12.getD 3 pU, us12.getD 4 pU]
  show WP 51 (82, [(9, 147), us35.getD 0 pU, (0, a2), (0, s_X7_bestFrom_3 a1 a2 h), (0, s_X7_bestFrom_8 a1 a2 h), (1, s_X7_bestFrom_9 a1 a2 h), pU, (0, s_X7_bestFrom_10 a1 a2 h), us35.getD 1 pU, us35.getD 2 pU], [], h) Q
  refine WP.lload rfl rfl ?_
  refine WP.retl rfl ?_; exact kk
theorem c_X7_bestFrom (a1 : Int) (a2 : Int) (h : pH) (hp : P_X7_bestFrom a1 a2 h) : CP 51 [(9, 147), (0, a1), (0, a2)] h (fun r h1 => r = some (1, F_X7_bestFrom a1 a2 h) ∧ h1 = h) := w_X7_bestFrom a1 a2 h hp ⟨rfl, rfl⟩
noncomputable def s_X8_supply_1 (a0 : Int) (a1 : Int) (h : pH) : Int := if h a0 5 ≤ h (a0 + 2) (Int.fmod a1 24) then fx_min (h a0 7) (fx_min (h a0 4) (h a0 6)) else fx_max 0 ((h a0 7) - (h a0 2))
noncomputable def s_X8_supply_2 (a0 : Int) (a1 : Int) (h : pH) : Int := fx_min (((pm_upd h a0 6 ((h a0 6) - (s_X8_supply_1 a0 a1 h))) a0 2) - ((h a0 7) - (s_X8_supply_1 a0 a1 h))) ((pm_upd h a0 6 ((h a0 6) - (s_X8_supply_1 a0 a1 h))) a0 4)
noncomputable def s_X8_supply_3 (a0 : Int) (a1 : Int) (h : pH) : Int := fx_min (s_X8_supply_2 a0 a1 h) (((pm_upd h a0 6 ((h a0 6) - (s_X8_supply_1 a0 a1 h))) a0 3) - ((pm_upd h a0 6 ((h a0 6) - (s_X8_supply_1 a0 a1 h))) a0 6))
noncomputable def s_X8_supply_4 (a0 : Int) (a1 : Int) (h : pH) : pH := pm_upd (pm_upd h a0 6 ((h a0 6) - (s_X8_supply_1 a0 a1 h))) a0 6 (((pm_upd h a0 6 ((h a0 6) - (s_X8_supply_1 a0 a1 h))) a0 6) + (s_X8_supply_3 a0 a1 h))
noncomputable def s_X8_supply_5 (a0 : Int) (a1 : Int) (h : pH) : pH := if h a0 5 ≤ h (a0 + 2) (Int.fmod a1 24) then pm_upd h a0 6 ((h a0 6) - (s_X8_supply_1 a0 a1 h)) else s_X8_supply_4 a0 a1 h
noncomputable def s_X8_supply_6 (a0 : Int) (a1 : Int) (h : pH) : Int := if h a0 5 ≤ h (a0 + 2) (Int.fmod a1 24) then (h a0 7) - (s_X8_supply_1 a0 a1 h) else ((h a0 7) - (s_X8_supply_1 a0 a1 h)) + (s_X8_supply_3 a0 a1 h)
noncomputable def s_X8_supply_7 (a0 : Int) (a1 : Int) (h : pH) : pH := pm_upd (s_X8_supply_5 a0 a1 h) a0 8 (pm_wl (((s_X8_supply_5 a0 a1 h) a0 8) + ((h (a0 + 2) (Int.fmod a1 24)) * (s_X8_supply_6 a0 a1 h))))
noncomputable def H_X8_supply (a0 : Int) (a1 : Int) (h : pH) : pH := s_X8_supply_7 a0 a1 h
noncomputable def P_X8_supply (a0 : Int) (a1 : Int) (h : pH) : Prop := P_X8_priceAt a0 a1 h ∧ (((¬ (h a0 5 ≤ h (a0 + 2) (Int.fmod a1 24))) → ((fx_i ((h a0 7) - (h a0 2)))))) ∧ (fx_i ((h a0 7) - (s_X8_supply_1 a0 a1 h))) ∧ (fx_i ((h a0 6) - (s_X8_supply_1 a0 a1 h))) ∧ (((¬ (h a0 5 ≤ h (a0 + 2) (Int.fmod a1 24))) → ((fx_i (((pm_upd h a0 6 ((h a0 6) - (s_X8_supply_1 a0 a1 h))) a0 2) - ((h a0 7) - (s_X8_supply_1 a0 a1 h)))) ∧ (fx_i (((pm_upd h a0 6 ((h a0 6) - (s_X8_supply_1 a0 a1 h))) a0 3) - ((pm_upd h a0 6 ((h a0 6) - (s_X8_supply_1 a0 a1 h))) a0 6))) ∧ (fx_i (((pm_upd h a0 6 ((h a0 6) - (s_X8_supply_1 a0 a1 h))) a0 6) + (s_X8_supply_3 a0 a1 h))) ∧ (fx_i (((h a0 7) - (s_X8_supply_1 a0 a1 h)) + (s_X8_supply_3 a0 a1 h)))))) ∧ (fx_l ((h (a0 + 2) (Int.fmod a1 24)) * (s_X8_supply_6 a0 a1 h)))
set_option maxHeartbeats 4000000 in
theorem w_X8_supply (a0 : Int) (a1 : Int) (h : pH) {Q : Option pV → pH → Prop} (hp : P_X8_supply a0 a1 h) (kk : Q (none) (H_X8_supply a0 a1 h)) : WP 57 (0, [(10, a0), (0, a1), pU, pU, pU, pU, pU], [], h) Q := by
  unfold P_X8_supply at hp
  obtain ⟨o1, q10, o11, o12, q21, o22⟩ := hp
  refine WP.aload_n rfl rfl ⟨by decide, by decide⟩ ?_
  refine WP.iload_n rfl rfl ?_
  refine WP.callF (c_X8_priceAt a0 a1 h o1) rfl rfl (pm_cok rfl rfl (Or.inr ⟨_, _, rfl⟩) rfl rfl) rfl rfl ?_
  show WP 57 (3, [(10, a0), (0, a1), pU, pU, pU, pU, pU], [(0, h (a0 + 2) (Int.fmod a1 24))], h) Q
  refine WP.istore_n (L' := [(10, a0), (0, a1), (0, h (a0 + 2) (Int.fmod a1 24)), pU, pU, pU, pU]) rfl rfl ?_
  refine WP.iload_n rfl rfl ?_
  refine WP.aload_n rfl rfl ⟨by decide, by decide⟩ ?_
  refine WP.getI rfl rfl ?_
  have k2 : ∀ Q' : Option pV → pH → Prop, (WP 57 (11, [(10, a0), (0, a1), (0, h (a0 + 2) (Int.fmod a1 24)), pU, pU, pU, pU], [(0, if h a0 5 ≤ h (a0 + 2) (Int.fmod a1 24) then 1 else 0)], h) Q') → WP 57 (7, [(10, a0), (0, a1), (0, h (a0 + 2) (Int.fmod a1 24)), pU, pU, pU, pU], [(0, h a0 5), (0, h (a0 + 2) (Int.fmod a1 24))], h) Q' := fun Q' kk => by
    refine WP.ni_lt rfl (fun c3 => ?_) (fun c3 => ?_)
    · refine WP.iconst rfl ?_
      have e := kk; simp only [if_pos c3, if_neg (show ¬ (h a0 5 ≤ h (a0 + 2) (Int.fmod a1 24)) from Int.not_le.mpr c3)] at e ⊢; exact e
    · refine WP.iconst rfl ?_
      refine WP.goto rfl ?_
      have e := kk; simp only [if_neg (Int.not_lt.mpr c3), if_pos (show h a0 5 ≤ h (a0 + 2) (Int.fmod a1 24) from c3)] at e ⊢; exact e
  refine k2 _ ?_
  refine WP.istore_n (L' := [(10, a0), (0, a1), (0, h (a0 + 2) (Int.fmod a1 24)), (0, if h a0 5 ≤ h (a0 + 2) (Int.fmod a1 24) then 1 else 0), pU, pU, pU]) rfl rfl ?_
  refine WP.iload_n rfl rfl ?_
  have k5 : ∀ Q' : Option pV → pH → Prop, (WP 57 (27, [(10, a0), (0, a1), (0, h (a0 + 2) (Int.fmod a1 24)), (0, if h a0 5 ≤ h (a0 + 2) (Int.fmod a1 24) then 1 else 0), pU, pU, pU], [(0, s_X8_supply_1 a0 a1 h)], h) Q') → WP 57 (13, [(10, a0), (0, a1), (0, h (a0 + 2) (Int.fmod a1 24)), (0, if h a0 5 ≤ h (a0 + 2) (Int.fmod a1 24) then 1 else 0), pU, pU, pU], [(0, if h a0 5 ≤ h (a0 + 2) (Int.fmod a1 24) then 1 else 0)], h) Q' := fun Q' kk => by
    have q8 := q10
    refine WP.nb_eq rfl (fun c6 => ?_) (fun c6 => ?_)
    · have o7 := q8 c6
      refine WP.iconst rfl ?_
      refine WP.aload_n rfl rfl ⟨by decide, by decide⟩ ?_
      refine WP.getI rfl rfl ?_
      refine WP.aload_n rfl rfl ⟨by decide, by decide⟩ ?_
      refine WP.getI rfl rfl ?_
      refine WP.isubE rfl o7 ?_
      refine WP.maxIF rfl rfl ?_
      have e := kk; simp only [s_X8_supply_1, if_neg (c6)] at e ⊢; exact e
    · refine WP.aload_n rfl rfl ⟨by decide, by decide⟩ ?_
      refine WP.getI rfl rfl ?_
      refine WP.aload_n rfl rfl ⟨by decide, by decide⟩ ?_
      refine WP.callF (c_X8_canGive a0 h) rfl rfl (pm_cok rfl rfl (Or.inr ⟨_, _, rfl⟩) rfl rfl) rfl rfl ?_
      show WP 57 (18, [(10, a0), (0, a1), (0, h (a0 + 2) (Int.fmod a1 24)), (0, if h a0 5 ≤ h (a0 + 2) (Int.fmod a1 24) then 1 else 0), pU, pU, pU], [(0, fx_min (h a0 4) (h a0 6)), (0, h a0 7)], h) Q'
      refine WP.minIF rfl rfl ?_
      refine WP.goto rfl ?_
      have e := kk; simp only [s_X8_supply_1, if_pos c6] at e ⊢; exact e
  refine k5 _ ?_
  refine WP.istore (L' := [(10, a0), (0, a1), (0, h (a0 + 2) (Int.fmod a1 24)), (0, if h a0 5 ≤ h (a0 + 2) (Int.fmod a1 24) then 1 else 0), (0, s_X8_supply_1 a0 a1 h), pU, pU]) rfl rfl ?_
  refine WP.aload_n rfl rfl ⟨by decide, by decide⟩ ?_
  refine WP.getI rfl rfl ?_
  refine WP.iload rfl rfl ?_
  refine WP.isubE rfl o11 ?_
  refine WP.istore (L' := [(10, a0), (0, a1), (0, h (a0 + 2) (Int.fmod a1 24)), (0, if h a0 5 ≤ h (a0 + 2) (Int.fmod a1 24) then 1 else 0), (0, s_X8_supply_1 a0 a1 h), (0, (h a0 7) - (s_X8_supply_1 a0 a1 h)), pU]) rfl rfl ?_
  refine WP.aload_n rfl rfl ⟨by decide, by decide⟩ ?_
  refine WP.dup rfl (by decide) ?_
  refine WP.getI rfl rfl ?_
  refine WP.iload rfl rfl ?_
  refine WP.isubE rfl o12 ?_
  refine WP.putI rfl rfl ?_
  refine WP.iload_n rfl rfl ?_
  have k13 : ∀ Q' : Option pV → pH → Prop, (∀ us20 : List pV, WP 57 (65, [(10, a0), (0, a1), (0, h (a0 + 2) (Int.fmod a1 24)), (0, if h a0 5 ≤ h (a0 + 2) (Int.fmod a1 24) then 1 else 0), (0, s_X8_supply_1 a0 a1 h), (0, s_X8_supply_6 a0 a1 h), us20.getD 0 pU], [], s_X8_supply_5 a0 a1 h) Q') → WP 57 (40, [(10, a0), (0, a1), (0, h (a0 + 2) (Int.fmod a1 24)), (0, if h a0 5 ≤ h (a0 + 2) (Int.fmod a1 24) then 1 else 0), (0, s_X8_supply_1 a0 a1 h), (0, (h a0 7) - (s_X8_supply_1 a0 a1 h)), pU], [(0, if h a0 5 ≤ h (a0 + 2) (Int.fmod a1 24) then 1 else 0)], pm_upd h a0 6 ((h a0 6) - (s_X8_supply_1 a0 a1 h))) Q' := fun Q' kk => by
    have q19 := q21
    refine WP.nb_ne rfl (fun c14 => ?_) (fun c14 => ?_)
    · have e := kk [pU]; simp only [s_X8_supply_6, s_X8_supply_5, if_pos c14] at e ⊢; exact e
    · obtain ⟨o15, o16, o17, o18⟩ := q19 c14
      refine WP.aload_n rfl rfl ⟨by decide, by decide⟩ ?_
      refine WP.getI rfl rfl ?_
      refine WP.iload rfl rfl ?_
      refine WP.isubE rfl o15 ?_
      refine WP.aload_n rfl rfl ⟨by decide, by decide⟩ ?_
      refine WP.getI rfl rfl ?_
      refine WP.minIF rfl rfl ?_
      show WP 57 (48, [(10, a0), (0, a1), (0, h (a0 + 2) (Int.fmod a1 24)), (0, if h a0 5 ≤ h (a0 + 2) (Int.fmod a1 24) then 1 else 0), (0, s_X8_supply_1 a0 a1 h), (0, (h a0 7) - (s_X8_supply_1 a0 a1 h)), pU], [(0, s_X8_supply_2 a0 a1 h)], pm_upd h a0 6 ((h a0 6) - (s_X8_supply_1 a0 a1 h))) Q'
      refine WP.aload_n rfl rfl ⟨by decide, by decide⟩ ?_
      refine WP.getI rfl rfl ?_
      refine WP.aload_n rfl rfl ⟨by decide, by decide⟩ ?_
      refine WP.getI rfl rfl ?_
      refine WP.isubE rfl o16 ?_
      refine WP.minIF rfl rfl ?_
      show WP 57 (54, [(10, a0), (0, a1), (0, h (a0 + 2) (Int.fmod a1 24)), (0, if h a0 5 ≤ h (a0 + 2) (Int.fmod a1 24) then 1 else 0), (0, s_X8_supply_1 a0 a1 h), (0, (h a0 7) - (s_X8_supply_1 a0 a1 h)), pU], [(0, s_X8_supply_3 a0 a1 h)], pm_upd h a0 6 ((h a0 6) - (s_X8_supply_1 a0 a1 h))) Q'
      refine WP.istore (L' := [(10, a0), (0, a1), (0, h (a0 + 2) (Int.fmod a1 24)), (0, if h a0 5 ≤ h (a0 + 2) (Int.fmod a1 24) then 1 else 0), (0, s_X8_supply_1 a0 a1 h), (0, (h a0 7) - (s_X8_supply_1 a0 a1 h)), (0, s_X8_supply_3 a0 a1 h)]) rfl rfl ?_
      refine WP.aload_n rfl rfl ⟨by decide, by decide⟩ ?_
      refine WP.dup rfl (by decide) ?_
      refine WP.getI rfl rfl ?_
      refine WP.iload rfl rfl ?_
      refine WP.iaddE rfl o17 ?_
      refine WP.putI rfl rfl ?_
      show WP 57 (61, [(10, a0), (0, a1), (0, h (a0 + 2) (Int.fmod a1 24)), (0, if h a0 5 ≤ h (a0 + 2) (Int.fmod a1 24) then 1 else 0), (0, s_X8_supply_1 a0 a1 h), (0, (h a0 7) - (s_X8_supply_1 a0 a1 h)), (0, s_X8_supply_3 a0 a1 h)], [], s_X8_supply_4 a0 a1 h) Q'
      refine WP.iload rfl rfl ?_
      refine WP.iload rfl rfl ?_
      refine WP.iaddE rfl o18 ?_
      refine WP.istore (L' := [(10, a0), (0, a1), (0, h (a0 + 2) (Int.fmod a1 24)), (0, if h a0 5 ≤ h (a0 + 2) (Int.fmod a1 24) then 1 else 0), (0, s_X8_supply_1 a0 a1 h), (0, ((h a0 7) - (s_X8_supply_1 a0 a1 h)) + (s_X8_supply_3 a0 a1 h)), (0, s_X8_supply_3 a0 a1 h)]) rfl rfl ?_
      have e := kk [(0, s_X8_supply_3 a0 a1 h)]; simp only [s_X8_supply_6, s_X8_supply_5, if_neg (c14)] at e ⊢; exact e
  refine k13 _ (fun us20 => ?_)
  refine WP.aload_n rfl rfl ⟨by decide, by decide⟩ ?_
  refine WP.dup rfl (by decide) ?_
  refine WP.getJ rfl rfl ?_
  refine WP.iload_n rfl rfl ?_
  refine WP.i2l rfl ?_
  refine WP.iload rfl rfl ?_
  refine WP.i2l rfl ?_
  refine WP.lmulE rfl o22 ?_
  refine WP.ladd rfl ?_
  refine WP.putJ rfl rfl ?_
  show WP 57 (75, [(10, a0), (0, a1), (0, h (a0 + 2) (Int.fmod a1 24)), (0, if h a0 5 ≤ h (a0 + 2) (Int.fmod a1 24) then 1 else 0), (0, s_X8_supply_1 a0 a1 h), (0, s_X8_supply_6 a0 a1 h), us20.getD 0 pU], [], s_X8_supply_7 a0 a1 h) Q
  refine WP.retv rfl ?_; exact kk
theorem c_X8_supply (a0 : Int) (a1 : Int) (h : pH) (hp : P_X8_supply a0 a1 h) : CP 57 [(10, a0), (0, a1)] h (fun r h1 => r = none ∧ h1 = H_X8_supply a0 a1 h) := w_X8_supply a0 a1 h hp ⟨rfl, rfl⟩
noncomputable def H_X9_putUnit (a0 : Int) (a1 : Int) (h : pH) : pH := pm_upd (H_X9_put a0 a1 h) a0 12 0
noncomputable def P_X9_putUnit (a0 : Int) (a1 : Int) (h : pH) : Prop := P_X9_put a0 a1 h
set_option maxHeartbeats 4000000 in
theorem w_X9_putUnit (a0 : Int) (a1 : Int) (h : pH) {Q : Option pV → pH → Prop} (hp : P_X9_putUnit a0 a1 h) (kk : Q (none) (H_X9_putUnit a0 a1 h)) : WP 69 (0, [(11, a0), (0, a1)], [], h) Q := by
  unfold P_X9_putUnit at hp
  have o1 := hp
  refine WP.aload_n rfl rfl ⟨by decide, by decide⟩ ?_
  refine WP.iload_n rfl rfl ?_
  refine WP.callF (c_X9_put a0 a1 h o1) rfl rfl (pm_cok rfl rfl (Or.inr ⟨_, _, rfl⟩) rfl rfl) rfl rfl ?_
  show WP 69 (3, [(11, a0), (0, a1)], [], H_X9_put a0 a1 h) Q
  refine WP.aload_n rfl rfl ⟨by decide, by decide⟩ ?_
  refine WP.iconst rfl ?_
  refine WP.putZ rfl rfl (by decide) ?_
  refine WP.retv rfl ?_; exact kk
theorem c_X9_putUnit (a0 : Int) (a1 : Int) (h : pH) (hp : P_X9_putUnit a0 a1 h) : CP 69 [(11, a0), (0, a1)] h (fun r h1 => r = none ∧ h1 = H_X9_putUnit a0 a1 h) := w_X9_putUnit a0 a1 h hp ⟨rfl, rfl⟩
noncomputable def s_X9_putWaiting_1 (a0 : Int) (h : pH) : pH := pm_upd (H_X9_put a0 (-(h (a0 + 3) ((h a0 7) - 1))) h) a0 7 (((H_X9_put a0 (-(h (a0 + 3) ((h a0 7) - 1))) h) a0 7) - 1)
def C_X9_putWaiting_0 (a0 : Int) (a1 : Int) (h : pH) : Prop := 0 < h a0 7 ∧ a1 ≤ F_X9_binding (h (a0 + 3) ((h a0 7) - 1)) h
noncomputable def B_X9_putWaiting_0 (a0 : Int) (a1 : Int) (h : pH) : pH := (s_X9_putWaiting_1 a0 h)
noncomputable def P_X9_putWaiting_0 (a0 : Int) (a1 : Int) (h : pH) : Prop := (((0 < h a0 7) → ((fx_i ((h a0 7) - 1)) ∧ (0 ≤ (h a0 7) - 1 ∧ (h a0 7) - 1 < 60)))) ∧ ((0 < h a0 7 ∧ a1 ≤ F_X9_binding (h (a0 + 3) ((h a0 7) - 1)) h) → ((fx_i ((h a0 7) - 1)) ∧ (0 ≤ (h a0 7) - 1 ∧ (h a0 7) - 1 < 60) ∧ (fx_i (-(h (a0 + 3) ((h a0 7) - 1)))) ∧ (P_X9_put a0 (-(h (a0 + 3) ((h a0 7) - 1))) h) ∧ (fx_i (((H_X9_put a0 (-(h (a0 + 3) ((h a0 7) - 1))) h) a0 7) - 1))))
noncomputable def L_X9_putWaiting_0 (a0 : Int) (a1 : Int) (h : pH) : pH := fx_wh (σ := pH) (fun s => C_X9_putWaiting_0 a0 a1 s) (fun s => B_X9_putWaiting_0 a0 a1 s) h
def O_X9_putWaiting_0 (a0 : Int) (a1 : Int) (h : pH) : Prop := fx_ok (σ := pH) (fun s => C_X9_putWaiting_0 a0 a1 s) (fun s => B_X9_putWaiting_0 a0 a1 s) (fun s => P_X9_putWaiting_0 a0 a1 s) h
set_option maxHeartbeats 4000000 in
theorem lp_X9_putWaiting_0 (a0 : Int) (a1 : Int) (h : pH) {Q : Option pV → pH → Prop} (hp : O_X9_putWaiting_0 a0 a1 h) (kk : ∀ us : List pV, WP 72 (30, [(11, a0), (0, a1)], [], (L_X9_putWaiting_0 a0 a1 h)) Q) : ∀ us : List pV, WP 72 (0, [(11, a0), (0, a1)], [], h) Q := by
  refine WP.wh (σ := pH) (fun s => C_X9_putWaiting_0 a0 a1 s) (fun s => B_X9_putWaiting_0 a0 a1 s) (fun s => P_X9_putWaiting_0 a0 a1 s) (fun s us => (0, [(11, a0), (0, a1)], [], s)) h hp ?_ ?_
  · intro h us hP hc kk
    change P_X9_putWaiting_0 a0 a1 h at hP
    change 0 < h a0 7 ∧ a1 ≤ F_X9_binding (h (a0 + 3) ((h a0 7) - 1)) h at hc
    replace kk : ∀ (us' : List pV) (s' : pH), s' = B_X9_putWaiting_0 a0 a1 h → WP 72 (0, [(11, a0), (0, a1)], [], s') Q := fun us' s' e => by subst e; exact kk us'
    unfold P_X9_putWaiting_0 at hP
    obtain ⟨hPc, hPb⟩ := hP
    have q5 := hPc
    obtain ⟨o7, o8, o10, o11, o12⟩ := hPb hc
    show WP 72 (0, [(11, a0), (0, a1)], [], h) Q
    refine WP.aload_n rfl rfl ⟨by decide, by decide⟩ ?_
    refine WP.getI rfl rfl ?_
    refine WP.nz_le rfl (fun c6 => ?_) (fun c6 => ?_)
    · exact absurd hc (fun q => (Int.not_lt.mpr c6) q.1)
    · refine WP.aload_n rfl rfl ⟨by decide, by decide⟩ ?_
      refine WP.getR rfl rfl ?_
      refine WP.aload_n rfl rfl ⟨by decide, by decide⟩ ?_
      refine WP.getI rfl rfl ?_
      refine WP.iconst rfl ?_
      refine WP.isubE rfl o7 ?_
      refine WP.iaload rfl ⟨by decide, by decide, by decide⟩ o8 ?_
      refine WP.callF (c_X9_binding (h (a0 + 3) ((h a0 7) - 1)) h) rfl rfl (pm_cok rfl rfl (Or.inl rfl) rfl rfl) rfl rfl ?_
      show WP 72 (11, [(11, a0), (0, a1)], [(0, F_X9_binding (h (a0 + 3) ((h a0 7) - 1)) h)], h) Q
      refine WP.iload_n rfl rfl ?_
      refine WP.ni_lt rfl (fun c9 => ?_) (fun c9 => ?_)
      · exact absurd hc (fun q => (Int.not_le.mpr c9) q.2)
      · refine WP.aload_n rfl rfl ⟨by decide, by decide⟩ ?_
        refine WP.aload_n rfl rfl ⟨by decide, by decide⟩ ?_
        refine WP.getR rfl rfl ?_
        refine WP.aload_n rfl rfl ⟨by decide, by decide⟩ ?_
        refine WP.getI rfl rfl ?_
        refine WP.iconst rfl ?_
        refine WP.isubE rfl o7 ?_
        refine WP.iaload rfl ⟨by decide, by decide, by decide⟩ o8 ?_
        refine WP.inegE rfl o10 ?_
        refine WP.callF (c_X9_put a0 (-(h (a0 + 3) ((h a0 7) - 1))) h o11) rfl rfl (pm_cok rfl rfl (Or.inr ⟨_, _, rfl⟩) rfl rfl) rfl rfl ?_
        show WP 72 (23, [(11, a0), (0, a1)], [], H_X9_put a0 (-(h (a0 + 3) ((h a0 7) - 1))) h) Q
        refine WP.aload_n rfl rfl ⟨by decide, by decide⟩ ?_
        refine WP.dup rfl (by decide) ?_
        refine WP.getI rfl rfl ?_
        refine WP.iconst rfl ?_
        refine WP.isubE rfl o12 ?_
        refine WP.putI rfl rfl ?_
        show WP 72 (29, [(11, a0), (0, a1)], [], s_X9_putWaiting_1 a0 h) Q
        refine WP.goto rfl ?_
        exact kk [] (s_X9_putWaiting_1 a0 h) (rfl)
  · intro hP hc
    generalize hs : (L_X9_putWaiting_0 a0 a1 h : pH) = s at kk
    change P_X9_putWaiting_0 a0 a1 (L_X9_putWaiting_0 a0 a1 h) at hP
    change ¬ C_X9_putWaiting_0 a0 a1 (L_X9_putWaiting_0 a0 a1 h) at hc
    intro us
    show WP 72 (0, [(11, a0), (0, a1)], [], (L_X9_putWaiting_0 a0 a1 h)) Q
    rw [hs] at hP hc ⊢
    revert hs kk hP hc; revert s; intro h hs kk hP hc
    change P_X9_putWaiting_0 a0 a1 h at hP
    change ¬ (0 < h a0 7 ∧ a1 ≤ F_X9_binding (h (a0 + 3) ((h a0 7) - 1)) h) at hc
    unfold P_X9_putWaiting_0 at hP
    have q5 := hP.1
    show WP 72 (0, [(11, a0), (0, a1)], [], h) Q
    refine WP.aload_n rfl rfl ⟨by decide, by decide⟩ ?_
    refine WP.getI rfl rfl ?_
    refine WP.nz_le rfl (fun c1 => ?_) (fun c1 => ?_)
    · exact kk []
    · obtain ⟨o2, o3⟩ := q5 c1
      refine WP.aload_n rfl rfl ⟨by decide, by decide⟩ ?_
      refine WP.getR rfl rfl ?_
      refine WP.aload_n rfl rfl ⟨by decide, by decide⟩ ?_
      refine WP.getI rfl rfl ?_
      refine WP.iconst rfl ?_
      refine WP.isubE rfl o2 ?_
      refine WP.iaload rfl ⟨by decide, by decide, by decide⟩ o3 ?_
      refine WP.callF (c_X9_binding (h (a0 + 3) ((h a0 7) - 1)) h) rfl rfl (pm_cok rfl rfl (Or.inl rfl) rfl rfl) rfl rfl ?_
      show WP 72 (11, [(11, a0), (0, a1)], [(0, F_X9_binding (h (a0 + 3) ((h a0 7) - 1)) h)], h) Q
      refine WP.iload_n rfl rfl ?_
      refine WP.ni_lt rfl (fun c4 => ?_) (fun c4 => ?_)
      · exact kk []
      · exact absurd (show 0 < h a0 7 ∧ a1 ≤ F_X9_binding (h (a0 + 3) ((h a0 7) - 1)) h from ⟨c1, c4⟩) hc
noncomputable def H_X9_putWaiting (a0 : Int) (a1 : Int) (h : pH) : pH := L_X9_putWaiting_0 a0 a1 h
noncomputable def P_X9_putWaiting (a0 : Int) (a1 : Int) (h : pH) : Prop := O_X9_putWaiting_0 a0 a1 h
set_option maxHeartbeats 4000000 in
theorem w_X9_putWaiting (a0 : Int) (a1 : Int) (h : pH) {Q : Option pV → pH → Prop} (hp : P_X9_putWaiting a0 a1 h) (kk : Q (none) (H_X9_putWaiting a0 a1 h)) : WP 72 (0, [(11, a0), (0, a1)], [], h) Q := by
  unfold P_X9_putWaiting at hp
  have o13 := hp
  refine lp_X9_putWaiting_0 a0 a1 h o13 (fun us14 => ?_) []
  show WP 72 (30, [(11, a0), (0, a1)], [], L_X9_putWaiting_0 a0 a1 h) Q
  refine WP.retv rfl ?_; exact kk
theorem c_X9_putWaiting (a0 : Int) (a1 : Int) (h : pH) (hp : P_X9_putWaiting a0 a1 h) : CP 72 [(11, a0), (0, a1)] h (fun r h1 => r = none ∧ h1 = H_X9_putWaiting a0 a1 h) := w_X9_putWaiting a0 a1 h hp ⟨rfl, rfl⟩
noncomputable def s_X9_value_1 (a0 : Int) (x2 : Int) (x3 : Int) (h : pH) : pH := pm_upd h (a0 + 4) (x2 + (-1)) (F_X9_joined (-(h (a0 + 2) x3)) (h (a0 + 4) (x2 + (-1))) (h (a0 + 4) ((x2 + (-1)) + 1)) h)
noncomputable def s_X9_value_2 (a0 : Int) (x2 : Int) (h : pH) : Int := if h (a0 + 4) x2 = 0 then 1 else 0
noncomputable def s_X9_value_3 (a0 : Int) (a1 : Int) (x3 : Int) (h : pH) : Int := if h (a0 + 2) x3 < 0 then h a1 ((-1) - (h (a0 + 2) x3)) else h (a0 + 2) x3
noncomputable def s_X9_value_4 (a0 : Int) (a1 : Int) (x2 : Int) (x3 : Int) (h : pH) : pH := if h (a0 + 2) x3 < (-6) then if h (a0 + 2) x3 = (-33) then if x2 < 0 then if x2 < 1 then h else s_X9_value_1 a0 x2 x3 h else pm_upd h (a0 + 4) x2 (s_X9_value_2 a0 x2 h) else if h (a0 + 2) x3 = (-126) then if x2 < 0 then if x2 < 1 then h else s_X9_value_1 a0 x2 x3 h else pm_upd h (a0 + 4) x2 (pm_wl (-(h (a0 + 4) x2))) else if x2 < 1 then h else s_X9_value_1 a0 x2 x3 h else if 59 ≤ x2 then if h (a0 + 2) x3 = (-33) then if x2 < 0 then if x2 < 1 then h else s_X9_value_1 a0 x2 x3 h else pm_upd h (a0 + 4) x2 (s_X9_value_2 a0 x2 h) else if h (a0 + 2) x3 = (-126) then if x2 < 0 then if x2 < 1 then h else s_X9_value_1 a0 x2 x3 h else pm_upd h (a0 + 4) x2 (pm_wl (-(h (a0 + 4) x2))) else if x2 < 1 then h else s_X9_value_1 a0 x2 x3 h else pm_upd h (a0 + 4) (x2 + 1) (s_X9_value_3 a0 a1 x3 h)
noncomputable def s_X9_value_5 (a0 : Int) (x2 : Int) (x3 : Int) (h : pH) : Int := if h (a0 + 2) x3 < (-6) then if h (a0 + 2) x3 = (-33) then if x2 < 0 then if x2 < 1 then x2 else x2 + (-1) else x2 else if h (a0 + 2) x3 = (-126) then if x2 < 0 then if x2 < 1 then x2 else x2 + (-1) else x2 else if x2 < 1 then x2 else x2 + (-1) else if 59 ≤ x2 then if h (a0 + 2) x3 = (-33) then if x2 < 0 then if x2 < 1 then x2 else x2 + (-1) else x2 else if h (a0 + 2) x3 = (-126) then if x2 < 0 then if x2 < 1 then x2 else x2 + (-1) else x2 else if x2 < 1 then x2 else x2 + (-1) else x2 + 1
def C_X9_value_4 (a0 : Int) (a1 : Int) (x2 : Int) (x3 : Int) (h : pH) : Prop := x3 < h a0 6
noncomputable def B_X9_value_4 (a0 : Int) (a1 : Int) (x2 : Int) (x3 : Int) (h : pH) : Int × Int × pH := (s_X9_value_5 a0 x2 x3 h, x3 + 1, s_X9_value_4 a0 a1 x2 x3 h)
noncomputable def P_X9_value_4 (a0 : Int) (a1 : Int) (x2 : Int) (x3 : Int) (h : pH) : Prop := ((x3 < h a0 6) → (0 ≤ x3 ∧ x3 < 60) ∧ ((((h (a0 + 2) x3 < (-6)) → ((((h (a0 + 2) x3 = (-33)) → ((((x2 < 0) → ((((h (a0 + 2) x3 = (-126)) → (((1 ≤ x2) → ((fx_i (x2 + (-1))) ∧ (fx_i (-(h (a0 + 2) x3))) ∧ (0 ≤ x2 + (-1) ∧ x2 + (-1) < 60) ∧ (fx_i ((x2 + (-1)) + 1)) ∧ (0 ≤ (x2 + (-1)) + 1 ∧ (x2 + (-1)) + 1 < 60) ∧ (P_X9_joined (-(h (a0 + 2) x3)) (h (a0 + 4) (x2 + (-1))) (h (a0 + 4) ((x2 + (-1)) + 1)) h))))) ∧ ((¬ h (a0 + 2) x3 = (-126)) → (((1 ≤ x2) → ((fx_i (x2 + (-1))) ∧ (fx_i (-(h (a0 + 2) x3))) ∧ (0 ≤ x2 + (-1) ∧ x2 + (-1) < 60) ∧ (fx_i ((x2 + (-1)) + 1)) ∧ (0 ≤ (x2 + (-1)) + 1 ∧ (x2 + (-1)) + 1 < 60) ∧ (P_X9_joined (-(h (a0 + 2) x3)) (h (a0 + 4) (x2 + (-1))) (h (a0 + 4) ((x2 + (-1)) + 1)) h)))))))) ∧ ((0 ≤ x2) → ((0 ≤ x2 ∧ x2 < 60)))))) ∧ ((¬ h (a0 + 2) x3 = (-33)) → ((((h (a0 + 2) x3 = (-126)) → ((((x2 < 0) → (((1 ≤ x2) → ((fx_i (x2 + (-1))) ∧ (fx_i (-(h (a0 + 2) x3))) ∧ (0 ≤ x2 + (-1) ∧ x2 + (-1) < 60) ∧ (fx_i ((x2 + (-1)) + 1)) ∧ (0 ≤ (x2 + (-1)) + 1 ∧ (x2 + (-1)) + 1 < 60) ∧ (P_X9_joined (-(h (a0 + 2) x3)) (h (a0 + 4) (x2 + (-1))) (h (a0 + 4) ((x2 + (-1)) + 1)) h))))) ∧ ((0 ≤ x2) → ((0 ≤ x2 ∧ x2 < 60)))))) ∧ ((¬ h (a0 + 2) x3 = (-126)) → (((1 ≤ x2) → ((fx_i (x2 + (-1))) ∧ (fx_i (-(h (a0 + 2) x3))) ∧ (0 ≤ x2 + (-1) ∧ x2 + (-1) < 60) ∧ (fx_i ((x2 + (-1)) + 1)) ∧ (0 ≤ (x2 + (-1)) + 1 ∧ (x2 + (-1)) + 1 < 60) ∧ (P_X9_joined (-(h (a0 + 2) x3)) (h (a0 + 4) (x2 + (-1))) (h (a0 + 4) ((x2 + (-1)) + 1)) h))))))))))) ∧ (((-6) ≤ h (a0 + 2) x3) → ((((59 ≤ x2) → ((((h (a0 + 2) x3 = (-33)) → ((((x2 < 0) → ((((h (a0 + 2) x3 = (-126)) → (((1 ≤ x2) → ((fx_i (x2 + (-1))) ∧ (fx_i (-(h (a0 + 2) x3))) ∧ (0 ≤ x2 + (-1) ∧ x2 + (-1) < 60) ∧ (fx_i ((x2 + (-1)) + 1)) ∧ (0 ≤ (x2 + (-1)) + 1 ∧ (x2 + (-1)) + 1 < 60) ∧ (P_X9_joined (-(h (a0 + 2) x3)) (h (a0 + 4) (x2 + (-1))) (h (a0 + 4) ((x2 + (-1)) + 1)) h))))) ∧ ((¬ h (a0 + 2) x3 = (-126)) → (((1 ≤ x2) → ((fx_i (x2 + (-1))) ∧ (fx_i (-(h (a0 + 2) x3))) ∧ (0 ≤ x2 + (-1) ∧ x2 + (-1) < 60) ∧ (fx_i ((x2 + (-1)) + 1)) ∧ (0 ≤ (x2 + (-1)) + 1 ∧ (x2 + (-1)) + 1 < 60) ∧ (P_X9_joined (-(h (a0 + 2) x3)) (h (a0 + 4) (x2 + (-1))) (h (a0 + 4) ((x2 + (-1)) + 1)) h)))))))) ∧ ((0 ≤ x2) → ((0 ≤ x2 ∧ x2 < 60)))))) ∧ ((¬ h (a0 + 2) x3 = (-33)) → ((((h (a0 + 2) x3 = (-126)) → ((((x2 < 0) → (((1 ≤ x2) → ((fx_i (x2 + (-1))) ∧ (fx_i (-(h (a0 + 2) x3))) ∧ (0 ≤ x2 + (-1) ∧ x2 + (-1) < 60) ∧ (fx_i ((x2 + (-1)) + 1)) ∧ (0 ≤ (x2 + (-1)) + 1 ∧ (x2 + (-1)) + 1 < 60) ∧ (P_X9_joined (-(h (a0 + 2) x3)) (h (a0 + 4) (x2 + (-1))) (h (a0 + 4) ((x2 + (-1)) + 1)) h))))) ∧ ((0 ≤ x2) → ((0 ≤ x2 ∧ x2 < 60)))))) ∧ ((¬ h (a0 + 2) x3 = (-126)) → (((1 ≤ x2) → ((fx_i (x2 + (-1))) ∧ (fx_i (-(h (a0 + 2) x3))) ∧ (0 ≤ x2 + (-1) ∧ x2 + (-1) < 60) ∧ (fx_i ((x2 + (-1)) + 1)) ∧ (0 ≤ (x2 + (-1)) + 1 ∧ (x2 + (-1)) + 1 < 60) ∧ (P_X9_joined (-(h (a0 + 2) x3)) (h (a0 + 4) (x2 + (-1))) (h (a0 + 4) ((x2 + (-1)) + 1)) h))))))))))) ∧ ((x2 < 59) → ((fx_i (x2 + 1)) ∧ (((h (a0 + 2) x3 < 0) → ((fx_i ((-1) - (h (a0 + 2) x3))) ∧ (0 ≤ (-1) - (h (a0 + 2) x3) ∧ (-1) - (h (a0 + 2) x3) < 6)))) ∧ (0 ≤ x2 + 1 ∧ x2 + 1 < 60)))))))) ∧ (fx_i (x3 + 1)))
noncomputable def L_X9_value_4 (a0 : Int) (a1 : Int) (x2 : Int) (x3 : Int) (h : pH) : Int × Int × pH := fx_wh (σ := Int × Int × pH) (fun s => C_X9_value_4 a0 a1 s.1 s.2.1 s.2.2) (fun s => B_X9_value_4 a0 a1 s.1 s.2.1 s.2.2) (x2, x3, h)
def O_X9_value_4 (a0 : Int) (a1 : Int) (x2 : Int) (x3 : Int) (h : pH) : Prop := fx_ok (σ := Int × Int × pH) (fun s => C_X9_value_4 a0 a1 s.1 s.2.1 s.2.2) (fun s => B_X9_value_4 a0 a1 s.1 s.2.1 s.2.2) (fun s => P_X9_value_4 a0 a1 s.1 s.2.1 s.2.2) (x2, x3, h)
set_option maxHeartbeats 4000000 in
theorem lp_X9_value_4 (a0 : Int) (a1 : Int) (x2 : Int) (x3 : Int) (h : pH) {Q : Option pV → pH → Prop} (hp : O_X9_value_4 a0 a1 x2 x3 h) (kk : ∀ us : List pV, WP 73 (93, [(11, a0), (1025, a1), (0, (L_X9_value_4 a0 a1 x2 x3 h).1), (0, (L_X9_value_4 a0 a1 x2 x3 h).2.1), us.getD 0 pU], [], (L_X9_value_4 a0 a1 x2 x3 h).2.2) Q) : ∀ us : List pV, WP 73 (4, [(11, a0), (1025, a1), (0, x2), (0, x3), us.getD 0 pU], [], h) Q := by
  refine WP.wh (σ := Int × Int × pH) (fun s => C_X9_value_4 a0 a1 s.1 s.2.1 s.2.2) (fun s => B_X9_value_4 a0 a1 s.1 s.2.1 s.2.2) (fun s => P_X9_value_4 a0 a1 s.1 s.2.1 s.2.2) (fun s us => (4, [(11, a0), (1025, a1), (0, s.1), (0, s.2.1), us.getD 0 pU], [], s.2.2)) (x2, x3, h) hp ?_ ?_
  · intro s us hP hc kk
    obtain ⟨x2, x3, h⟩ := s
    change P_X9_value_4 a0 a1 x2 x3 h at hP
    change x3 < h a0 6 at hc
    replace kk : ∀ (us' : List pV) (s' : Int × Int × pH), s' = B_X9_value_4 a0 a1 x2 x3 h → WP 73 (4, [(11, a0), (1025, a1), (0, s'.1), (0, s'.2.1), us'.getD 0 pU], [], s'.2.2) Q := fun us' s' e => by subst e; exact kk us'
    unfold P_X9_value_4 at hP
    obtain ⟨o3, q115, o116⟩ := hP hc
    show WP 73 (4, [(11, a0), (1025, a1), (0, x2), (0, x3), us.getD 0 pU], [], h) Q
    refine WP.iload_n rfl rfl ?_
    refine WP.aload_n rfl rfl ⟨by decide, by decide⟩ ?_
    refine WP.getI rfl rfl ?_
    refine WP.ni_ge rfl (fun c2 => ?_) (fun c2 => ?_)
    · exact absurd hc (Int.not_lt.mpr c2)
    · refine WP.aload_n rfl rfl ⟨by decide, by decide⟩ ?_
      refine WP.getR rfl rfl ?_
      refine WP.iload_n rfl rfl ?_
      refine WP.iaload rfl ⟨by decide, by decide, by decide⟩ o3 ?_
      refine WP.istore (L' := [(11, a0), (1025, a1), (0, x2), (0, x3), (0, h (a0 + 2) x3)]) rfl rfl ?_
      refine WP.iload rfl rfl ?_
      refine WP.bipush rfl ?_
      have k4 : ∀ Q' : Option pV → pH → Prop, (WP 73 (91, [(11, a0), (1025, a1), (0, s_X9_value_5 a0 x2 x3 h), (0, x3), (0, h (a0 + 2) x3)], [], s_X9_value_4 a0 a1 x2 x3 h) Q') → WP 73 (15, [(11, a0), (1025, a1), (0, x2), (0, x3), (0, h (a0 + 2) x3)], [(0, (-6)), (0, h (a0 + 2) x3)], h) Q' := fun Q' kk => by
        have q113 := q115
        refine WP.ni_lt rfl (fun c5 => ?_) (fun c5 => ?_)
        · have q53 := q113.1 c5
          refine WP.iload rfl rfl ?_
          refine WP.bipush rfl ?_
          refine WP.ni_ne rfl (fun c6 => ?_) (fun c6 => ?_)
          · have q52 := q53.2 c6
            refine WP.iload rfl rfl ?_
            refine WP.bipush rfl ?_
            refine WP.ni_ne rfl (fun c32 => ?_) (fun c32 => ?_)
            · have q51 := q52.2 c32
              refine WP.iload_n rfl rfl ?_
              refine WP.iconst rfl ?_
              refine WP.ni_lt rfl (fun c44 => ?_) (fun c44 => ?_)
              · have e := kk; simp only [s_X9_value_5, s_X9_value_4, if_pos c5, if_neg (c6), if_neg (c32), if_pos c44] at e ⊢; exact e
              · obtain ⟨o45, o46, o47, o48, o49, o50⟩ := q51 c44
                refine WP.iincE (L' := [(11, a0), (1025, a1), (0, x2 + (-1)), (0, x3), (0, h (a0 + 2) x3)]) rfl rfl o45 rfl ?_
                refine WP.aload_n rfl rfl ⟨by decide, by decide⟩ ?_
                refine WP.getR rfl rfl ?_
                refine WP.iload_n rfl rfl ?_
                refine WP.iload rfl rfl ?_
                refine WP.inegE rfl o46 ?_
                refine WP.aload_n rfl rfl ⟨by decide, by decide⟩ ?_
                refine WP.getR rfl rfl ?_
                refine WP.iload_n rfl rfl ?_
                refine WP.laload rfl ⟨by decide, by decide, by decide⟩ o47 ?_
                refine WP.aload_n rfl rfl ⟨by decide, by decide⟩ ?_
                refine WP.getR rfl rfl ?_
                refine WP.iload_n rfl rfl ?_
                refine WP.iconst rfl ?_
                refine WP.iaddE rfl o48 ?_
                refine WP.laload rfl ⟨by decide, by decide, by decide⟩ o49 ?_
                refine WP.callF (c_X9_joined (-(h (a0 + 2) x3)) (h (a0 + 4) (x2 + (-1))) (h (a0 + 4) ((x2 + (-1)) + 1)) h o50) rfl rfl (pm_cok rfl rfl (Or.inl rfl) rfl rfl) rfl rfl ?_
                show WP 73 (90, [(11, a0), (1025, a1), (0, x2 + (-1)), (0, x3), (0, h (a0 + 2) x3)], [(1, F_X9_joined (-(h (a0 + 2) x3)) (h (a0 + 4) (x2 + (-1))) (h (a0 + 4) ((x2 + (-1)) + 1)) h), (0, x2 + (-1)), (1241, a0 + 4)], h) Q'
                refine WP.lastore rfl ⟨by decide, by decide, by decide⟩ o47 ?_
                show WP 73 (91, [(11, a0), (1025, a1), (0, x2 + (-1)), (0, x3), (0, h (a0 + 2) x3)], [], s_X9_value_1 a0 x2 x3 h) Q'
                have e := kk; simp only [s_X9_value_5, s_X9_value_4, if_pos c5, if_neg (c6), if_neg (c32), if_neg (Int.not_lt.mpr c44)] at e ⊢; exact e
            · have q43 := q52.1 c32
              refine WP.iload_n rfl rfl ?_
              refine WP.nz_lt rfl (fun c33 => ?_) (fun c33 => ?_)
              · have q41 := q43.1 c33
                refine WP.iload_n rfl rfl ?_
                refine WP.iconst rfl ?_
                refine WP.ni_lt rfl (fun c34 => ?_) (fun c34 => ?_)
                · have e := kk; simp only [s_X9_value_5, s_X9_value_4, if_pos c5, if_neg (c6), if_pos c32, if_pos c33, if_pos c34] at e ⊢; exact e
                · obtain ⟨o35, o36, o37, o38, o39, o40⟩ := q41 c34
                  refine WP.iincE (L' := [(11, a0), (1025, a1), (0, x2 + (-1)), (0, x3), (0, h (a0 + 2) x3)]) rfl rfl o35 rfl ?_
                  refine WP.aload_n rfl rfl ⟨by decide, by decide⟩ ?_
                  refine WP.getR rfl rfl ?_
                  refine WP.iload_n rfl rfl ?_
                  refine WP.iload rfl rfl ?_
                  refine WP.inegE rfl o36 ?_
                  refine WP.aload_n rfl rfl ⟨by decide, by decide⟩ ?_
                  refine WP.getR rfl rfl ?_
                  refine WP.iload_n rfl rfl ?_
                  refine WP.laload rfl ⟨by decide, by decide, by decide⟩ o37 ?_
                  refine WP.aload_n rfl rfl ⟨by decide, by decide⟩ ?_
                  refine WP.getR rfl rfl ?_
                  refine WP.iload_n rfl rfl ?_
                  refine WP.iconst rfl ?_
                  refine WP.iaddE rfl o38 ?_
                  refine WP.laload rfl ⟨by decide, by decide, by decide⟩ o39 ?_
                  refine WP.callF (c_X9_joined (-(h (a0 + 2) x3)) (h (a0 + 4) (x2 + (-1))) (h (a0 + 4) ((x2 + (-1)) + 1)) h o40) rfl rfl (pm_cok rfl rfl (Or.inl rfl) rfl rfl) rfl rfl ?_
                  show WP 73 (90, [(11, a0), (1025, a1), (0, x2 + (-1)), (0, x3), (0, h (a0 + 2) x3)], [(1, F_X9_joined (-(h (a0 + 2) x3)) (h (a0 + 4) (x2 + (-1))) (h (a0 + 4) ((x2 + (-1)) + 1)) h), (0, x2 + (-1)), (1241, a0 + 4)], h) Q'
                  refine WP.lastore rfl ⟨by decide, by decide, by decide⟩ o37 ?_
                  show WP 73 (91, [(11, a0), (1025, a1), (0, x2 + (-1)), (0, x3), (0, h (a0 + 2) x3)], [], s_X9_value_1 a0 x2 x3 h) Q'
                  have e := kk; simp only [s_X9_value_5, s_X9_value_4, if_pos c5, if_neg (c6), if_pos c32, if_pos c33, if_neg (Int.not_lt.mpr c34)] at e ⊢; exact e
              · have o42 := q43.2 c33
                refine WP.aload_n rfl rfl ⟨by decide, by decide⟩ ?_
                refine WP.getR rfl rfl ?_
                refine WP.iload_n rfl rfl ?_
                refine WP.aload_n rfl rfl ⟨by decide, by decide⟩ ?_
                refine WP.getR rfl rfl ?_
                refine WP.iload_n rfl rfl ?_
                refine WP.laload rfl ⟨by decide, by decide, by decide⟩ o42 ?_
                refine WP.lneg rfl ?_
                refine WP.lastore rfl ⟨by decide, by decide, by decide⟩ o42 ?_
                refine WP.goto rfl ?_
                have e := kk; simp only [s_X9_value_5, s_X9_value_4, if_pos c5, if_neg (c6), if_pos c32, if_neg (Int.not_lt.mpr c33)] at e ⊢; exact e
          · have q31 := q53.1 c6
            refine WP.iload_n rfl rfl ?_
            refine WP.nz_lt rfl (fun c7 => ?_) (fun c7 => ?_)
            · have q26 := q31.1 c7
              refine WP.iload rfl rfl ?_
              refine WP.bipush rfl ?_
              refine WP.ni_ne rfl (fun c8 => ?_) (fun c8 => ?_)
              · have q25 := q26.2 c8
                refine WP.iload_n rfl rfl ?_
                refine WP.iconst rfl ?_
                refine WP.ni_lt rfl (fun c18 => ?_) (fun c18 => ?_)
                · have e := kk; simp only [s_X9_value_5, s_X9_value_4, if_pos c5, if_pos c6, if_pos c7, if_neg (c8), if_pos c18] at e ⊢; exact e
                · obtain ⟨o19, o20, o21, o22, o23, o24⟩ := q25 c18
                  refine WP.iincE (L' := [(11, a0), (1025, a1), (0, x2 + (-1)), (0, x3), (0, h (a0 + 2) x3)]) rfl rfl o19 rfl ?_
                  refine WP.aload_n rfl rfl ⟨by decide, by decide⟩ ?_
                  refine WP.getR rfl rfl ?_
                  refine WP.iload_n rfl rfl ?_
                  refine WP.iload rfl rfl ?_
                  refine WP.inegE rfl o20 ?_
                  refine WP.aload_n rfl rfl ⟨by decide, by decide⟩ ?_
                  refine WP.getR rfl rfl ?_
                  refine WP.iload_n rfl rfl ?_
                  refine WP.laload rfl ⟨by decide, by decide, by decide⟩ o21 ?_
                  refine WP.aload_n rfl rfl ⟨by decide, by decide⟩ ?_
                  refine WP.getR rfl rfl ?_
                  refine WP.iload_n rfl rfl ?_
                  refine WP.iconst rfl ?_
                  refine WP.iaddE rfl o22 ?_
                  refine WP.laload rfl ⟨by decide, by decide, by decide⟩ o23 ?_
                  refine WP.callF (c_X9_joined (-(h (a0 + 2) x3)) (h (a0 + 4) (x2 + (-1))) (h (a0 + 4) ((x2 + (-1)) + 1)) h o24) rfl rfl (pm_cok rfl rfl (Or.inl rfl) rfl rfl) rfl rfl ?_
                  show WP 73 (90, [(11, a0), (1025, a1), (0, x2 + (-1)), (0, x3), (0, h (a0 + 2) x3)], [(1, F_X9_joined (-(h (a0 + 2) x3)) (h (a0 + 4) (x2 + (-1))) (h (a0 + 4) ((x2 + (-1)) + 1)) h), (0, x2 + (-1)), (1241, a0 + 4)], h) Q'
                  refine WP.lastore rfl ⟨by decide, by decide, by decide⟩ o21 ?_
                  show WP 73 (91, [(11, a0), (1025, a1), (0, x2 + (-1)), (0, x3), (0, h (a0 + 2) x3)], [], s_X9_value_1 a0 x2 x3 h) Q'
                  have e := kk; simp only [s_X9_value_5, s_X9_value_4, if_pos c5, if_pos c6, if_pos c7, if_neg (c8), if_neg (Int.not_lt.mpr c18)] at e ⊢; exact e
              · have q17 := q26.1 c8
                refine WP.iload_n rfl rfl ?_
                refine WP.nz_lt rfl (fun c9 => ?_) (fun c9 => ?_)
                · refine WP.iload_n rfl rfl ?_
                  refine WP.iconst rfl ?_
                  refine WP.ni_lt rfl (fun c10 => ?_) (fun c10 => ?_)
                  · have e := kk; simp only [s_X9_value_5, s_X9_value_4, if_pos c5, if_pos c6, if_pos c7, if_pos c8, if_pos c10] at e ⊢; exact e
                  · obtain ⟨o11, o12, o13, o14, o15, o16⟩ := q17 c10
                    refine WP.iincE (L' := [(11, a0), (1025, a1), (0, x2 + (-1)), (0, x3), (0, h (a0 + 2) x3)]) rfl rfl o11 rfl ?_
                    refine WP.aload_n rfl rfl ⟨by decide, by decide⟩ ?_
                    refine WP.getR rfl rfl ?_
                    refine WP.iload_n rfl rfl ?_
                    refine WP.iload rfl rfl ?_
                    refine WP.inegE rfl o12 ?_
                    refine WP.aload_n rfl rfl ⟨by decide, by decide⟩ ?_
                    refine WP.getR rfl rfl ?_
                    refine WP.iload_n rfl rfl ?_
                    refine WP.laload rfl ⟨by decide, by decide, by decide⟩ o13 ?_
                    refine WP.aload_n rfl rfl ⟨by decide, by decide⟩ ?_
                    refine WP.getR rfl rfl ?_
                    refine WP.iload_n rfl rfl ?_
                    refine WP.iconst rfl ?_
                    refine WP.iaddE rfl o14 ?_
                    refine WP.laload rfl ⟨by decide, by decide, by decide⟩ o15 ?_
                    refine WP.callF (c_X9_joined (-(h (a0 + 2) x3)) (h (a0 + 4) (x2 + (-1))) (h (a0 + 4) ((x2 + (-1)) + 1)) h o16) rfl rfl (pm_cok rfl rfl (Or.inl rfl) rfl rfl) rfl rfl ?_
                    show WP 73 (90, [(11, a0), (1025, a1), (0, x2 + (-1)), (0, x3), (0, h (a0 + 2) x3)], [(1, F_X9_joined (-(h (a0 + 2) x3)) (h (a0 + 4) (x2 + (-1))) (h (a0 + 4) ((x2 + (-1)) + 1)) h), (0, x2 + (-1)), (1241, a0 + 4)], h) Q'
                    refine WP.lastore rfl ⟨by decide, by decide, by decide⟩ o13 ?_
                    show WP 73 (91, [(11, a0), (1025, a1), (0, x2 + (-1)), (0, x3), (0, h (a0 + 2) x3)], [], s_X9_value_1 a0 x2 x3 h) Q'
                    have e := kk; simp only [s_X9_value_5, s_X9_value_4, if_pos c5, if_pos c6, if_pos c7, if_pos c8, if_neg (Int.not_lt.mpr c10)] at e ⊢; exact e
                · exact absurd c7 (Int.not_lt.mpr c9)
            · have o27 := q31.2 c7
              refine WP.aload_n rfl rfl ⟨by decide, by decide⟩ ?_
              refine WP.getR rfl rfl ?_
              refine WP.iload_n rfl rfl ?_
              refine WP.aload_n rfl rfl ⟨by decide, by decide⟩ ?_
              refine WP.getR rfl rfl ?_
              refine WP.iload_n rfl rfl ?_
              refine WP.laload rfl ⟨by decide, by decide, by decide⟩ o27 ?_
              refine WP.lconst rfl ?_
              refine WP.lcmp rfl ?_
              have k28 : ∀ Q' : Option pV → pH → Prop, (WP 73 (53, [(11, a0), (1025, a1), (0, x2), (0, x3), (0, h (a0 + 2) x3)], [(1, s_X9_value_2 a0 x2 h), (0, x2), (1241, a0 + 4)], h) Q') → WP 73 (49, [(11, a0), (1025, a1), (0, x2), (0, x3), (0, h (a0 + 2) x3)], [(0, pm_lcmp (h (a0 + 4) x2) 0), (0, x2), (1241, a0 + 4)], h) Q' := fun Q' kk => by
                refine WP.nl_ne rfl (fun c29 => ?_) (fun c29 => ?_)
                · refine WP.lconst rfl ?_
                  have e := kk; simp only [s_X9_value_2, if_neg (c29)] at e ⊢; exact e
                · refine WP.lconst rfl ?_
                  refine WP.goto rfl ?_
                  have e := kk; simp only [s_X9_value_2, if_pos c29] at e ⊢; exact e
              refine k28 _ ?_
              refine WP.lastore rfl ⟨by decide, by decide, by decide⟩ o27 ?_
              refine WP.goto rfl ?_
              have e := kk; simp only [s_X9_value_5, s_X9_value_4, if_pos c5, if_pos c6, if_neg (Int.not_lt.mpr c7)] at e ⊢; exact e
        · have q112 := q113.2 c5
          refine WP.iload_n rfl rfl ?_
          refine WP.bipush rfl ?_
          refine WP.ni_ge rfl (fun c54 => ?_) (fun c54 => ?_)
          · have q102 := q112.1 c54
            refine WP.iload rfl rfl ?_
            refine WP.bipush rfl ?_
            refine WP.ni_ne rfl (fun c55 => ?_) (fun c55 => ?_)
            · have q101 := q102.2 c55
              refine WP.iload rfl rfl ?_
              refine WP.bipush rfl ?_
              refine WP.ni_ne rfl (fun c81 => ?_) (fun c81 => ?_)
              · have q100 := q101.2 c81
                refine WP.iload_n rfl rfl ?_
                refine WP.iconst rfl ?_
                refine WP.ni_lt rfl (fun c93 => ?_) (fun c93 => ?_)
                · have e := kk; simp only [s_X9_value_5, s_X9_value_4, if_neg (Int.not_lt.mpr c5), if_pos c54, if_neg (c55), if_neg (c81), if_pos c93] at e ⊢; exact e
                · obtain ⟨o94, o95, o96, o97, o98, o99⟩ := q100 c93
                  refine WP.iincE (L' := [(11, a0), (1025, a1), (0, x2 + (-1)), (0, x3), (0, h (a0 + 2) x3)]) rfl rfl o94 rfl ?_
                  refine WP.aload_n rfl rfl ⟨by decide, by decide⟩ ?_
                  refine WP.getR rfl rfl ?_
                  refine WP.iload_n rfl rfl ?_
                  refine WP.iload rfl rfl ?_
                  refine WP.inegE rfl o95 ?_
                  refine WP.aload_n rfl rfl ⟨by decide, by decide⟩ ?_
                  refine WP.getR rfl rfl ?_
                  refine WP.iload_n rfl rfl ?_
                  refine WP.laload rfl ⟨by decide, by decide, by decide⟩ o96 ?_
                  refine WP.aload_n rfl rfl ⟨by decide, by decide⟩ ?_
                  refine WP.getR rfl rfl ?_
                  refine WP.iload_n rfl rfl ?_
                  refine WP.iconst rfl ?_
                  refine WP.iaddE rfl o97 ?_
                  refine WP.laload rfl ⟨by decide, by decide, by decide⟩ o98 ?_
                  refine WP.callF (c_X9_joined (-(h (a0 + 2) x3)) (h (a0 + 4) (x2 + (-1))) (h (a0 + 4) ((x2 + (-1)) + 1)) h o99) rfl rfl (pm_cok rfl rfl (Or.inl rfl) rfl rfl) rfl rfl ?_
                  show WP 73 (90, [(11, a0), (1025, a1), (0, x2 + (-1)), (0, x3), (0, h (a0 + 2) x3)], [(1, F_X9_joined (-(h (a0 + 2) x3)) (h (a0 + 4) (x2 + (-1))) (h (a0 + 4) ((x2 + (-1)) + 1)) h), (0, x2 + (-1)), (1241, a0 + 4)], h) Q'
                  refine WP.lastore rfl ⟨by decide, by decide, by decide⟩ o96 ?_
                  show WP 73 (91, [(11, a0), (1025, a1), (0, x2 + (-1)), (0, x3), (0, h (a0 + 2) x3)], [], s_X9_value_1 a0 x2 x3 h) Q'
                  have e := kk; simp only [s_X9_value_5, s_X9_value_4, if_neg (Int.not_lt.mpr c5), if_pos c54, if_neg (c55), if_neg (c81), if_neg (Int.not_lt.mpr c93)] at e ⊢; exact e
              · have q92 := q101.1 c81
                refine WP.iload_n rfl rfl ?_
                refine WP.nz_lt rfl (fun c82 => ?_) (fun c82 => ?_)
                · have q90 := q92.1 c82
                  refine WP.iload_n rfl rfl ?_
                  refine WP.iconst rfl ?_
                  refine WP.ni_lt rfl (fun c83 => ?_) (fun c83 => ?_)
                  · have e := kk; simp only [s_X9_value_5, s_X9_value_4, if_neg (Int.not_lt.mpr c5), if_pos c54, if_neg (c55), if_pos c81, if_pos c82, if_pos c83] at e ⊢; exact e
                  · obtain ⟨o84, o85, o86, o87, o88, o89⟩ := q90 c83
                    refine WP.iincE (L' := [(11, a0), (1025, a1), (0, x2 + (-1)), (0, x3), (0, h (a0 + 2) x3)]) rfl rfl o84 rfl ?_
                    refine WP.aload_n rfl rfl ⟨by decide, by decide⟩ ?_
                    refine WP.getR rfl rfl ?_
                    refine WP.iload_n rfl rfl ?_
                    refine WP.iload rfl rfl ?_
                    refine WP.inegE rfl o85 ?_
                    refine WP.aload_n rfl rfl ⟨by decide, by decide⟩ ?_
                    refine WP.getR rfl rfl ?_
                    refine WP.iload_n rfl rfl ?_
                    refine WP.laload rfl ⟨by decide, by decide, by decide⟩ o86 ?_
                    refine WP.aload_n rfl rfl ⟨by decide, by decide⟩ ?_
                    refine WP.getR rfl rfl ?_
                    refine WP.iload_n rfl rfl ?_
                    refine WP.iconst rfl ?_
                    refine WP.iaddE rfl o87 ?_
                    refine WP.laload rfl ⟨by decide, by decide, by decide⟩ o88 ?_
                    refine WP.callF (c_X9_joined (-(h (a0 + 2) x3)) (h (a0 + 4) (x2 + (-1))) (h (a0 + 4) ((x2 + (-1)) + 1)) h o89) rfl rfl (pm_cok rfl rfl (Or.inl rfl) rfl rfl) rfl rfl ?_
                    show WP 73 (90, [(11, a0), (1025, a1), (0, x2 + (-1)), (0, x3), (0, h (a0 + 2) x3)], [(1, F_X9_joined (-(h (a0 + 2) x3)) (h (a0 + 4) (x2 + (-1))) (h (a0 + 4) ((x2 + (-1)) + 1)) h), (0, x2 + (-1)), (1241, a0 + 4)], h) Q'
                    refine WP.lastore rfl ⟨by decide, by decide, by decide⟩ o86 ?_
                    show WP 73 (91, [(11, a0), (1025, a1), (0, x2 + (-1)), (0, x3), (0, h (a0 + 2) x3)], [], s_X9_value_1 a0 x2 x3 h) Q'
                    have e := kk; simp only [s_X9_value_5, s_X9_value_4, if_neg (Int.not_lt.mpr c5), if_pos c54, if_neg (c55), if_pos c81, if_pos c82, if_neg (Int.not_lt.mpr c83)] at e ⊢; exact e
                · have o91 := q92.2 c82
                  refine WP.aload_n rfl rfl ⟨by decide, by decide⟩ ?_
                  refine WP.getR rfl rfl ?_
                  refine WP.iload_n rfl rfl ?_
                  refine WP.aload_n rfl rfl ⟨by decide, by decide⟩ ?_
                  refine WP.getR rfl rfl ?_
                  refine WP.iload_n rfl rfl ?_
                  refine WP.laload rfl ⟨by decide, by decide, by decide⟩ o91 ?_
                  refine WP.lneg rfl ?_
                  refine WP.lastore rfl ⟨by decide, by decide, by decide⟩ o91 ?_
                  refine WP.goto rfl ?_
                  have e := kk; simp only [s_X9_value_5, s_X9_value_4, if_neg (Int.not_lt.mpr c5), if_pos c54, if_neg (c55), if_pos c81, if_neg (Int.not_lt.mpr c82)] at e ⊢; exact e
            · have q80 := q102.1 c55
              refine WP.iload_n rfl rfl ?_
              refine WP.nz_lt rfl (fun c56 => ?_) (fun c56 => ?_)
              · have q75 := q80.1 c56
                refine WP.iload rfl rfl ?_
                refine WP.bipush rfl ?_
                refine WP.ni_ne rfl (fun c57 => ?_) (fun c57 => ?_)
                · have q74 := q75.2 c57
                  refine WP.iload_n rfl rfl ?_
                  refine WP.iconst rfl ?_
                  refine WP.ni_lt rfl (fun c67 => ?_) (fun c67 => ?_)
                  · have e := kk; simp only [s_X9_value_5, s_X9_value_4, if_neg (Int.not_lt.mpr c5), if_pos c54, if_pos c55, if_pos c56, if_neg (c57), if_pos c67] at e ⊢; exact e
                  · obtain ⟨o68, o69, o70, o71, o72, o73⟩ := q74 c67
                    refine WP.iincE (L' := [(11, a0), (1025, a1), (0, x2 + (-1)), (0, x3), (0, h (a0 + 2) x3)]) rfl rfl o68 rfl ?_
                    refine WP.aload_n rfl rfl ⟨by decide, by decide⟩ ?_
                    refine WP.getR rfl rfl ?_
                    refine WP.iload_n rfl rfl ?_
                    refine WP.iload rfl rfl ?_
                    refine WP.inegE rfl o69 ?_
                    refine WP.aload_n rfl rfl ⟨by decide, by decide⟩ ?_
                    refine WP.getR rfl rfl ?_
                    refine WP.iload_n rfl rfl ?_
                    refine WP.laload rfl ⟨by decide, by decide, by decide⟩ o70 ?_
                    refine WP.aload_n rfl rfl ⟨by decide, by decide⟩ ?_
                    refine WP.getR rfl rfl ?_
                    refine WP.iload_n rfl rfl ?_
                    refine WP.iconst rfl ?_
                    refine WP.iaddE rfl o71 ?_
                    refine WP.laload rfl ⟨by decide, by decide, by decide⟩ o72 ?_
                    refine WP.callF (c_X9_joined (-(h (a0 + 2) x3)) (h (a0 + 4) (x2 + (-1))) (h (a0 + 4) ((x2 + (-1)) + 1)) h o73) rfl rfl (pm_cok rfl rfl (Or.inl rfl) rfl rfl) rfl rfl ?_
                    show WP 73 (90, [(11, a0), (1025, a1), (0, x2 + (-1)), (0, x3), (0, h (a0 + 2) x3)], [(1, F_X9_joined (-(h (a0 + 2) x3)) (h (a0 + 4) (x2 + (-1))) (h (a0 + 4) ((x2 + (-1)) + 1)) h), (0, x2 + (-1)), (1241, a0 + 4)], h) Q'
                    refine WP.lastore rfl ⟨by decide, by decide, by decide⟩ o70 ?_
                    show WP 73 (91, [(11, a0), (1025, a1), (0, x2 + (-1)), (0, x3), (0, h (a0 + 2) x3)], [], s_X9_value_1 a0 x2 x3 h) Q'
                    have e := kk; simp only [s_X9_value_5, s_X9_value_4, if_neg (Int.not_lt.mpr c5), if_pos c54, if_pos c55, if_pos c56, if_neg (c57), if_neg (Int.not_lt.mpr c67)] at e ⊢; exact e
                · have q66 := q75.1 c57
                  refine WP.iload_n rfl rfl ?_
                  refine WP.nz_lt rfl (fun c58 => ?_) (fun c58 => ?_)
                  · refine WP.iload_n rfl rfl ?_
                    refine WP.iconst rfl ?_
                    refine WP.ni_lt rfl (fun c59 => ?_) (fun c59 => ?_)
                    · have e := kk; simp only [s_X9_value_5, s_X9_value_4, if_neg (Int.not_lt.mpr c5), if_pos c54, if_pos c55, if_pos c56, if_pos c57, if_pos c59] at e ⊢; exact e
                    · obtain ⟨o60, o61, o62, o63, o64, o65⟩ := q66 c59
                      refine WP.iincE (L' := [(11, a0), (1025, a1), (0, x2 + (-1)), (0, x3), (0, h (a0 + 2) x3)]) rfl rfl o60 rfl ?_
                      refine WP.aload_n rfl rfl ⟨by decide, by decide⟩ ?_
                      refine WP.getR rfl rfl ?_
                      refine WP.iload_n rfl rfl ?_
                      refine WP.iload rfl rfl ?_
                      refine WP.inegE rfl o61 ?_
                      refine WP.aload_n rfl rfl ⟨by decide, by decide⟩ ?_
                      refine WP.getR rfl rfl ?_
                      refine WP.iload_n rfl rfl ?_
                      refine WP.laload rfl ⟨by decide, by decide, by decide⟩ o62 ?_
                      refine WP.aload_n rfl rfl ⟨by decide, by decide⟩ ?_
                      refine WP.getR rfl rfl ?_
                      refine WP.iload_n rfl rfl ?_
                      refine WP.iconst rfl ?_
                      refine WP.iaddE rfl o63 ?_
                      refine WP.laload rfl ⟨by decide, by decide, by decide⟩ o64 ?_
                      refine WP.callF (c_X9_joined (-(h (a0 + 2) x3)) (h (a0 + 4) (x2 + (-1))) (h (a0 + 4) ((x2 + (-1)) + 1)) h o65) rfl rfl (pm_cok rfl rfl (Or.inl rfl) rfl rfl) rfl rfl ?_
                      show WP 73 (90, [(11, a0), (1025, a1), (0, x2 + (-1)), (0, x3), (0, h (a0 + 2) x3)], [(1, F_X9_joined (-(h (a0 + 2) x3)) (h (a0 + 4) (x2 + (-1))) (h (a0 + 4) ((x2 + (-1)) + 1)) h), (0, x2 + (-1)), (1241, a0 + 4)], h) Q'
                      refine WP.lastore rfl ⟨by decide, by decide, by decide⟩ o62 ?_
                      show WP 73 (91, [(11, a0), (1025, a1), (0, x2 + (-1)), (0, x3), (0, h (a0 + 2) x3)], [], s_X9_value_1 a0 x2 x3 h) Q'
                      have e := kk; simp only [s_X9_value_5, s_X9_value_4, if_neg (Int.not_lt.mpr c5), if_pos c54, if_pos c55, if_pos c56, if_pos c57, if_neg (Int.not_lt.mpr c59)] at e ⊢; exact e
                  · exact absurd c56 (Int.not_lt.mpr c58)
              · have o76 := q80.2 c56
                refine WP.aload_n rfl rfl ⟨by decide, by decide⟩ ?_
                refine WP.getR rfl rfl ?_
                refine WP.iload_n rfl rfl ?_
                refine WP.aload_n rfl rfl ⟨by decide, by decide⟩ ?_
                refine WP.getR rfl rfl ?_
                refine WP.iload_n rfl rfl ?_
                refine WP.laload rfl ⟨by decide, by decide, by decide⟩ o76 ?_
                refine WP.lconst rfl ?_
                refine WP.lcmp rfl ?_
                have k77 : ∀ Q' : Option pV → pH → Prop, (WP 73 (53, [(11, a0), (1025, a1), (0, x2), (0, x3), (0, h (a0 + 2) x3)], [(1, s_X9_value_2 a0 x2 h), (0, x2), (1241, a0 + 4)], h) Q') → WP 73 (49, [(11, a0), (1025, a1), (0, x2), (0, x3), (0, h (a0 + 2) x3)], [(0, pm_lcmp (h (a0 + 4) x2) 0), (0, x2), (1241, a0 + 4)], h) Q' := fun Q' kk => by
                  refine WP.nl_ne rfl (fun c78 => ?_) (fun c78 => ?_)
                  · refine WP.lconst rfl ?_
                    have e := kk; simp only [s_X9_value_2, if_neg (c78)] at e ⊢; exact e
                  · refine WP.lconst rfl ?_
                    refine WP.goto rfl ?_
                    have e := kk; simp only [s_X9_value_2, if_pos c78] at e ⊢; exact e
                refine k77 _ ?_
                refine WP.lastore rfl ⟨by decide, by decide, by decide⟩ o76 ?_
                refine WP.goto rfl ?_
                have e := kk; simp only [s_X9_value_5, s_X9_value_4, if_neg (Int.not_lt.mpr c5), if_pos c54, if_pos c55, if_neg (Int.not_lt.mpr c56)] at e ⊢; exact e
          · obtain ⟨o103, q110, o111⟩ := q112.2 c54
            refine WP.iincE (L' := [(11, a0), (1025, a1), (0, x2 + 1), (0, x3), (0, h (a0 + 2) x3)]) rfl rfl o103 rfl ?_
            refine WP.aload_n rfl rfl ⟨by decide, by decide⟩ ?_
            refine WP.getR rfl rfl ?_
            refine WP.iload_n rfl rfl ?_
            refine WP.iload rfl rfl ?_
            have k104 : ∀ Q' : Option pV → pH → Prop, (WP 73 (33, [(11, a0), (1025, a1), (0, x2 + 1), (0, x3), (0, h (a0 + 2) x3)], [(1, s_X9_value_3 a0 a1 x3 h), (0, x2 + 1), (1241, a0 + 4)], h) Q') → WP 73 (24, [(11, a0), (1025, a1), (0, x2 + 1), (0, x3), (0, h (a0 + 2) x3)], [(0, h (a0 + 2) x3), (0, x2 + 1), (1241, a0 + 4)], h) Q' := fun Q' kk => by
              have q108 := q110
              refine WP.nz_lt rfl (fun c105 => ?_) (fun c105 => ?_)
              · obtain ⟨o106, o107⟩ := q108 c105
                refine WP.aload_n rfl rfl ⟨by decide, by decide⟩ ?_
                refine WP.iconst rfl ?_
                refine WP.iload rfl rfl ?_
                refine WP.isubE rfl o106 ?_
                refine WP.laload rfl ⟨by decide, by decide, by decide⟩ o107 ?_
                have e := kk; simp only [s_X9_value_3, if_pos c105] at e ⊢; exact e
              · refine WP.iload rfl rfl ?_
                refine WP.i2l rfl ?_
                refine WP.goto rfl ?_
                have e := kk; simp only [s_X9_value_3, if_neg (Int.not_lt.mpr c105)] at e ⊢; exact e
            refine k104 _ ?_
            refine WP.lastore rfl ⟨by decide, by decide, by decide⟩ o111 ?_
            refine WP.goto rfl ?_
            have e := kk; simp only [s_X9_value_5, s_X9_value_4, if_neg (Int.not_lt.mpr c5), if_neg (Int.not_le.mpr c54)] at e ⊢; exact e
      refine k4 _ ?_
      refine WP.iincE (L' := [(11, a0), (1025, a1), (0, s_X9_value_5 a0 x2 x3 h), (0, x3 + 1), (0, h (a0 + 2) x3)]) rfl rfl o116 rfl ?_
      refine WP.goto rfl ?_
      exact kk [(0, h (a0 + 2) x3)] (s_X9_value_5 a0 x2 x3 h, x3 + 1, s_X9_value_4 a0 a1 x2 x3 h) (rfl)
  · intro hP hc
    generalize hs : (L_X9_value_4 a0 a1 x2 x3 h : Int × Int × pH) = s at kk
    change P_X9_value_4 a0 a1 (L_X9_value_4 a0 a1 x2 x3 h).1 (L_X9_value_4 a0 a1 x2 x3 h).2.1 (L_X9_value_4 a0 a1 x2 x3 h).2.2 at hP
    change ¬ C_X9_value_4 a0 a1 (L_X9_value_4 a0 a1 x2 x3 h).1 (L_X9_value_4 a0 a1 x2 x3 h).2.1 (L_X9_value_4 a0 a1 x2 x3 h).2.2 at hc
    intro us
    show WP 73 (4, [(11, a0), (1025, a1), (0, (L_X9_value_4 a0 a1 x2 x3 h).1), (0, (L_X9_value_4 a0 a1 x2 x3 h).2.1), us.getD 0 pU], [], (L_X9_value_4 a0 a1 x2 x3 h).2.2) Q
    rw [hs] at hP hc ⊢
    obtain ⟨x2, x3, h⟩ := s
    change P_X9_value_4 a0 a1 x2 x3 h at hP
    change ¬ (x3 < h a0 6) at hc
    unfold P_X9_value_4 at hP
    show WP 73 (4, [(11, a0), (1025, a1), (0, x2), (0, x3), us.getD 0 pU], [], h) Q
    refine WP.iload_n rfl rfl ?_
    refine WP.aload_n rfl rfl ⟨by decide, by decide⟩ ?_
    refine WP.getI rfl rfl ?_
    refine WP.ni_ge rfl (fun c1 => ?_) (fun c1 => ?_)
    · exact kk [us.getD 0 pU]
    · exact absurd (show x3 < h a0 6 from c1) hc
noncomputable def s_X9_value_6 (a0 : Int) (a1 : Int) (h : pH) : Int := (L_X9_value_4 a0 a1 (-1) 0 h).1
noncomputable def s_X9_value_7 (a0 : Int) (a1 : Int) (h : pH) : Int := (L_X9_value_4 a0 a1 (-1) 0 h).2.1
noncomputable def s_X9_value_8 (a0 : Int) (a1 : Int) (h : pH) : pH := (L_X9_value_4 a0 a1 (-1) 0 h).2.2
noncomputable def s_X9_value_9 (a0 : Int) (a1 : Int) (h : pH) : Int := if 0 ≤ s_X9_value_6 a0 a1 h then (s_X9_value_8 a0 a1 h) (a0 + 4) (s_X9_value_6 a0 a1 h) else 0
noncomputable def F_X9_value (a0 : Int) (a1 : Int) (h : pH) : Int := s_X9_value_9 a0 a1 h
noncomputable def H_X9_value (a0 : Int) (a1 : Int) (h : pH) : pH := s_X9_value_8 a0 a1 h
noncomputable def P_X9_value (a0 : Int) (a1 : Int) (h : pH) : Prop := (O_X9_value_4 a0 a1 (-1) 0 h) ∧ (((0 ≤ s_X9_value_6 a0 a1 h) → ((0 ≤ s_X9_value_6 a0 a1 h ∧ s_X9_value_6 a0 a1 h < 60))))
set_option maxHeartbeats 4000000 in
theorem w_X9_value (a0 : Int) (a1 : Int) (h : pH) {Q : Option pV → pH → Prop} (hp : P_X9_value a0 a1 h) (kk : Q (some (1, F_X9_value a0 a1 h)) (H_X9_value a0 a1 h)) : WP 73 (0, [(11, a0), (1025, a1), pU, pU, pU], [], h) Q := by
  unfold P_X9_value at hp
  obtain ⟨o117, q124⟩ := hp
  refine WP.iconst rfl ?_
  refine WP.istore_n (L' := [(11, a0), (1025, a1), (0, (-1)), pU, pU]) rfl rfl ?_
  refine WP.iconst rfl ?_
  refine WP.istore_n (L' := [(11, a0), (1025, a1), (0, (-1)), (0, 0), pU]) rfl rfl ?_
  refine lp_X9_value_4 a0 a1 (-1) 0 h o117 (fun us118 => ?_) [pU]
  show WP 73 (93, [(11, a0), (1025, a1), (0, s_X9_value_6 a0 a1 h), (0, s_X9_value_7 a0 a1 h), us118.getD 0 pU], [], s_X9_value_8 a0 a1 h) Q
  refine WP.iload_n rfl rfl ?_
  have k119 : ∀ Q' : Option pV → pH → Prop, (WP 73 (101, [(11, a0), (1025, a1), (0, s_X9_value_6 a0 a1 h), (0, s_X9_value_7 a0 a1 h), us118.getD 0 pU], [(1, s_X9_value_9 a0 a1 h)], s_X9_value_8 a0 a1 h) Q') → WP 73 (94, [(11, a0), (1025, a1), (0, s_X9_value_6 a0 a1 h), (0, s_X9_value_7 a0 a1 h), us118.getD 0 pU], [(0, s_X9_value_6 a0 a1 h)], s_X9_value_8 a0 a1 h) Q' := fun Q' kk => by
    have q122 := q124
    refine WP.nz_ge rfl (fun c120 => ?_) (fun c120 => ?_)
    · have o121 := q122 c120
      refine WP.aload_n rfl rfl ⟨by decide, by decide⟩ ?_
      refine WP.getR rfl rfl ?_
      refine WP.iload_n rfl rfl ?_
      refine WP.laload rfl ⟨by decide, by decide, by decide⟩ o121 ?_
      have e := kk; simp only [s_X9_value_9, if_pos c120] at e ⊢; exact e
    · refine WP.lconst rfl ?_
      refine WP.goto rfl ?_
      have e := kk; simp only [s_X9_value_9, if_neg (Int.not_le.mpr c120)] at e ⊢; exact e
  refine k119 _ ?_
  refine WP.retl rfl ?_; exact kk
theorem c_X9_value (a0 : Int) (a1 : Int) (h : pH) (hp : P_X9_value a0 a1 h) : CP 73 [(11, a0), (1025, a1)] h (fun r h1 => r = some (1, F_X9_value a0 a1 h) ∧ h1 = H_X9_value a0 a1 h) := w_X9_value a0 a1 h hp ⟨rfl, rfl⟩
noncomputable def F_X10_isAhead (a0 : Int) (a1 : Int) (a2 : Int) (h : pH) : Int := if F_X10_placeInOrder a0 a1 h < F_X10_placeInOrder a0 a2 h then 1 else 0
noncomputable def P_X10_isAhead (a0 : Int) (a1 : Int) (a2 : Int) (h : pH) : Prop := P_X10_placeInOrder a0 a1 h ∧ P_X10_placeInOrder a0 a2 h
set_option maxHeartbeats 4000000 in
theorem w_X10_isAhead (a0 : Int) (a1 : Int) (a2 : Int) (h : pH) {Q : Option pV → pH → Prop} (hp : P_X10_isAhead a0 a1 a2 h) (kk : Q (some (0, F_X10_isAhead a0 a1 a2 h)) (h)) : WP 81 (0, [(12, a0), (0, a1), (0, a2)], [], h) Q := by
  unfold P_X10_isAhead at hp
  obtain ⟨o1, o2⟩ := hp
  refine WP.aload_n rfl rfl ⟨by decide, by decide⟩ ?_
  refine WP.iload_n rfl rfl ?_
  refine WP.callF (c_X10_placeInOrder a0 a1 h o1) rfl rfl (pm_cok rfl rfl (Or.inr ⟨_, _, rfl⟩) rfl rfl) rfl rfl ?_
  show WP 81 (3, [(12, a0), (0, a1), (0, a2)], [(0, F_X10_placeInOrder a0 a1 h)], h) Q
  refine WP.aload_n rfl rfl ⟨by decide, by decide⟩ ?_
  refine WP.iload_n rfl rfl ?_
  refine WP.callF (c_X10_placeInOrder a0 a2 h o2) rfl rfl (pm_cok rfl rfl (Or.inr ⟨_, _, rfl⟩) rfl rfl) rfl rfl ?_
  show WP 81 (6, [(12, a0), (0, a1), (0, a2)], [(0, F_X10_placeInOrder a0 a2 h), (0, F_X10_placeInOrder a0 a1 h)], h) Q
  have k3 : ∀ Q' : Option pV → pH → Prop, (WP 81 (10, [(12, a0), (0, a1), (0, a2)], [(0, if F_X10_placeInOrder a0 a1 h < F_X10_placeInOrder a0 a2 h then 1 else 0)], h) Q') → WP 81 (6, [(12, a0), (0, a1), (0, a2)], [(0, F_X10_placeInOrder a0 a2 h), (0, F_X10_placeInOrder a0 a1 h)], h) Q' := fun Q' kk => by
    refine WP.ni_ge rfl (fun c4 => ?_) (fun c4 => ?_)
    · refine WP.iconst rfl ?_
      have e := kk; simp only [if_pos c4, if_neg (show ¬ (F_X10_placeInOrder a0 a1 h < F_X10_placeInOrder a0 a2 h) from Int.not_lt.mpr c4)] at e ⊢; exact e
    · refine WP.iconst rfl ?_
      refine WP.goto rfl ?_
      have e := kk; simp only [if_neg (Int.not_le.mpr c4), if_pos (show F_X10_placeInOrder a0 a1 h < F_X10_placeInOrder a0 a2 h from c4)] at e ⊢; exact e
  refine k3 _ ?_
  refine WP.retz rfl (fx_01 _) ?_; exact kk
theorem c_X10_isAhead (a0 : Int) (a1 : Int) (a2 : Int) (h : pH) (hp : P_X10_isAhead a0 a1 a2 h) : CP 81 [(12, a0), (0, a1), (0, a2)] h (fun r h1 => r = some (0, F_X10_isAhead a0 a1 a2 h) ∧ h1 = h) := w_X10_isAhead a0 a1 a2 h hp ⟨rfl, rfl⟩
noncomputable def F_X10_tell (a0 : Int) (a1 : Int) (a2 : Int) (h : pH) : Int := if 0 ≤ a1 ∧ a1 ≤ ((h a0 15) - 1) then if a2 = 0 then h (a0 + 11) a1 else if a2 = 1 then h (a0 + 10) a1 else if a2 = 2 then h (a0 + 12) a1 else if a2 = 3 then h (a0 + 5) a1 else if a2 = 4 then h (a0 + 14) a1 else (-2) else (-2)
noncomputable def P_X10_tell (a0 : Int) (a1 : Int) (a2 : Int) (h : pH) : Prop := (fx_i ((h a0 15) - 1)) ∧ ((0 ≤ a1 ∧ a1 ≤ ((h a0 15) - 1)) → ((((a2 = 0) → ((0 ≤ a1 ∧ a1 < 16))) ∧ ((¬ a2 = 0) → ((((a2 = 1) → ((0 ≤ a1 ∧ a1 < 16))) ∧ ((¬ a2 = 1) → ((((a2 = 2) → ((0 ≤ a1 ∧ a1 < 16))) ∧ ((¬ a2 = 2) → ((((a2 = 3) → ((0 ≤ a1 ∧ a1 < 16))) ∧ ((¬ a2 = 3) → (((a2 = 4) → ((0 ≤ a1 ∧ a1 < 16)))))))))))))))))
set_option maxHeartbeats 4000000 in
theorem w_X10_tell (a0 : Int) (a1 : Int) (a2 : Int) (h : pH) {Q : Option pV → pH → Prop} (hp : P_X10_tell a0 a1 a2 h) (kk : Q (some (0, F_X10_tell a0 a1 a2 h)) (h)) : WP 83 (0, [(12, a0), (0, a1), (0, a2)], [], h) Q := by
  unfold P_X10_tell at hp
  obtain ⟨o1, q18⟩ := hp
  refine WP.iload_n rfl rfl ?_
  refine WP.iconst rfl ?_
  refine WP.aload_n rfl rfl ⟨by decide, by decide⟩ ?_
  refine WP.getI rfl rfl ?_
  refine WP.iconst rfl ?_
  refine WP.isubE rfl o1 ?_
  refine WP.callF (c_X11_within a1 0 ((h a0 15) - 1) h) rfl rfl (pm_cok rfl rfl (Or.inl rfl) rfl rfl) rfl rfl ?_
  show WP 83 (7, [(12, a0), (0, a1), (0, a2)], [(0, if 0 ≤ a1 ∧ a1 ≤ ((h a0 15) - 1) then 1 else 0)], h) Q
  refine WP.nb_ne rfl (fun c2 => ?_) (fun c2 => ?_)
  · have q17 := q18 c2
    refine WP.iload_n rfl rfl ?_
    refine WP.ntsw rfl rfl ?_
    show WP 83 (fx_sw 0 [12, 17, 22, 27, 32] 37 a2, [(12, a0), (0, a1), (0, a2)], [], h) Q
    refine WP.nsl rfl (fun (c3 : a2 = 0) => ?_) (fun (c3 : ¬ a2 = 0) => ?_)
    · have o4 := q17.1 c3
      show WP 83 (12, [(12, a0), (0, a1), (0, a2)], [], h) Q
      refine WP.aload_n rfl rfl ⟨by decide, by decide⟩ ?_
      refine WP.getR rfl rfl ?_
      refine WP.iload_n rfl rfl ?_
      refine WP.iaload rfl ⟨by decide, by decide, by decide⟩ o4 ?_
      refine WP.reti rfl ?_; have e := kk; simp only [F_X10_tell, if_pos c2, if_pos c3] at e ⊢; exact e
    · have q16 := q17.2 c3
      refine WP.nsl rfl (fun (c5 : a2 = 1) => ?_) (fun (c5 : ¬ a2 = 1) => ?_)
      · have o6 := q16.1 c5
        show WP 83 (17, [(12, a0), (0, a1), (0, a2)], [], h) Q
        refine WP.aload_n rfl rfl ⟨by decide, by decide⟩ ?_
        refine WP.getR rfl rfl ?_
        refine WP.iload_n rfl rfl ?_
        refine WP.iaload rfl ⟨by decide, by decide, by decide⟩ o6 ?_
        refine WP.reti rfl ?_; have e := kk; simp only [F_X10_tell, if_pos c2, if_neg (c3), if_pos c5] at e ⊢; exact e
      · have q15 := q16.2 c5
        refine WP.nsl rfl (fun (c7 : a2 = 2) => ?_) (fun (c7 : ¬ a2 = 2) => ?_)
        · have o8 := q15.1 c7
          show WP 83 (22, [(12, a0), (0, a1), (0, a2)], [], h) Q
          refine WP.aload_n rfl rfl ⟨by decide, by decide⟩ ?_
          refine WP.getR rfl rfl ?_
          refine WP.iload_n rfl rfl ?_
          refine WP.iaload rfl ⟨by decide, by decide, by decide⟩ o8 ?_
          refine WP.reti rfl ?_; have e := kk; simp only [F_X10_tell, if_pos c2, if_neg (c3), if_neg (c5), if_pos c7] at e ⊢; exact e
        · have q14 := q15.2 c7
          refine WP.nsl rfl (fun (c9 : a2 = 3) => ?_) (fun (c9 : ¬ a2 = 3) => ?_)
          · have o10 := q14.1 c9
            show WP 83 (27, [(12, a0), (0, a1), (0, a2)], [], h) Q
            refine WP.aload_n rfl rfl ⟨by decide, by decide⟩ ?_
            refine WP.getR rfl rfl ?_
            refine WP.iload_n rfl rfl ?_
            refine WP.iaload rfl ⟨by decide, by decide, by decide⟩ o10 ?_
            refine WP.reti rfl ?_; have e := kk; simp only [F_X10_tell, if_pos c2, if_neg (c3), if_neg (c5), if_neg (c7), if_pos c9] at e ⊢; exact e
          · have q13 := q14.2 c9
            refine WP.nsl rfl (fun (c11 : a2 = 4) => ?_) (fun (c11 : ¬ a2 = 4) => ?_)
            · have o12 := q13 c11
              show WP 83 (32, [(12, a0), (0, a1), (0, a2)], [], h) Q
              refine WP.aload_n rfl rfl ⟨by decide, by decide⟩ ?_
              refine WP.getR rfl rfl ?_
              refine WP.iload_n rfl rfl ?_
              refine WP.iaload rfl ⟨by decide, by decide, by decide⟩ o12 ?_
              refine WP.reti rfl ?_; have e := kk; simp only [F_X10_tell, if_pos c2, if_neg (c3), if_neg (c5), if_neg (c7), if_neg (c9), if_pos c11] at e ⊢; exact e
            · show WP 83 (37, [(12, a0), (0, a1), (0, a2)], [], h) Q
              refine WP.bipush rfl ?_
              refine WP.reti rfl ?_; have e := kk; simp only [F_X10_tell, if_pos c2, if_neg (c3), if_neg (c5), if_neg (c7), if_neg (c9), if_neg (c11)] at e ⊢; exact e
  · refine WP.bipush rfl ?_
    refine WP.reti rfl ?_; have e := kk; simp only [F_X10_tell, if_neg (c2)] at e ⊢; exact e
theorem c_X10_tell (a0 : Int) (a1 : Int) (a2 : Int) (h : pH) (hp : P_X10_tell a0 a1 a2 h) : CP 83 [(12, a0), (0, a1), (0, a2)] h (fun r h1 => r = some (0, F_X10_tell a0 a1 a2 h) ∧ h1 = h) := w_X10_tell a0 a1 a2 h hp ⟨rfl, rfl⟩
noncomputable def F_X10_isOpen (a0 : Int) (a1 : Int) (h : pH) : Int := if (0 ≤ a1 ∧ a1 ≤ ((h a0 15) - 1)) ∧ h (a0 + 11) a1 = 1 then 1 else 0
noncomputable def P_X10_isOpen (a0 : Int) (a1 : Int) (h : pH) : Prop := (fx_i ((h a0 15) - 1)) ∧ (((0 ≤ a1 ∧ a1 ≤ ((h a0 15) - 1)) → ((0 ≤ a1 ∧ a1 < 16))))
set_option maxHeartbeats 4000000 in
theorem w_X10_isOpen (a0 : Int) (a1 : Int) (h : pH) {Q : Option pV → pH → Prop} (hp : P_X10_isOpen a0 a1 h) (kk : Q (some (0, F_X10_isOpen a0 a1 h)) (h)) : WP 85 (0, [(12, a0), (0, a1)], [], h) Q := by
  unfold P_X10_isOpen at hp
  obtain ⟨o1, q8⟩ := hp
  refine WP.iload_n rfl rfl ?_
  refine WP.iconst rfl ?_
  refine WP.aload_n rfl rfl ⟨by decide, by decide⟩ ?_
  refine WP.getI rfl rfl ?_
  refine WP.iconst rfl ?_
  refine WP.isubE rfl o1 ?_
  refine WP.callF (c_X11_within a1 0 ((h a0 15) - 1) h) rfl rfl (pm_cok rfl rfl (Or.inl rfl) rfl rfl) rfl rfl ?_
  show WP 85 (7, [(12, a0), (0, a1)], [(0, if 0 ≤ a1 ∧ a1 ≤ ((h a0 15) - 1) then 1 else 0)], h) Q
  have k2 : ∀ Q' : Option pV → pH → Prop, (WP 85 (17, [(12, a0), (0, a1)], [(0, if (0 ≤ a1 ∧ a1 ≤ ((h a0 15) - 1)) ∧ h (a0 + 11) a1 = 1 then 1 else 0)], h) Q') → WP 85 (7, [(12, a0), (0, a1)], [(0, if 0 ≤ a1 ∧ a1 ≤ ((h a0 15) - 1) then 1 else 0)], h) Q' := fun Q' kk => by
    have q6 := q8
    refine WP.nb_eq rfl (fun c3 => ?_) (fun c3 => ?_)
    · refine WP.iconst rfl ?_
      have e := kk; simp only [if_neg (c3), if_neg (show ¬ ((0 ≤ a1 ∧ a1 ≤ ((h a0 15) - 1)) ∧ h (a0 + 11) a1 = 1) from fun q => (c3) q.1)] at e ⊢; exact e
    · have o4 := q6 c3
      refine WP.aload_n rfl rfl ⟨by decide, by decide⟩ ?_
      refine WP.getR rfl rfl ?_
      refine WP.iload_n rfl rfl ?_
      refine WP.iaload rfl ⟨by decide, by decide, by decide⟩ o4 ?_
      refine WP.iconst rfl ?_
      refine WP.ni_ne rfl (fun c5 => ?_) (fun c5 => ?_)
      · refine WP.iconst rfl ?_
        have e := kk; simp only [if_pos c3, if_neg (c5), if_neg (show ¬ ((0 ≤ a1 ∧ a1 ≤ ((h a0 15) - 1)) ∧ h (a0 + 11) a1 = 1) from fun q => (c5) q.2)] at e ⊢; exact e
      · refine WP.iconst rfl ?_
        refine WP.goto rfl ?_
        have e := kk; simp only [if_pos c3, if_pos c5, if_pos (show (0 ≤ a1 ∧ a1 ≤ ((h a0 15) - 1)) ∧ h (a0 + 11) a1 = 1 from ⟨c3, c5⟩)] at e ⊢; exact e
  refine k2 _ ?_
  refine WP.retz rfl (fx_01 _) ?_; exact kk
theorem c_X10_isOpen (a0 : Int) (a1 : Int) (h : pH) (hp : P_X10_isOpen a0 a1 h) : CP 85 [(12, a0), (0, a1)] h (fun r h1 => r = some (0, F_X10_isOpen a0 a1 h) ∧ h1 = h) := w_X10_isOpen a0 a1 h hp ⟨rfl, rfl⟩
noncomputable def H_X10_clear (a0 : Int) (h : pH) : pH := fx_fill (fx_fill h (a0 + 13) 16 0) (a0 + 14) 16 (-1)
set_option maxHeartbeats 4000000 in
theorem w_X10_clear (a0 : Int) (h : pH) {Q : Option pV → pH → Prop} (kk : Q (none) (H_X10_clear a0 h)) : WP 90 (0, [(12, a0)], [], h) Q := by
  refine WP.aload_n rfl rfl ⟨by decide, by decide⟩ ?_
  refine WP.getR rfl rfl ?_
  refine WP.iconst rfl ?_
  refine WP.callF (c_J7_fill_I 1064 (a0 + 13) 0 _ ⟨by decide, by decide, by decide⟩ rfl (by decide)) rfl rfl (pm_cok rfl rfl (Or.inl rfl) rfl rfl) rfl rfl ?_
  show WP 90 (4, [(12, a0)], [], fx_fill h (a0 + 13) 16 0) Q
  refine WP.aload_n rfl rfl ⟨by decide, by decide⟩ ?_
  refine WP.getR rfl rfl ?_
  refine WP.iconst rfl ?_
  refine WP.callF (c_J7_fill_I 1064 (a0 + 14) (-1) _ ⟨by decide, by decide, by decide⟩ rfl (by decide)) rfl rfl (pm_cok rfl rfl (Or.inl rfl) rfl rfl) rfl rfl ?_
  show WP 90 (8, [(12, a0)], [], fx_fill (fx_fill h (a0 + 13) 16 0) (a0 + 14) 16 (-1)) Q
  refine WP.retv rfl ?_; exact kk
theorem c_X10_clear (a0 : Int) (h : pH) : CP 90 [(12, a0)] h (fun r h1 => r = none ∧ h1 = H_X10_clear a0 h) := w_X10_clear a0 h ⟨rfl, rfl⟩
noncomputable def s_X10_finish_1 (a0 : Int) (a1 : Int) (a2 : Int) (h : pH) : Int := if h (a0 + 13) a1 = 0 then a2 else 0
noncomputable def s_X10_finish_2 (a0 : Int) (a1 : Int) (h : pH) : Int := if h (a0 + 13) a1 = 0 then 6 else h (a0 + 13) a1
noncomputable def s_X10_finish_3 (a0 : Int) (a1 : Int) (a2 : Int) (h : pH) : pH := H_X10_finishSteady a0 a1 (s_X10_finish_1 a0 a1 a2 h) (s_X10_finish_2 a0 a1 h) h
noncomputable def s_X10_finish_4 (a0 : Int) (a1 : Int) (a2 : Int) (h : pH) : pH := pm_upd h (a0 + 10) a1 ((h (a0 + 10) a1) + (s_X10_finish_1 a0 a1 a2 h))
noncomputable def s_X10_finish_5 (a0 : Int) (a1 : Int) (a2 : Int) (h : pH) : Int := if s_X10_finish_1 a0 a1 a2 h = 3 then (s_X10_finish_4 a0 a1 a2 h) (a0 + 12) a1 else s_X10_finish_2 a0 a1 h
noncomputable def s_X10_finish_6 (a0 : Int) (a1 : Int) (a2 : Int) (h : pH) : pH := pm_upd (s_X10_finish_4 a0 a1 a2 h) (a0 + 12) a1 (s_X10_finish_5 a0 a1 a2 h)
noncomputable def s_X10_finish_7 (a0 : Int) (a1 : Int) (a2 : Int) (h : pH) : pH := if h (a0 + 4) a1 = 1 then s_X10_finish_3 a0 a1 a2 h else s_X10_finish_6 a0 a1 a2 h
noncomputable def H_X10_finish (a0 : Int) (a1 : Int) (a2 : Int) (h : pH) : pH := s_X10_finish_7 a0 a1 a2 h
noncomputable def P_X10_finish (a0 : Int) (a1 : Int) (a2 : Int) (h : pH) : Prop := (0 ≤ a1 ∧ a1 < 16) ∧ ((((h (a0 + 4) a1 = 1) → ((P_X10_finishSteady a0 a1 (s_X10_finish_1 a0 a1 a2 h) (s_X10_finish_2 a0 a1 h) h))) ∧ ((¬ h (a0 + 4) a1 = 1) → ((fx_i ((h (a0 + 10) a1) + (s_X10_finish_1 a0 a1 a2 h)))))))
set_option maxHeartbeats 4000000 in
theorem w_X10_finish (a0 : Int) (a1 : Int) (a2 : Int) (h : pH) {Q : Option pV → pH → Prop} (hp : P_X10_finish a0 a1 a2 h) (kk : Q (none) (H_X10_finish a0 a1 a2 h)) : WP 91 (0, [(12, a0), (0, a1), (0, a2), pU, pU], [], h) Q := by
  unfold P_X10_finish at hp
  obtain ⟨o1, q17⟩ := hp
  refine WP.aload_n rfl rfl ⟨by decide, by decide⟩ ?_
  refine WP.getR rfl rfl ?_
  refine WP.iload_n rfl rfl ?_
  refine WP.iaload rfl ⟨by decide, by decide, by decide⟩ o1 ?_
  have k2 : ∀ Q' : Option pV → pH → Prop, (WP 91 (8, [(12, a0), (0, a1), (0, a2), pU, pU], [(0, s_X10_finish_1 a0 a1 a2 h)], h) Q') → WP 91 (4, [(12, a0), (0, a1), (0, a2), pU, pU], [(0, h (a0 + 13) a1)], h) Q' := fun Q' kk => by
    refine WP.nz_ne rfl (fun c3 => ?_) (fun c3 => ?_)
    · refine WP.iconst rfl ?_
      have e := kk; simp only [s_X10_finish_1, if_neg (c3)] at e ⊢; exact e
    · refine WP.iload_n rfl rfl ?_
      refine WP.goto rfl ?_
      have e := kk; simp only [s_X10_finish_1, if_pos c3] at e ⊢; exact e
  refine k2 _ ?_
  refine WP.istore_n (L' := [(12, a0), (0, a1), (0, a2), (0, s_X10_finish_1 a0 a1 a2 h), pU]) rfl rfl ?_
  refine WP.aload_n rfl rfl ⟨by decide, by decide⟩ ?_
  refine WP.getR rfl rfl ?_
  refine WP.iload_n rfl rfl ?_
  refine WP.iaload rfl ⟨by decide, by decide, by decide⟩ o1 ?_
  have k5 : ∀ Q' : Option pV → pH → Prop, (WP 91 (20, [(12, a0), (0, a1), (0, a2), (0, s_X10_finish_1 a0 a1 a2 h), pU], [(0, s_X10_finish_2 a0 a1 h)], h) Q') → WP 91 (13, [(12, a0), (0, a1), (0, a2), (0, s_X10_finish_1 a0 a1 a2 h), pU], [(0, h (a0 + 13) a1)], h) Q' := fun Q' kk => by
    refine WP.nz_ne rfl (fun c6 => ?_) (fun c6 => ?_)
    · refine WP.aload_n rfl rfl ⟨by decide, by decide⟩ ?_
      refine WP.getR rfl rfl ?_
      refine WP.iload_n rfl rfl ?_
      refine WP.iaload rfl ⟨by decide, by decide, by decide⟩ o1 ?_
      have e := kk; simp only [s_X10_finish_2, if_neg (c6)] at e ⊢; exact e
    · refine WP.bipush rfl ?_
      refine WP.goto rfl ?_
      have e := kk; simp only [s_X10_finish_2, if_pos c6] at e ⊢; exact e
  refine k5 _ ?_
  refine WP.istore (L' := [(12, a0), (0, a1), (0, a2), (0, s_X10_finish_1 a0 a1 a2 h), (0, s_X10_finish_2 a0 a1 h)]) rfl rfl ?_
  refine WP.aload_n rfl rfl ⟨by decide, by decide⟩ ?_
  refine WP.getR rfl rfl ?_
  refine WP.iload_n rfl rfl ?_
  refine WP.iaload rfl ⟨by decide, by decide, by decide⟩ o1 ?_
  refine WP.iconst rfl ?_
  have k8 : ∀ Q' : Option pV → pH → Prop, (WP 91 (54, [(12, a0), (0, a1), (0, a2), (0, s_X10_finish_1 a0 a1 a2 h), (0, s_X10_finish_2 a0 a1 h)], [], s_X10_finish_7 a0 a1 a2 h) Q') → WP 91 (26, [(12, a0), (0, a1), (0, a2), (0, s_X10_finish_1 a0 a1 a2 h), (0, s_X10_finish_2 a0 a1 h)], [(0, 1), (0, h (a0 + 4) a1)], h) Q' := fun Q' kk => by
    have q15 := q17
    refine WP.ni_ne rfl (fun c9 => ?_) (fun c9 => ?_)
    · have o11 := q15.2 c9
      refine WP.aload_n rfl rfl ⟨by decide, by decide⟩ ?_
      refine WP.getR rfl rfl ?_
      refine WP.iload_n rfl rfl ?_
      refine WP.dup2 rfl (by decide) (by decide) ?_
      refine WP.iaload rfl ⟨by decide, by decide, by decide⟩ o1 ?_
      refine WP.iload_n rfl rfl ?_
      refine WP.iaddE rfl o11 ?_
      refine WP.iastore rfl ⟨by decide, by decide, by decide⟩ o1 ?_
      show WP 91 (41, [(12, a0), (0, a1), (0, a2), (0, s_X10_finish_1 a0 a1 a2 h), (0, s_X10_finish_2 a0 a1 h)], [], s_X10_finish_4 a0 a1 a2 h) Q'
      refine WP.aload_n rfl rfl ⟨by decide, by decide⟩ ?_
      refine WP.getR rfl rfl ?_
      refine WP.iload_n rfl rfl ?_
      refine WP.iload_n rfl rfl ?_
      refine WP.iconst rfl ?_
      have k12 : ∀ Q' : Option pV → pH → Prop, (WP 91 (53, [(12, a0), (0, a1), (0, a2), (0, s_X10_finish_1 a0 a1 a2 h), (0, s_X10_finish_2 a0 a1 h)], [(0, s_X10_finish_5 a0 a1 a2 h), (0, a1), (1064, a0 + 12)], s_X10_finish_4 a0 a1 a2 h) Q') → WP 91 (46, [(12, a0), (0, a1), (0, a2), (0, s_X10_finish_1 a0 a1 a2 h), (0, s_X10_finish_2 a0 a1 h)], [(0, 3), (0, s_X10_finish_1 a0 a1 a2 h), (0, a1), (1064, a0 + 12)], s_X10_finish_4 a0 a1 a2 h) Q' := fun Q' kk => by
        refine WP.ni_ne rfl (fun c13 => ?_) (fun c13 => ?_)
        · refine WP.iload rfl rfl ?_
          have e := kk; simp only [s_X10_finish_5, if_neg (c13)] at e ⊢; exact e
        · refine WP.aload_n rfl rfl ⟨by decide, by decide⟩ ?_
          refine WP.getR rfl rfl ?_
          refine WP.iload_n rfl rfl ?_
          refine WP.iaload rfl ⟨by decide, by decide, by decide⟩ o1 ?_
          refine WP.goto rfl ?_
          have e := kk; simp only [s_X10_finish_5, if_pos c13] at e ⊢; exact e
      refine k12 _ ?_
      refine WP.iastore rfl ⟨by decide, by decide, by decide⟩ o1 ?_
      show WP 91 (54, [(12, a0), (0, a1), (0, a2), (0, s_X10_finish_1 a0 a1 a2 h), (0, s_X10_finish_2 a0 a1 h)], [], s_X10_finish_6 a0 a1 a2 h) Q'
      have e := kk; simp only [s_X10_finish_7, if_neg (c9)] at e ⊢; exact e
    · have o10 := q15.1 c9
      refine WP.aload_n rfl rfl ⟨by decide, by decide⟩ ?_
      refine WP.iload_n rfl rfl ?_
      refine WP.iload_n rfl rfl ?_
      refine WP.iload rfl rfl ?_
      refine WP.callF (c_X10_finishSteady a0 a1 (s_X10_finish_1 a0 a1 a2 h) (s_X10_finish_2 a0 a1 h) h o10) rfl rfl (pm_cok rfl rfl (Or.inr ⟨_, _, rfl⟩) rfl rfl) rfl rfl ?_
      show WP 91 (32, [(12, a0), (0, a1), (0, a2), (0, s_X10_finish_1 a0 a1 a2 h), (0, s_X10_finish_2 a0 a1 h)], [], s_X10_finish_3 a0 a1 a2 h) Q'
      refine WP.goto rfl ?_
      have e := kk; simp only [s_X10_finish_7, if_pos c9] at e ⊢; exact e
  refine k8 _ ?_
  refine WP.retv rfl ?_; exact kk
theorem c_X10_finish (a0 : Int) (a1 : Int) (a2 : Int) (h : pH) (hp : P_X10_finish a0 a1 a2 h) : CP 91 [(12, a0), (0, a1), (0, a2)] h (fun r h1 => r = none ∧ h1 = H_X10_finish a0 a1 a2 h) := w_X10_finish a0 a1 a2 h hp ⟨rfl, rfl⟩
noncomputable def s_X10_close_1 (a0 : Int) (a1 : Int) (x3 : Int) (h : pH) : pH := if h (a0 + 11) x3 = 0 then pm_upd h (a0 + 11) x3 (F_X10_stateAt a0 x3 a1 h) else if h (a0 + 11) x3 = 1 then pm_upd h (a0 + 11) x3 (F_X10_stateAt a0 x3 a1 h) else h
noncomputable def s_X10_close_2 (a0 : Int) (a1 : Int) (x2 : Int) (x3 : Int) (h : pH) : Int := if h (a0 + 11) x3 = 0 then if (pm_upd h (a0 + 11) x3 (F_X10_stateAt a0 x3 a1 h)) (a0 + 11) x3 = 3 then x2 + 1 else x2 else if h (a0 + 11) x3 = 1 then if (pm_upd h (a0 + 11) x3 (F_X10_stateAt a0 x3 a1 h)) (a0 + 11) x3 = 3 then x2 + 1 else x2 else x2
def C_X10_close_4 (a0 : Int) (a1 : Int) (x2 : Int) (x3 : Int) (h : pH) : Prop := x3 < h a0 15
noncomputable def B_X10_close_4 (a0 : Int) (a1 : Int) (x2 : Int) (x3 : Int) (h : pH) : Int × Int × pH := (s_X10_close_2 a0 a1 x2 x3 h, x3 + 1, s_X10_close_1 a0 a1 x3 h)
noncomputable def P_X10_close_4 (a0 : Int) (a1 : Int) (x2 : Int) (x3 : Int) (h : pH) : Prop := ((x3 < h a0 15) → (0 ≤ x3 ∧ x3 < 16) ∧ ((((h (a0 + 11) x3 = 0) → (P_X10_stateAt a0 x3 a1 h ∧ (((pm_upd h (a0 + 11) x3 (F_X10_stateAt a0 x3 a1 h)) (a0 + 11) x3 = 3) → ((fx_i (x2 + 1)))))) ∧ ((¬ h (a0 + 11) x3 = 0) → (((h (a0 + 11) x3 = 1) → (P_X10_stateAt a0 x3 a1 h ∧ (((pm_upd h (a0 + 11) x3 (F_X10_stateAt a0 x3 a1 h)) (a0 + 11) x3 = 3) → ((fx_i (x2 + 1)))))))))) ∧ (fx_i (x3 + 1)))
noncomputable def L_X10_close_4 (a0 : Int) (a1 : Int) (x2 : Int) (x3 : Int) (h : pH) : Int × Int × pH := fx_wh (σ := Int × Int × pH) (fun s => C_X10_close_4 a0 a1 s.1 s.2.1 s.2.2) (fun s => B_X10_close_4 a0 a1 s.1 s.2.1 s.2.2) (x2, x3, h)
def O_X10_close_4 (a0 : Int) (a1 : Int) (x2 : Int) (x3 : Int) (h : pH) : Prop := fx_ok (σ := Int × Int × pH) (fun s => C_X10_close_4 a0 a1 s.1 s.2.1 s.2.2) (fun s => B_X10_close_4 a0 a1 s.1 s.2.1 s.2.2) (fun s => P_X10_close_4 a0 a1 s.1 s.2.1 s.2.2) (x2, x3, h)
set_option maxHeartbeats 4000000 in
theorem lp_X10_close_4 (a0 : Int) (a1 : Int) (x2 : Int) (x3 : Int) (h : pH) {Q : Option pV → pH → Prop} (hp : O_X10_close_4 a0 a1 x2 x3 h) (kk : ∀ us : List pV, WP 93 (36, [(12, a0), (0, a1), (0, (L_X10_close_4 a0 a1 x2 x3 h).1), (0, (L_X10_close_4 a0 a1 x2 x3 h).2.1)], [], (L_X10_close_4 a0 a1 x2 x3 h).2.2) Q) : ∀ us : List pV, WP 93 (4, [(12, a0), (0, a1), (0, x2), (0, x3)], [], h) Q := by
  refine WP.wh (σ := Int × Int × pH) (fun s => C_X10_close_4 a0 a1 s.1 s.2.1 s.2.2) (fun s => B_X10_close_4 a0 a1 s.1 s.2.1 s.2.2) (fun s => P_X10_close_4 a0 a1 s.1 s.2.1 s.2.2) (fun s us => (4, [(12, a0), (0, a1), (0, s.1), (0, s.2.1)], [], s.2.2)) (x2, x3, h) hp ?_ ?_
  · intro s us hP hc kk
    obtain ⟨x2, x3, h⟩ := s
    change P_X10_close_4 a0 a1 x2 x3 h at hP
    change x3 < h a0 15 at hc
    replace kk : ∀ (us' : List pV) (s' : Int × Int × pH), s' = B_X10_close_4 a0 a1 x2 x3 h → WP 93 (4, [(12, a0), (0, a1), (0, s'.1), (0, s'.2.1)], [], s'.2.2) Q := fun us' s' e => by subst e; exact kk us'
    unfold P_X10_close_4 at hP
    obtain ⟨o3, q18, o19⟩ := hP hc
    show WP 93 (4, [(12, a0), (0, a1), (0, x2), (0, x3)], [], h) Q
    refine WP.iload_n rfl rfl ?_
    refine WP.aload_n rfl rfl ⟨by decide, by decide⟩ ?_
    refine WP.getI rfl rfl ?_
    refine WP.ni_ge rfl (fun c2 => ?_) (fun c2 => ?_)
    · exact absurd hc (Int.not_lt.mpr c2)
    · refine WP.aload_n rfl rfl ⟨by decide, by decide⟩ ?_
      refine WP.getR rfl rfl ?_
      refine WP.iload_n rfl rfl ?_
      refine WP.iaload rfl ⟨by decide, by decide, by decide⟩ o3 ?_
      have k4 : ∀ Q' : Option pV → pH → Prop, (WP 93 (34, [(12, a0), (0, a1), (0, s_X10_close_2 a0 a1 x2 x3 h), (0, x3)], [], s_X10_close_1 a0 a1 x3 h) Q') → WP 93 (12, [(12, a0), (0, a1), (0, x2), (0, x3)], [(0, h (a0 + 11) x3)], h) Q' := fun Q' kk => by
        have q16 := q18
        refine WP.nz_eq rfl (fun c5 => ?_) (fun c5 => ?_)
        · obtain ⟨o6, q9⟩ := q16.1 c5
          refine WP.aload_n rfl rfl ⟨by decide, by decide⟩ ?_
          refine WP.getR rfl rfl ?_
          refine WP.iload_n rfl rfl ?_
          refine WP.aload_n rfl rfl ⟨by decide, by decide⟩ ?_
          refine WP.iload_n rfl rfl ?_
          refine WP.iload_n rfl rfl ?_
          refine WP.callF (c_X10_stateAt a0 x3 a1 h o6) rfl rfl (pm_cok rfl rfl (Or.inr ⟨_, _, rfl⟩) rfl rfl) rfl rfl ?_
          show WP 93 (26, [(12, a0), (0, a1), (0, x2), (0, x3)], [(0, F_X10_stateAt a0 x3 a1 h), (0, x3), (1064, a0 + 11)], h) Q'
          refine WP.iastore rfl ⟨by decide, by decide, by decide⟩ o3 ?_
          refine WP.aload_n rfl rfl ⟨by decide, by decide⟩ ?_
          refine WP.getR rfl rfl ?_
          refine WP.iload_n rfl rfl ?_
          refine WP.iaload rfl ⟨by decide, by decide, by decide⟩ o3 ?_
          refine WP.iconst rfl ?_
          refine WP.ni_ne rfl (fun c7 => ?_) (fun c7 => ?_)
          · have e := kk; simp only [s_X10_close_2, s_X10_close_1, if_pos c5, if_neg (c7)] at e ⊢; exact e
          · have o8 := q9 c7
            refine WP.iincE (L' := [(12, a0), (0, a1), (0, x2 + 1), (0, x3)]) rfl rfl o8 rfl ?_
            have e := kk; simp only [s_X10_close_2, s_X10_close_1, if_pos c5, if_pos c7] at e ⊢; exact e
        · have q15 := q16.2 c5
          refine WP.aload_n rfl rfl ⟨by decide, by decide⟩ ?_
          refine WP.getR rfl rfl ?_
          refine WP.iload_n rfl rfl ?_
          refine WP.iaload rfl ⟨by decide, by decide, by decide⟩ o3 ?_
          refine WP.iconst rfl ?_
          refine WP.ni_ne rfl (fun c10 => ?_) (fun c10 => ?_)
          · have e := kk; simp only [s_X10_close_2, s_X10_close_1, if_neg (c5), if_neg (c10)] at e ⊢; exact e
          · obtain ⟨o11, q14⟩ := q15 c10
            refine WP.aload_n rfl rfl ⟨by decide, by decide⟩ ?_
            refine WP.getR rfl rfl ?_
            refine WP.iload_n rfl rfl ?_
            refine WP.aload_n rfl rfl ⟨by decide, by decide⟩ ?_
            refine WP.iload_n rfl rfl ?_
            refine WP.iload_n rfl rfl ?_
            refine WP.callF (c_X10_stateAt a0 x3 a1 h o11) rfl rfl (pm_cok rfl rfl (Or.inr ⟨_, _, rfl⟩) rfl rfl) rfl rfl ?_
            show WP 93 (26, [(12, a0), (0, a1), (0, x2), (0, x3)], [(0, F_X10_stateAt a0 x3 a1 h), (0, x3), (1064, a0 + 11)], h) Q'
            refine WP.iastore rfl ⟨by decide, by decide, by decide⟩ o3 ?_
            refine WP.aload_n rfl rfl ⟨by decide, by decide⟩ ?_
            refine WP.getR rfl rfl ?_
            refine WP.iload_n rfl rfl ?_
            refine WP.iaload rfl ⟨by decide, by decide, by decide⟩ o3 ?_
            refine WP.iconst rfl ?_
            refine WP.ni_ne rfl (fun c12 => ?_) (fun c12 => ?_)
            · have e := kk; simp only [s_X10_close_2, s_X10_close_1, if_neg (c5), if_pos c10, if_neg (c12)] at e ⊢; exact e
            · have o13 := q14 c12
              refine WP.iincE (L' := [(12, a0), (0, a1), (0, x2 + 1), (0, x3)]) rfl rfl o13 rfl ?_
              have e := kk; simp only [s_X10_close_2, s_X10_close_1, if_neg (c5), if_pos c10, if_pos c12] at e ⊢; exact e
      refine k4 _ ?_
      refine WP.iincE (L' := [(12, a0), (0, a1), (0, s_X10_close_2 a0 a1 x2 x3 h), (0, x3 + 1)]) rfl rfl o19 rfl ?_
      refine WP.goto rfl ?_
      exact kk [] (s_X10_close_2 a0 a1 x2 x3 h, x3 + 1, s_X10_close_1 a0 a1 x3 h) (rfl)
  · intro hP hc
    generalize hs : (L_X10_close_4 a0 a1 x2 x3 h : Int × Int × pH) = s at kk
    change P_X10_close_4 a0 a1 (L_X10_close_4 a0 a1 x2 x3 h).1 (L_X10_close_4 a0 a1 x2 x3 h).2.1 (L_X10_close_4 a0 a1 x2 x3 h).2.2 at hP
    change ¬ C_X10_close_4 a0 a1 (L_X10_close_4 a0 a1 x2 x3 h).1 (L_X10_close_4 a0 a1 x2 x3 h).2.1 (L_X10_close_4 a0 a1 x2 x3 h).2.2 at hc
    intro us
    show WP 93 (4, [(12, a0), (0, a1), (0, (L_X10_close_4 a0 a1 x2 x3 h).1), (0, (L_X10_close_4 a0 a1 x2 x3 h).2.1)], [], (L_X10_close_4 a0 a1 x2 x3 h).2.2) Q
    rw [hs] at hP hc ⊢
    obtain ⟨x2, x3, h⟩ := s
    change P_X10_close_4 a0 a1 x2 x3 h at hP
    change ¬ (x3 < h a0 15) at hc
    unfold P_X10_close_4 at hP
    show WP 93 (4, [(12, a0), (0, a1), (0, x2), (0, x3)], [], h) Q
    refine WP.iload_n rfl rfl ?_
    refine WP.aload_n rfl rfl ⟨by decide, by decide⟩ ?_
    refine WP.getI rfl rfl ?_
    refine WP.ni_ge rfl (fun c1 => ?_) (fun c1 => ?_)
    · exact kk []
    · exact absurd (show x3 < h a0 15 from c1) hc
noncomputable def s_X10_close_3 (a0 : Int) (a1 : Int) (h : pH) : Int := (L_X10_close_4 a0 a1 0 0 h).2.1
noncomputable def s_X10_close_4 (a0 : Int) (a1 : Int) (h : pH) : pH := (L_X10_close_4 a0 a1 0 0 h).2.2
noncomputable def F_X10_close (a0 : Int) (a1 : Int) (h : pH) : Int := (L_X10_close_4 a0 a1 0 0 h).1
noncomputable def H_X10_close (a0 : Int) (a1 : Int) (h : pH) : pH := s_X10_close_4 a0 a1 h
noncomputable def P_X10_close (a0 : Int) (a1 : Int) (h : pH) : Prop := O_X10_close_4 a0 a1 0 0 h
set_option maxHeartbeats 4000000 in
theorem w_X10_close (a0 : Int) (a1 : Int) (h : pH) {Q : Option pV → pH → Prop} (hp : P_X10_close a0 a1 h) (kk : Q (some (0, F_X10_close a0 a1 h)) (H_X10_close a0 a1 h)) : WP 93 (0, [(12, a0), (0, a1), pU, pU], [], h) Q := by
  unfold P_X10_close at hp
  have o20 := hp
  refine WP.iconst rfl ?_
  refine WP.istore_n (L' := [(12, a0), (0, a1), (0, 0), pU]) rfl rfl ?_
  refine WP.iconst rfl ?_
  refine WP.istore_n (L' := [(12, a0), (0, a1), (0, 0), (0, 0)]) rfl rfl ?_
  refine lp_X10_close_4 a0 a1 0 0 h o20 (fun us21 => ?_) []
  show WP 93 (36, [(12, a0), (0, a1), (0, (L_X10_close_4 a0 a1 0 0 h).1), (0, s_X10_close_3 a0 a1 h)], [], s_X10_close_4 a0 a1 h) Q
  refine WP.iload_n rfl rfl ?_
  refine WP.reti rfl ?_; exact kk
theorem c_X10_close (a0 : Int) (a1 : Int) (h : pH) (hp : P_X10_close a0 a1 h) : CP 93 [(12, a0), (0, a1)] h (fun r h1 => r = some (0, F_X10_close a0 a1 h) ∧ h1 = H_X10_close a0 a1 h) := w_X10_close a0 a1 h hp ⟨rfl, rfl⟩
noncomputable def F_X11_room (a1 : Int) (a2 : Int) (a3 : Int) (h : pH) : Int := if 0 ≤ a1 ∧ a1 ≤ 500 then if 0 ≤ a2 ∧ a2 ≤ 500 then if 0 ≤ a3 ∧ a3 ≤ 200 then 1 else (-2) else (-2) else (-2)
noncomputable def H_X11_room (a1 : Int) (a2 : Int) (a3 : Int) (h : pH) : pH := if 0 ≤ a1 ∧ a1 ≤ 500 then if 0 ≤ a2 ∧ a2 ≤ 500 then if 0 ≤ a3 ∧ a3 ≤ 200 then pm_upd (pm_upd (pm_upd h 2 5 a1) 2 6 a2) 2 7 a3 else h else h else h
set_option maxHeartbeats 4000000 in
theorem w_X11_room (a1 : Int) (a2 : Int) (a3 : Int) (h : pH) {Q : Option pV → pH → Prop} (kk : Q (some (0, F_X11_room a1 a2 a3 h)) (H_X11_room a1 a2 a3 h)) : WP 96 (0, [(13, 0), (0, a1), (0, a2), (0, a3)], [], h) Q := by
  refine WP.iload_n rfl rfl ?_
  refine WP.iconst rfl ?_
  refine WP.sipush rfl ?_
  refine WP.callF (c_X11_within a1 0 500 h) rfl rfl (pm_cok rfl rfl (Or.inl rfl) rfl rfl) rfl rfl ?_
  show WP 96 (4, [(13, 0), (0, a1), (0, a2), (0, a3)], [(0, if 0 ≤ a1 ∧ a1 ≤ 500 then 1 else 0)], h) Q
  refine WP.nb_eq rfl (fun c1 => ?_) (fun c1 => ?_)
  · refine WP.bipush rfl ?_
    refine WP.reti rfl ?_; have e := kk; simp only [F_X11_room, H_X11_room, if_neg (c1)] at e ⊢; exact e
  · refine WP.iload_n rfl rfl ?_
    refine WP.iconst rfl ?_
    refine WP.sipush rfl ?_
    refine WP.callF (c_X11_within a2 0 500 h) rfl rfl (pm_cok rfl rfl (Or.inl rfl) rfl rfl) rfl rfl ?_
    show WP 96 (9, [(13, 0), (0, a1), (0, a2), (0, a3)], [(0, if 0 ≤ a2 ∧ a2 ≤ 500 then 1 else 0)], h) Q
    refine WP.nb_eq rfl (fun c2 => ?_) (fun c2 => ?_)
    · refine WP.bipush rfl ?_
      refine WP.reti rfl ?_; have e := kk; simp only [F_X11_room, H_X11_room, if_pos c1, if_neg (c2)] at e ⊢; exact e
    · refine WP.iload_n rfl rfl ?_
      refine WP.iconst rfl ?_
      refine WP.sipush rfl ?_
      refine WP.callF (c_X11_within a3 0 200 h) rfl rfl (pm_cok rfl rfl (Or.inl rfl) rfl rfl) rfl rfl ?_
      show WP 96 (14, [(13, 0), (0, a1), (0, a2), (0, a3)], [(0, if 0 ≤ a3 ∧ a3 ≤ 200 then 1 else 0)], h) Q
      refine WP.nb_ne rfl (fun c3 => ?_) (fun c3 => ?_)
      · refine WP.aload_n rfl rfl ⟨by decide, by decide⟩ ?_
        refine WP.getRF (b := 1) rfl rfl rfl ?_
        refine WP.getRF (b := 2) rfl rfl rfl ?_
        refine WP.iload_n rfl rfl ?_
        refine WP.putI rfl rfl ?_
        refine WP.aload_n rfl rfl ⟨by decide, by decide⟩ ?_
        refine WP.getRF (b := 1) rfl rfl rfl ?_
        refine WP.getRF (b := 2) rfl rfl rfl ?_
        refine WP.iload_n rfl rfl ?_
        refine WP.putI rfl rfl ?_
        refine WP.aload_n rfl rfl ⟨by decide, by decide⟩ ?_
        refine WP.getRF (b := 1) rfl rfl rfl ?_
        refine WP.getRF (b := 2) rfl rfl rfl ?_
        refine WP.iload_n rfl rfl ?_
        refine WP.putI rfl rfl ?_
        refine WP.iconst rfl ?_
        refine WP.reti rfl ?_; have e := kk; simp only [F_X11_room, H_X11_room, if_pos c1, if_pos c2, if_pos c3] at e ⊢; exact e
      · refine WP.bipush rfl ?_
        refine WP.reti rfl ?_; have e := kk; simp only [F_X11_room, H_X11_room, if_pos c1, if_pos c2, if_neg (c3)] at e ⊢; exact e
theorem c_X11_room (a1 : Int) (a2 : Int) (a3 : Int) (h : pH) : CP 96 [(13, 0), (0, a1), (0, a2), (0, a3)] h (fun r h1 => r = some (0, F_X11_room a1 a2 a3 h) ∧ h1 = H_X11_room a1 a2 a3 h) := w_X11_room a1 a2 a3 h ⟨rfl, rfl⟩
noncomputable def F_X11_feed (a1 : Int) (a2 : Int) (h : pH) : Int := if 0 ≤ a1 ∧ a1 ≤ 3 then if 0 ≤ a2 ∧ a2 ≤ 10000 then h 20 a1 else (-2) else (-2)
noncomputable def H_X11_feed (a1 : Int) (a2 : Int) (h : pH) : pH := if 0 ≤ a1 ∧ a1 ≤ 3 then if 0 ≤ a2 ∧ a2 ≤ 10000 then pm_upd h 20 a1 a2 else h else h
noncomputable def P_X11_feed (a1 : Int) (a2 : Int) (h : pH) : Prop := ((0 ≤ a1 ∧ a1 ≤ 3) → (((0 ≤ a2 ∧ a2 ≤ 10000) → ((0 ≤ a1 ∧ a1 < 4)))))
set_option maxHeartbeats 4000000 in
theorem w_X11_feed (a1 : Int) (a2 : Int) (h : pH) {Q : Option pV → pH → Prop} (hp : P_X11_feed a1 a2 h) (kk : Q (some (0, F_X11_feed a1 a2 h)) (H_X11_feed a1 a2 h)) : WP 100 (0, [(13, 0), (0, a1), (0, a2), pU], [], h) Q := by
  unfold P_X11_feed at hp
  have q5 := hp
  refine WP.iload_n rfl rfl ?_
  refine WP.iconst rfl ?_
  refine WP.iconst rfl ?_
  refine WP.callF (c_X11_within a1 0 3 h) rfl rfl (pm_cok rfl rfl (Or.inl rfl) rfl rfl) rfl rfl ?_
  show WP 100 (4, [(13, 0), (0, a1), (0, a2), pU], [(0, if 0 ≤ a1 ∧ a1 ≤ 3 then 1 else 0)], h) Q
  refine WP.nb_eq rfl (fun c1 => ?_) (fun c1 => ?_)
  · refine WP.bipush rfl ?_
    refine WP.reti rfl ?_; have e := kk; simp only [F_X11_feed, H_X11_feed, if_neg (c1)] at e ⊢; exact e
  · have q4 := q5 c1
    refine WP.iload_n rfl rfl ?_
    refine WP.iconst rfl ?_
    refine WP.sipush rfl ?_
    refine WP.callF (c_X11_within a2 0 10000 h) rfl rfl (pm_cok rfl rfl (Or.inl rfl) rfl rfl) rfl rfl ?_
    show WP 100 (9, [(13, 0), (0, a1), (0, a2), pU], [(0, if 0 ≤ a2 ∧ a2 ≤ 10000 then 1 else 0)], h) Q
    refine WP.nb_ne rfl (fun c2 => ?_) (fun c2 => ?_)
    · have o3 := q4 c2
      refine WP.aload_n rfl rfl ⟨by decide, by decide⟩ ?_
      refine WP.getRF (b := 1) rfl rfl rfl ?_
      refine WP.getRF (b := 19) rfl rfl rfl ?_
      refine WP.getRF (b := 20) rfl rfl rfl ?_
      refine WP.iload_n rfl rfl ?_
      refine WP.iaload rfl ⟨by decide, by decide, by decide⟩ o3 ?_
      refine WP.istore_n (L' := [(13, 0), (0, a1), (0, a2), (0, h 20 a1)]) rfl rfl ?_
      refine WP.aload_n rfl rfl ⟨by decide, by decide⟩ ?_
      refine WP.getRF (b := 1) rfl rfl rfl ?_
      refine WP.getRF (b := 19) rfl rfl rfl ?_
      refine WP.getRF (b := 20) rfl rfl rfl ?_
      refine WP.iload_n rfl rfl ?_
      refine WP.iload_n rfl rfl ?_
      refine WP.iastore rfl ⟨by decide, by decide, by decide⟩ o3 ?_
      refine WP.iload_n rfl rfl ?_
      refine WP.reti rfl ?_; have e := kk; simp only [F_X11_feed, H_X11_feed, if_pos c1, if_pos c2] at e ⊢; exact e
    · refine WP.bipush rfl ?_
      refine WP.reti rfl ?_; have e := kk; simp only [F_X11_feed, H_X11_feed, if_pos c1, if_neg (c2)] at e ⊢; exact e
theorem c_X11_feed (a1 : Int) (a2 : Int) (h : pH) (hp : P_X11_feed a1 a2 h) : CP 100 [(13, 0), (0, a1), (0, a2)] h (fun r h1 => r = some (0, F_X11_feed a1 a2 h) ∧ h1 = H_X11_feed a1 a2 h) := w_X11_feed a1 a2 h hp ⟨rfl, rfl⟩
noncomputable def F_X11_net (a1 : Int) (h : pH) : Int := if 0 ≤ a1 ∧ a1 ≤ 100000 then h 19 2 else (-2)
noncomputable def H_X11_net (a1 : Int) (h : pH) : pH := if 0 ≤ a1 ∧ a1 ≤ 100000 then pm_upd h 19 2 a1 else h
set_option maxHeartbeats 4000000 in
theorem w_X11_net (a1 : Int) (h : pH) {Q : Option pV → pH → Prop} (kk : Q (some (0, F_X11_net a1 h)) (H_X11_net a1 h)) : WP 101 (0, [(13, 0), (0, a1), pU], [], h) Q := by
  refine WP.iload_n rfl rfl ?_
  refine WP.iconst rfl ?_
  refine WP.ldc rfl ?_
  refine WP.callF (c_X11_within a1 0 100000 h) rfl rfl (pm_cok rfl rfl (Or.inl rfl) rfl rfl) rfl rfl ?_
  show WP 101 (4, [(13, 0), (0, a1), pU], [(0, if 0 ≤ a1 ∧ a1 ≤ 100000 then 1 else 0)], h) Q
  refine WP.nb_ne rfl (fun c1 => ?_) (fun c1 => ?_)
  · refine WP.aload_n rfl rfl ⟨by decide, by decide⟩ ?_
    refine WP.getRF (b := 1) rfl rfl rfl ?_
    refine WP.getRF (b := 19) rfl rfl rfl ?_
    refine WP.getI rfl rfl ?_
    refine WP.istore_n (L' := [(13, 0), (0, a1), (0, h 19 2)]) rfl rfl ?_
    refine WP.aload_n rfl rfl ⟨by decide, by decide⟩ ?_
    refine WP.getRF (b := 1) rfl rfl rfl ?_
    refine WP.getRF (b := 19) rfl rfl rfl ?_
    refine WP.iload_n rfl rfl ?_
    refine WP.putI rfl rfl ?_
    refine WP.iload_n rfl rfl ?_
    refine WP.reti rfl ?_; have e := kk; simp only [F_X11_net, H_X11_net, if_pos c1] at e ⊢; exact e
  · refine WP.bipush rfl ?_
    refine WP.reti rfl ?_; have e := kk; simp only [F_X11_net, H_X11_net, if_neg (c1)] at e ⊢; exact e
theorem c_X11_net (a1 : Int) (h : pH) : CP 101 [(13, 0), (0, a1)] h (fun r h1 => r = some (0, F_X11_net a1 h) ∧ h1 = H_X11_net a1 h) := w_X11_net a1 h ⟨rfl, rfl⟩
noncomputable def F_X11_price (a1 : Int) (a2 : Int) (h : pH) : Int := if 0 ≤ a1 ∧ a1 ≤ 23 then if 0 ≤ a2 ∧ a2 ≤ 1000 then h 21 a1 else (-2) else (-2)
noncomputable def H_X11_price (a1 : Int) (a2 : Int) (h : pH) : pH := if 0 ≤ a1 ∧ a1 ≤ 23 then if 0 ≤ a2 ∧ a2 ≤ 1000 then pm_upd h 21 a1 a2 else h else h
noncomputable def P_X11_price (a1 : Int) (a2 : Int) (h : pH) : Prop := ((0 ≤ a1 ∧ a1 ≤ 23) → (((0 ≤ a2 ∧ a2 ≤ 1000) → ((0 ≤ a1 ∧ a1 < 24)))))
set_option maxHeartbeats 4000000 in
theorem w_X11_price (a1 : Int) (a2 : Int) (h : pH) {Q : Option pV → pH → Prop} (hp : P_X11_price a1 a2 h) (kk : Q (some (0, F_X11_price a1 a2 h)) (H_X11_price a1 a2 h)) : WP 102 (0, [(13, 0), (0, a1), (0, a2), pU], [], h) Q := by
  unfold P_X11_price at hp
  have q5 := hp
  refine WP.iload_n rfl rfl ?_
  refine WP.iconst rfl ?_
  refine WP.bipush rfl ?_
  refine WP.callF (c_X11_within a1 0 23 h) rfl rfl (pm_cok rfl rfl (Or.inl rfl) rfl rfl) rfl rfl ?_
  show WP 102 (4, [(13, 0), (0, a1), (0, a2), pU], [(0, if 0 ≤ a1 ∧ a1 ≤ 23 then 1 else 0)], h) Q
  refine WP.nb_eq rfl (fun c1 => ?_) (fun c1 => ?_)
  · refine WP.bipush rfl ?_
    refine WP.reti rfl ?_; have e := kk; simp only [F_X11_price, H_X11_price, if_neg (c1)] at e ⊢; exact e
  · have q4 := q5 c1
    refine WP.iload_n rfl rfl ?_
    refine WP.iconst rfl ?_
    refine WP.sipush rfl ?_
    refine WP.callF (c_X11_within a2 0 1000 h) rfl rfl (pm_cok rfl rfl (Or.inl rfl) rfl rfl) rfl rfl ?_
    show WP 102 (9, [(13, 0), (0, a1), (0, a2), pU], [(0, if 0 ≤ a2 ∧ a2 ≤ 1000 then 1 else 0)], h) Q
    refine WP.nb_ne rfl (fun c2 => ?_) (fun c2 => ?_)
    · have o3 := q4 c2
      refine WP.aload_n rfl rfl ⟨by decide, by decide⟩ ?_
      refine WP.getRF (b := 1) rfl rfl rfl ?_
      refine WP.getRF (b := 19) rfl rfl rfl ?_
      refine WP.getRF (b := 21) rfl rfl rfl ?_
      refine WP.iload_n rfl rfl ?_
      refine WP.iaload rfl ⟨by decide, by decide, by decide⟩ o3 ?_
      refine WP.istore_n (L' := [(13, 0), (0, a1), (0, a2), (0, h 21 a1)]) rfl rfl ?_
      refine WP.aload_n rfl rfl ⟨by decide, by decide⟩ ?_
      refine WP.getRF (b := 1) rfl rfl rfl ?_
      refine WP.getRF (b := 19) rfl rfl rfl ?_
      refine WP.getRF (b := 21) rfl rfl rfl ?_
      refine WP.iload_n rfl rfl ?_
      refine WP.iload_n rfl rfl ?_
      refine WP.iastore rfl ⟨by decide, by decide, by decide⟩ o3 ?_
      refine WP.iload_n rfl rfl ?_
      refine WP.reti rfl ?_; have e := kk; simp only [F_X11_price, H_X11_price, if_pos c1, if_pos c2] at e ⊢; exact e
    · refine WP.bipush rfl ?_
      refine WP.reti rfl ?_; have e := kk; simp only [F_X11_price, H_X11_price, if_pos c1, if_neg (c2)] at e ⊢; exact e
theorem c_X11_price (a1 : Int) (a2 : Int) (h : pH) (hp : P_X11_price a1 a2 h) : CP 102 [(13, 0), (0, a1), (0, a2)] h (fun r h1 => r = some (0, F_X11_price a1 a2 h) ∧ h1 = H_X11_price a1 a2 h) := w_X11_price a1 a2 h hp ⟨rfl, rfl⟩
noncomputable def F_X11_store (a1 : Int) (a2 : Int) (a3 : Int) (h : pH) : Int := if 0 ≤ a1 ∧ a1 ≤ 100000 then if 0 ≤ a2 ∧ a2 ≤ 10000 then if 0 ≤ a3 ∧ a3 ≤ 1000 then if h 19 6 ≤ a1 then 1 else (-3) else (-2) else (-2) else (-2)
noncomputable def H_X11_store (a1 : Int) (a2 : Int) (a3 : Int) (h : pH) : pH := if 0 ≤ a1 ∧ a1 ≤ 100000 then if 0 ≤ a2 ∧ a2 ≤ 10000 then if 0 ≤ a3 ∧ a3 ≤ 1000 then if h 19 6 ≤ a1 then pm_upd (pm_upd (pm_upd h 19 3 a1) 19 4 a2) 19 5 a3 else h else h else h else h
set_option maxHeartbeats 4000000 in
theorem w_X11_store (a1 : Int) (a2 : Int) (a3 : Int) (h : pH) {Q : Option pV → pH → Prop} (kk : Q (some (0, F_X11_store a1 a2 a3 h)) (H_X11_store a1 a2 a3 h)) : WP 103 (0, [(13, 0), (0, a1), (0, a2), (0, a3)], [], h) Q := by
  refine WP.iload_n rfl rfl ?_
  refine WP.iconst rfl ?_
  refine WP.ldc rfl ?_
  refine WP.callF (c_X11_within a1 0 100000 h) rfl rfl (pm_cok rfl rfl (Or.inl rfl) rfl rfl) rfl rfl ?_
  show WP 103 (4, [(13, 0), (0, a1), (0, a2), (0, a3)], [(0, if 0 ≤ a1 ∧ a1 ≤ 100000 then 1 else 0)], h) Q
  refine WP.nb_eq rfl (fun c1 => ?_) (fun c1 => ?_)
  · refine WP.bipush rfl ?_
    refine WP.reti rfl ?_; have e := kk; simp only [F_X11_store, H_X11_store, if_neg (c1)] at e ⊢; exact e
  · refine WP.iload_n rfl rfl ?_
    refine WP.iconst rfl ?_
    refine WP.sipush rfl ?_
    refine WP.callF (c_X11_within a2 0 10000 h) rfl rfl (pm_cok rfl rfl (Or.inl rfl) rfl rfl) rfl rfl ?_
    show WP 103 (9, [(13, 0), (0, a1), (0, a2), (0, a3)], [(0, if 0 ≤ a2 ∧ a2 ≤ 10000 then 1 else 0)], h) Q
    refine WP.nb_eq rfl (fun c2 => ?_) (fun c2 => ?_)
    · refine WP.bipush rfl ?_
      refine WP.reti rfl ?_; have e := kk; simp only [F_X11_store, H_X11_store, if_pos c1, if_neg (c2)] at e ⊢; exact e
    · refine WP.iload_n rfl rfl ?_
      refine WP.iconst rfl ?_
      refine WP.sipush rfl ?_
      refine WP.callF (c_X11_within a3 0 1000 h) rfl rfl (pm_cok rfl rfl (Or.inl rfl) rfl rfl) rfl rfl ?_
      show WP 103 (14, [(13, 0), (0, a1), (0, a2), (0, a3)], [(0, if 0 ≤ a3 ∧ a3 ≤ 1000 then 1 else 0)], h) Q
      refine WP.nb_ne rfl (fun c3 => ?_) (fun c3 => ?_)
      · refine WP.aload_n rfl rfl ⟨by decide, by decide⟩ ?_
        refine WP.getRF (b := 1) rfl rfl rfl ?_
        refine WP.getRF (b := 19) rfl rfl rfl ?_
        refine WP.getI rfl rfl ?_
        refine WP.iload_n rfl rfl ?_
        refine WP.ni_le rfl (fun c4 => ?_) (fun c4 => ?_)
        · refine WP.aload_n rfl rfl ⟨by decide, by decide⟩ ?_
          refine WP.getRF (b := 1) rfl rfl rfl ?_
          refine WP.getRF (b := 19) rfl rfl rfl ?_
          refine WP.iload_n rfl rfl ?_
          refine WP.putI rfl rfl ?_
          refine WP.aload_n rfl rfl ⟨by decide, by decide⟩ ?_
          refine WP.getRF (b := 1) rfl rfl rfl ?_
          refine WP.getRF (b := 19) rfl rfl rfl ?_
          refine WP.iload_n rfl rfl ?_
          refine WP.putI rfl rfl ?_
          refine WP.aload_n rfl rfl ⟨by decide, by decide⟩ ?_
          refine WP.getRF (b := 1) rfl rfl rfl ?_
          refine WP.getRF (b := 19) rfl rfl rfl ?_
          refine WP.iload_n rfl rfl ?_
          refine WP.putI rfl rfl ?_
          refine WP.iconst rfl ?_
          refine WP.reti rfl ?_; have e := kk; simp only [F_X11_store, H_X11_store, if_pos c1, if_pos c2, if_pos c3, if_pos c4] at e ⊢; exact e
        · refine WP.bipush rfl ?_
          refine WP.reti rfl ?_; have e := kk; simp only [F_X11_store, H_X11_store, if_pos c1, if_pos c2, if_pos c3, if_neg (Int.not_le.mpr c4)] at e ⊢; exact e
      · refine WP.bipush rfl ?_
        refine WP.reti rfl ?_; have e := kk; simp only [F_X11_store, H_X11_store, if_pos c1, if_pos c2, if_neg (c3)] at e ⊢; exact e
theorem c_X11_store (a1 : Int) (a2 : Int) (a3 : Int) (h : pH) : CP 103 [(13, 0), (0, a1), (0, a2), (0, a3)] h (fun r h1 => r = some (0, F_X11_store a1 a2 a3 h) ∧ h1 = H_X11_store a1 a2 a3 h) := w_X11_store a1 a2 a3 h ⟨rfl, rfl⟩
noncomputable def F_X11_late (a1 : Int) (h : pH) : Int := if 0 ≤ a1 ∧ a1 ≤ 5 then h 2 8 else (-2)
noncomputable def H_X11_late (a1 : Int) (h : pH) : pH := if 0 ≤ a1 ∧ a1 ≤ 5 then pm_upd h 2 8 a1 else h
set_option maxHeartbeats 4000000 in
theorem w_X11_late (a1 : Int) (h : pH) {Q : Option pV → pH → Prop} (kk : Q (some (0, F_X11_late a1 h)) (H_X11_late a1 h)) : WP 104 (0, [(13, 0), (0, a1), pU], [], h) Q := by
  refine WP.iload_n rfl rfl ?_
  refine WP.iconst rfl ?_
  refine WP.iconst rfl ?_
  refine WP.callF (c_X11_within a1 0 5 h) rfl rfl (pm_cok rfl rfl (Or.inl rfl) rfl rfl) rfl rfl ?_
  show WP 104 (4, [(13, 0), (0, a1), pU], [(0, if 0 ≤ a1 ∧ a1 ≤ 5 then 1 else 0)], h) Q
  refine WP.nb_ne rfl (fun c1 => ?_) (fun c1 => ?_)
  · refine WP.aload_n rfl rfl ⟨by decide, by decide⟩ ?_
    refine WP.getRF (b := 1) rfl rfl rfl ?_
    refine WP.getRF (b := 2) rfl rfl rfl ?_
    refine WP.getI rfl rfl ?_
    refine WP.istore_n (L' := [(13, 0), (0, a1), (0, h 2 8)]) rfl rfl ?_
    refine WP.aload_n rfl rfl ⟨by decide, by decide⟩ ?_
    refine WP.getRF (b := 1) rfl rfl rfl ?_
    refine WP.getRF (b := 2) rfl rfl rfl ?_
    refine WP.iload_n rfl rfl ?_
    refine WP.putI rfl rfl ?_
    refine WP.iload_n rfl rfl ?_
    refine WP.reti rfl ?_; have e := kk; simp only [F_X11_late, H_X11_late, if_pos c1] at e ⊢; exact e
  · refine WP.bipush rfl ?_
    refine WP.reti rfl ?_; have e := kk; simp only [F_X11_late, H_X11_late, if_neg (c1)] at e ⊢; exact e
theorem c_X11_late (a1 : Int) (h : pH) : CP 104 [(13, 0), (0, a1)] h (fun r h1 => r = some (0, F_X11_late a1 h) ∧ h1 = H_X11_late a1 h) := w_X11_late a1 h ⟨rfl, rfl⟩
noncomputable def F_X11_odds (a1 : Int) (a2 : Int) (a3 : Int) (h : pH) : Int := if 0 ≤ a1 ∧ a1 ≤ 100 then if 0 ≤ a2 ∧ a2 ≤ 100 then 1 else (-2) else (-2)
noncomputable def H_X11_odds (a1 : Int) (a2 : Int) (a3 : Int) (h : pH) : pH := if 0 ≤ a1 ∧ a1 ≤ 100 then if 0 ≤ a2 ∧ a2 ≤ 100 then pm_upd (pm_upd (pm_upd h 43 0 a1) 43 1 a2) 43 2 a3 else h else h
set_option maxHeartbeats 4000000 in
theorem w_X11_odds (a1 : Int) (a2 : Int) (a3 : Int) (h : pH) {Q : Option pV → pH → Prop} (kk : Q (some (0, F_X11_odds a1 a2 a3 h)) (H_X11_odds a1 a2 a3 h)) : WP 105 (0, [(13, 0), (0, a1), (0, a2), (0, a3)], [], h) Q := by
  refine WP.iload_n rfl rfl ?_
  refine WP.iconst rfl ?_
  refine WP.bipush rfl ?_
  refine WP.callF (c_X11_within a1 0 100 h) rfl rfl (pm_cok rfl rfl (Or.inl rfl) rfl rfl) rfl rfl ?_
  show WP 105 (4, [(13, 0), (0, a1), (0, a2), (0, a3)], [(0, if 0 ≤ a1 ∧ a1 ≤ 100 then 1 else 0)], h) Q
  refine WP.nb_eq rfl (fun c1 => ?_) (fun c1 => ?_)
  · refine WP.bipush rfl ?_
    refine WP.reti rfl ?_; have e := kk; simp only [F_X11_odds, H_X11_odds, if_neg (c1)] at e ⊢; exact e
  · refine WP.iload_n rfl rfl ?_
    refine WP.iconst rfl ?_
    refine WP.bipush rfl ?_
    refine WP.callF (c_X11_within a2 0 100 h) rfl rfl (pm_cok rfl rfl (Or.inl rfl) rfl rfl) rfl rfl ?_
    show WP 105 (9, [(13, 0), (0, a1), (0, a2), (0, a3)], [(0, if 0 ≤ a2 ∧ a2 ≤ 100 then 1 else 0)], h) Q
    refine WP.nb_ne rfl (fun c2 => ?_) (fun c2 => ?_)
    · refine WP.aload_n rfl rfl ⟨by decide, by decide⟩ ?_
      refine WP.getRF (b := 1) rfl rfl rfl ?_
      refine WP.getRF (b := 43) rfl rfl rfl ?_
      refine WP.iload_n rfl rfl ?_
      refine WP.putI rfl rfl ?_
      refine WP.aload_n rfl rfl ⟨by decide, by decide⟩ ?_
      refine WP.getRF (b := 1) rfl rfl rfl ?_
      refine WP.getRF (b := 43) rfl rfl rfl ?_
      refine WP.iload_n rfl rfl ?_
      refine WP.putI rfl rfl ?_
      refine WP.aload_n rfl rfl ⟨by decide, by decide⟩ ?_
      refine WP.getRF (b := 1) rfl rfl rfl ?_
      refine WP.getRF (b := 43) rfl rfl rfl ?_
      refine WP.iload_n rfl rfl ?_
      refine WP.putI rfl rfl ?_
      refine WP.iconst rfl ?_
      refine WP.reti rfl ?_; have e := kk; simp only [F_X11_odds, H_X11_odds, if_pos c1, if_pos c2] at e ⊢; exact e
    · refine WP.bipush rfl ?_
      refine WP.reti rfl ?_; have e := kk; simp only [F_X11_odds, H_X11_odds, if_pos c1, if_neg (c2)] at e ⊢; exact e
theorem c_X11_odds (a1 : Int) (a2 : Int) (a3 : Int) (h : pH) : CP 105 [(13, 0), (0, a1), (0, a2), (0, a3)] h (fun r h1 => r = some (0, F_X11_odds a1 a2 a3 h) ∧ h1 = H_X11_odds a1 a2 a3 h) := w_X11_odds a1 a2 a3 h ⟨rfl, rfl⟩
noncomputable def F_X11_now (a1 : Int) (h : pH) : Int := if a1 = 0 then h 1 7 else if a1 = 1 then h 1 8 else if a1 = 2 then h 19 6 else if a1 = 3 then h 19 7 else if a1 = 4 then F_X10_countIn 22 1 h else if a1 = 5 then F_X6_countFailed 8 h else if a1 = 6 then F_X0_sum 2 h else if a1 = 7 then h 19 8 else (-2000000000000000000)
noncomputable def P_X11_now (a1 : Int) (h : pH) : Prop := ((¬ a1 = 0) → (((¬ a1 = 1) → (((¬ a1 = 2) → (((¬ a1 = 3) → ((((a1 = 4) → P_X10_countIn 22 1 h) ∧ ((¬ a1 = 4) → ((((a1 = 5) → P_X6_countFailed 8 h) ∧ ((¬ a1 = 5) → (((a1 = 6) → P_X0_sum 2 h)))))))))))))))
set_option maxHeartbeats 4000000 in
theorem w_X11_now (a1 : Int) (h : pH) {Q : Option pV → pH → Prop} (hp : P_X11_now a1 h) (kk : Q (some (1, F_X11_now a1 h)) (h)) : WP 116 (0, [(13, 0), (0, a1)], [], h) Q := by
  unfold P_X11_now at hp
  have q18 := hp
  refine WP.iload_n rfl rfl ?_
  refine WP.ntsw rfl rfl ?_
  show WP 116 (fx_sw 0 [2, 7, 12, 18, 24, 31, 37, 42] 47 a1, [(13, 0), (0, a1)], [], h) Q
  refine WP.nsl rfl (fun (c1 : a1 = 0) => ?_) (fun (c1 : ¬ a1 = 0) => ?_)
  · show WP 116 (2, [(13, 0), (0, a1)], [], h) Q
    refine WP.aload_n rfl rfl ⟨by decide, by decide⟩ ?_
    refine WP.getRF (b := 1) rfl rfl rfl ?_
    refine WP.getI rfl rfl ?_
    refine WP.i2l rfl ?_
    refine WP.retl rfl ?_; have e := kk; simp only [F_X11_now, if_pos c1] at e ⊢; exact e
  · have q17 := q18 c1
    refine WP.nsl rfl (fun (c2 : a1 = 1) => ?_) (fun (c2 : ¬ a1 = 1) => ?_)
    · show WP 116 (7, [(13, 0), (0, a1)], [], h) Q
      refine WP.aload_n rfl rfl ⟨by decide, by decide⟩ ?_
      refine WP.getRF (b := 1) rfl rfl rfl ?_
      refine WP.getI rfl rfl ?_
      refine WP.i2l rfl ?_
      refine WP.retl rfl ?_; have e := kk; simp only [F_X11_now, if_neg (c1), if_pos c2] at e ⊢; exact e
    · have q16 := q17 c2
      refine WP.nsl rfl (fun (c3 : a1 = 2) => ?_) (fun (c3 : ¬ a1 = 2) => ?_)
      · show WP 116 (12, [(13, 0), (0, a1)], [], h) Q
        refine WP.aload_n rfl rfl ⟨by decide, by decide⟩ ?_
        refine WP.getRF (b := 1) rfl rfl rfl ?_
        refine WP.getRF (b := 19) rfl rfl rfl ?_
        refine WP.getI rfl rfl ?_
        refine WP.i2l rfl ?_
        refine WP.retl rfl ?_; have e := kk; simp only [F_X11_now, if_neg (c1), if_neg (c2), if_pos c3] at e ⊢; exact e
      · have q15 := q16 c3
        refine WP.nsl rfl (fun (c4 : a1 = 3) => ?_) (fun (c4 : ¬ a1 = 3) => ?_)
        · show WP 116 (18, [(13, 0), (0, a1)], [], h) Q
          refine WP.aload_n rfl rfl ⟨by decide, by decide⟩ ?_
          refine WP.getRF (b := 1) rfl rfl rfl ?_
          refine WP.getRF (b := 19) rfl rfl rfl ?_
          refine WP.getI rfl rfl ?_
          refine WP.i2l rfl ?_
          refine WP.retl rfl ?_; have e := kk; simp only [F_X11_now, if_neg (c1), if_neg (c2), if_neg (c3), if_pos c4] at e ⊢; exact e
        · have q14 := q15 c4
          refine WP.nsl rfl (fun (c5 : a1 = 4) => ?_) (fun (c5 : ¬ a1 = 4) => ?_)
          · have o6 := q14.1 c5
            show WP 116 (24, [(13, 0), (0, a1)], [], h) Q
            refine WP.aload_n rfl rfl ⟨by decide, by decide⟩ ?_
            refine WP.getRF (b := 1) rfl rfl rfl ?_
            refine WP.getRF (b := 22) rfl rfl rfl ?_
            refine WP.iconst rfl ?_
            refine WP.callF (c_X10_countIn 22 1 h o6) rfl rfl (pm_cok rfl rfl (Or.inr ⟨_, _, rfl⟩) rfl rfl) rfl rfl ?_
            show WP 116 (29, [(13, 0), (0, a1)], [(0, F_X10_countIn 22 1 h)], h) Q
            refine WP.i2l rfl ?_
            refine WP.retl rfl ?_; have e := kk; simp only [F_X11_now, if_neg (c1), if_neg (c2), if_neg (c3), if_neg (c4), if_pos c5] at e ⊢; exact e
          · have q13 := q14.2 c5
            refine WP.nsl rfl (fun (c7 : a1 = 5) => ?_) (fun (c7 : ¬ a1 = 5) => ?_)
            · have o8 := q13.1 c7
              show WP 116 (31, [(13, 0), (0, a1)], [], h) Q
              refine WP.aload_n rfl rfl ⟨by decide, by decide⟩ ?_
              refine WP.getRF (b := 1) rfl rfl rfl ?_
              refine WP.getRF (b := 8) rfl rfl rfl ?_
              refine WP.callF (c_X6_countFailed 8 h o8) rfl rfl (pm_cok rfl rfl (Or.inr ⟨_, _, rfl⟩) rfl rfl) rfl rfl ?_
              show WP 116 (35, [(13, 0), (0, a1)], [(0, F_X6_countFailed 8 h)], h) Q
              refine WP.i2l rfl ?_
              refine WP.retl rfl ?_; have e := kk; simp only [F_X11_now, if_neg (c1), if_neg (c2), if_neg (c3), if_neg (c4), if_neg (c5), if_pos c7] at e ⊢; exact e
            · have q12 := q13.2 c7
              refine WP.nsl rfl (fun (c9 : a1 = 6) => ?_) (fun (c9 : ¬ a1 = 6) => ?_)
              · have o10 := q12 c9
                show WP 116 (37, [(13, 0), (0, a1)], [], h) Q
                refine WP.aload_n rfl rfl ⟨by decide, by decide⟩ ?_
                refine WP.getRF (b := 1) rfl rfl rfl ?_
                refine WP.getRF (b := 2) rfl rfl rfl ?_
                refine WP.callF (c_X0_sum 2 h o10) rfl rfl (pm_cok rfl rfl (Or.inr ⟨_, _, rfl⟩) rfl rfl) rfl rfl ?_
                show WP 116 (41, [(13, 0), (0, a1)], [(1, F_X0_sum 2 h)], h) Q
                refine WP.retl rfl ?_; have e := kk; simp only [F_X11_now, if_neg (c1), if_neg (c2), if_neg (c3), if_neg (c4), if_neg (c5), if_neg (c7), if_pos c9] at e ⊢; exact e
              · refine WP.nsl rfl (fun (c11 : a1 = 7) => ?_) (fun (c11 : ¬ a1 = 7) => ?_)
                · show WP 116 (42, [(13, 0), (0, a1)], [], h) Q
                  refine WP.aload_n rfl rfl ⟨by decide, by decide⟩ ?_
                  refine WP.getRF (b := 1) rfl rfl rfl ?_
                  refine WP.getRF (b := 19) rfl rfl rfl ?_
                  refine WP.getJ rfl rfl ?_
                  refine WP.retl rfl ?_; have e := kk; simp only [F_X11_now, if_neg (c1), if_neg (c2), if_neg (c3), if_neg (c4), if_neg (c5), if_neg (c7), if_neg (c9), if_pos c11] at e ⊢; exact e
                · show WP 116 (47, [(13, 0), (0, a1)], [], h) Q
                  refine WP.ldc2_w rfl ?_
                  refine WP.retl rfl ?_; have e := kk; simp only [F_X11_now, if_neg (c1), if_neg (c2), if_neg (c3), if_neg (c4), if_neg (c5), if_neg (c7), if_neg (c9), if_neg (c11)] at e ⊢; exact e
theorem c_X11_now (a1 : Int) (h : pH) (hp : P_X11_now a1 h) : CP 116 [(13, 0), (0, a1)] h (fun r h1 => r = some (1, F_X11_now a1 h) ∧ h1 = h) := w_X11_now a1 h hp ⟨rfl, rfl⟩
noncomputable def F_X11_drill (a1 : Int) (a2 : Int) (a3 : Int) (a4 : Int) (h : pH) : Int := if 0 ≤ a1 ∧ a1 ≤ 3 then if 0 ≤ a2 ∧ a2 ≤ 500 then if 0 ≤ a3 ∧ a3 ≤ 100000 then if 1 ≤ a4 ∧ a4 ≤ 30 then 1 else (-2) else (-2) else (-2) else (-2)
noncomputable def H_X11_drill (a1 : Int) (a2 : Int) (a3 : Int) (a4 : Int) (h : pH) : pH := if 0 ≤ a1 ∧ a1 ≤ 3 then if 0 ≤ a2 ∧ a2 ≤ 500 then if 0 ≤ a3 ∧ a3 ≤ 100000 then if 1 ≤ a4 ∧ a4 ≤ 30 then pm_upd (pm_upd (pm_upd h 96 a1 a4) 97 a1 a2) 98 a1 a3 else h else h else h else h
noncomputable def P_X11_drill (a1 : Int) (a2 : Int) (a3 : Int) (a4 : Int) (h : pH) : Prop := ((0 ≤ a1 ∧ a1 ≤ 3) → (((0 ≤ a2 ∧ a2 ≤ 500) → (((0 ≤ a3 ∧ a3 ≤ 100000) → (((1 ≤ a4 ∧ a4 ≤ 30) → ((0 ≤ a1 ∧ a1 < 4)))))))))
set_option maxHeartbeats 4000000 in
theorem w_X11_drill (a1 : Int) (a2 : Int) (a3 : Int) (a4 : Int) (h : pH) {Q : Option pV → pH → Prop} (hp : P_X11_drill a1 a2 a3 a4 h) (kk : Q (some (0, F_X11_drill a1 a2 a3 a4 h)) (H_X11_drill a1 a2 a3 a4 h)) : WP 123 (0, [(13, 0), (0, a1), (0, a2), (0, a3), (0, a4)], [], h) Q := by
  unfold P_X11_drill at hp
  have q9 := hp
  refine WP.iload_n rfl rfl ?_
  refine WP.iconst rfl ?_
  refine WP.iconst rfl ?_
  refine WP.callF (c_X11_within a1 0 3 h) rfl rfl (pm_cok rfl rfl (Or.inl rfl) rfl rfl) rfl rfl ?_
  show WP 123 (4, [(13, 0), (0, a1), (0, a2), (0, a3), (0, a4)], [(0, if 0 ≤ a1 ∧ a1 ≤ 3 then 1 else 0)], h) Q
  refine WP.nb_eq rfl (fun c1 => ?_) (fun c1 => ?_)
  · refine WP.bipush rfl ?_
    refine WP.reti rfl ?_; have e := kk; simp only [F_X11_drill, H_X11_drill, if_neg (c1)] at e ⊢; exact e
  · have q8 := q9 c1
    refine WP.iload_n rfl rfl ?_
    refine WP.iconst rfl ?_
    refine WP.sipush rfl ?_
    refine WP.callF (c_X11_within a2 0 500 h) rfl rfl (pm_cok rfl rfl (Or.inl rfl) rfl rfl) rfl rfl ?_
    show WP 123 (9, [(13, 0), (0, a1), (0, a2), (0, a3), (0, a4)], [(0, if 0 ≤ a2 ∧ a2 ≤ 500 then 1 else 0)], h) Q
    refine WP.nb_eq rfl (fun c2 => ?_) (fun c2 => ?_)
    · refine WP.bipush rfl ?_
      refine WP.reti rfl ?_; have e := kk; simp only [F_X11_drill, H_X11_drill, if_pos c1, if_neg (c2)] at e ⊢; exact e
    · have q7 := q8 c2
      refine WP.iload_n rfl rfl ?_
      refine WP.iconst rfl ?_
      refine WP.ldc rfl ?_
      refine WP.callF (c_X11_within a3 0 100000 h) rfl rfl (pm_cok rfl rfl (Or.inl rfl) rfl rfl) rfl rfl ?_
      show WP 123 (14, [(13, 0), (0, a1), (0, a2), (0, a3), (0, a4)], [(0, if 0 ≤ a3 ∧ a3 ≤ 100000 then 1 else 0)], h) Q
      refine WP.nb_eq rfl (fun c3 => ?_) (fun c3 => ?_)
      · refine WP.bipush rfl ?_
        refine WP.reti rfl ?_; have e := kk; simp only [F_X11_drill, H_X11_drill, if_pos c1, if_pos c2, if_neg (c3)] at e ⊢; exact e
      · have q6 := q7 c3
        refine WP.iload rfl rfl ?_
        refine WP.iconst rfl ?_
        refine WP.bipush rfl ?_
        refine WP.callF (c_X11_within a4 1 30 h) rfl rfl (pm_cok rfl rfl (Or.inl rfl) rfl rfl) rfl rfl ?_
        show WP 123 (19, [(13, 0), (0, a1), (0, a2), (0, a3), (0, a4)], [(0, if 1 ≤ a4 ∧ a4 ≤ 30 then 1 else 0)], h) Q
        refine WP.nb_ne rfl (fun c4 => ?_) (fun c4 => ?_)
        · have o5 := q6 c4
          refine WP.aload_n rfl rfl ⟨by decide, by decide⟩ ?_
          refine WP.getRF (b := 95) rfl rfl rfl ?_
          refine WP.getRF (b := 96) rfl rfl rfl ?_
          refine WP.iload_n rfl rfl ?_
          refine WP.iload rfl rfl ?_
          refine WP.iastore rfl ⟨by decide, by decide, by decide⟩ o5 ?_
          refine WP.aload_n rfl rfl ⟨by decide, by decide⟩ ?_
          refine WP.getRF (b := 95) rfl rfl rfl ?_
          refine WP.getRF (b := 97) rfl rfl rfl ?_
          refine WP.iload_n rfl rfl ?_
          refine WP.iload_n rfl rfl ?_
          refine WP.iastore rfl ⟨by decide, by decide, by decide⟩ o5 ?_
          refine WP.aload_n rfl rfl ⟨by decide, by decide⟩ ?_
          refine WP.getRF (b := 95) rfl rfl rfl ?_
          refine WP.getRF (b := 98) rfl rfl rfl ?_
          refine WP.iload_n rfl rfl ?_
          refine WP.iload_n rfl rfl ?_
          refine WP.iastore rfl ⟨by decide, by decide, by decide⟩ o5 ?_
          refine WP.iconst rfl ?_
          refine WP.reti rfl ?_; have e := kk; simp only [F_X11_drill, H_X11_drill, if_pos c1, if_pos c2, if_pos c3, if_pos c4] at e ⊢; exact e
        · refine WP.bipush rfl ?_
          refine WP.reti rfl ?_; have e := kk; simp only [F_X11_drill, H_X11_drill, if_pos c1, if_pos c2, if_pos c3, if_neg (c4)] at e ⊢; exact e
theorem c_X11_drill (a1 : Int) (a2 : Int) (a3 : Int) (a4 : Int) (h : pH) (hp : P_X11_drill a1 a2 a3 a4 h) : CP 123 [(13, 0), (0, a1), (0, a2), (0, a3), (0, a4)] h (fun r h1 => r = some (0, F_X11_drill a1 a2 a3 a4 h) ∧ h1 = H_X11_drill a1 a2 a3 a4 h) := w_X11_drill a1 a2 a3 a4 h hp ⟨rfl, rfl⟩
noncomputable def F_X11_forge (a1 : Int) (a2 : Int) (h : pH) : Int := if 0 ≤ a1 ∧ a1 ≤ ((h 99 3) - 1) then 1 else (-2)
noncomputable def H_X11_forge (a1 : Int) (a2 : Int) (h : pH) : pH := if 0 ≤ a1 ∧ a1 ≤ ((h 99 3) - 1) then pm_upd h 146 a1 a2 else h
noncomputable def P_X11_forge (a1 : Int) (a2 : Int) (h : pH) : Prop := (fx_i ((h 99 3) - 1)) ∧ ((0 ≤ a1 ∧ a1 ≤ ((h 99 3) - 1)) → ((0 ≤ a1 ∧ a1 < 40)))
set_option maxHeartbeats 4000000 in
theorem w_X11_forge (a1 : Int) (a2 : Int) (h : pH) {Q : Option pV → pH → Prop} (hp : P_X11_forge a1 a2 h) (kk : Q (some (0, F_X11_forge a1 a2 h)) (H_X11_forge a1 a2 h)) : WP 129 (0, [(13, 0), (0, a1), (1, a2), pU], [], h) Q := by
  unfold P_X11_forge at hp
  obtain ⟨o1, q4⟩ := hp
  refine WP.iload_n rfl rfl ?_
  refine WP.iconst rfl ?_
  refine WP.aload_n rfl rfl ⟨by decide, by decide⟩ ?_
  refine WP.getRF (b := 99) rfl rfl rfl ?_
  refine WP.getI rfl rfl ?_
  refine WP.iconst rfl ?_
  refine WP.isubE rfl o1 ?_
  refine WP.callF (c_X11_within a1 0 ((h 99 3) - 1) h) rfl rfl (pm_cok rfl rfl (Or.inl rfl) rfl rfl) rfl rfl ?_
  show WP 129 (8, [(13, 0), (0, a1), (1, a2), pU], [(0, if 0 ≤ a1 ∧ a1 ≤ ((h 99 3) - 1) then 1 else 0)], h) Q
  refine WP.nb_ne rfl (fun c2 => ?_) (fun c2 => ?_)
  · have o3 := q4 c2
    refine WP.aload_n rfl rfl ⟨by decide, by decide⟩ ?_
    refine WP.getRF (b := 99) rfl rfl rfl ?_
    refine WP.getRF (b := 146) rfl rfl rfl ?_
    refine WP.iload_n rfl rfl ?_
    refine WP.lload_n rfl rfl ?_
    refine WP.lastore rfl ⟨by decide, by decide, by decide⟩ o3 ?_
    refine WP.iconst rfl ?_
    refine WP.reti rfl ?_; have e := kk; simp only [F_X11_forge, H_X11_forge, if_pos c2] at e ⊢; exact e
  · refine WP.bipush rfl ?_
    refine WP.reti rfl ?_; have e := kk; simp only [F_X11_forge, H_X11_forge, if_neg (c2)] at e ⊢; exact e
theorem c_X11_forge (a1 : Int) (a2 : Int) (h : pH) (hp : P_X11_forge a1 a2 h) : CP 129 [(13, 0), (0, a1), (1, a2)] h (fun r h1 => r = some (0, F_X11_forge a1 a2 h) ∧ h1 = H_X11_forge a1 a2 h) := w_X11_forge a1 a2 h hp ⟨rfl, rfl⟩
noncomputable def F_X11_count (a1 : Int) (h : pH) : Int := if a1 = 0 then h 8 10 else if a1 = 1 then h 22 15 else if a1 = 2 then F_X10_countIn 22 2 h else if a1 = 3 then F_X10_countIn 22 3 h else if a1 = 4 then h 38 4 else if a1 = 5 then h 99 3 else if a1 = 6 then h 43 3 else (-2)
noncomputable def P_X11_count (a1 : Int) (h : pH) : Prop := ((¬ a1 = 0) → (((¬ a1 = 1) → ((((a1 = 2) → P_X10_countIn 22 2 h) ∧ ((¬ a1 = 2) → (((a1 = 3) → P_X10_countIn 22 3 h))))))))
set_option maxHeartbeats 4000000 in
theorem w_X11_count (a1 : Int) (h : pH) {Q : Option pV → pH → Prop} (hp : P_X11_count a1 h) (kk : Q (some (0, F_X11_count a1 h)) (h)) : WP 133 (0, [(13, 0), (0, a1)], [], h) Q := by
  unfold P_X11_count at hp
  have q13 := hp
  refine WP.iload_n rfl rfl ?_
  refine WP.ntsw rfl rfl ?_
  show WP 133 (fx_sw 0 [2, 7, 12, 18, 24, 29, 33] 38 a1, [(13, 0), (0, a1)], [], h) Q
  refine WP.nsl rfl (fun (c1 : a1 = 0) => ?_) (fun (c1 : ¬ a1 = 0) => ?_)
  · show WP 133 (2, [(13, 0), (0, a1)], [], h) Q
    refine WP.aload_n rfl rfl ⟨by decide, by decide⟩ ?_
    refine WP.getRF (b := 1) rfl rfl rfl ?_
    refine WP.getRF (b := 8) rfl rfl rfl ?_
    refine WP.getI rfl rfl ?_
    refine WP.reti rfl ?_; have e := kk; simp only [F_X11_count, if_pos c1] at e ⊢; exact e
  · have q12 := q13 c1
    refine WP.nsl rfl (fun (c2 : a1 = 1) => ?_) (fun (c2 : ¬ a1 = 1) => ?_)
    · show WP 133 (7, [(13, 0), (0, a1)], [], h) Q
      refine WP.aload_n rfl rfl ⟨by decide, by decide⟩ ?_
      refine WP.getRF (b := 1) rfl rfl rfl ?_
      refine WP.getRF (b := 22) rfl rfl rfl ?_
      refine WP.getI rfl rfl ?_
      refine WP.reti rfl ?_; have e := kk; simp only [F_X11_count, if_neg (c1), if_pos c2] at e ⊢; exact e
    · have q11 := q12 c2
      refine WP.nsl rfl (fun (c3 : a1 = 2) => ?_) (fun (c3 : ¬ a1 = 2) => ?_)
      · have o4 := q11.1 c3
        show WP 133 (12, [(13, 0), (0, a1)], [], h) Q
        refine WP.aload_n rfl rfl ⟨by decide, by decide⟩ ?_
        refine WP.getRF (b := 1) rfl rfl rfl ?_
        refine WP.getRF (b := 22) rfl rfl rfl ?_
        refine WP.iconst rfl ?_
        refine WP.callF (c_X10_countIn 22 2 h o4) rfl rfl (pm_cok rfl rfl (Or.inr ⟨_, _, rfl⟩) rfl rfl) rfl rfl ?_
        show WP 133 (17, [(13, 0), (0, a1)], [(0, F_X10_countIn 22 2 h)], h) Q
        refine WP.reti rfl ?_; have e := kk; simp only [F_X11_count, if_neg (c1), if_neg (c2), if_pos c3] at e ⊢; exact e
      · have q10 := q11.2 c3
        refine WP.nsl rfl (fun (c5 : a1 = 3) => ?_) (fun (c5 : ¬ a1 = 3) => ?_)
        · have o6 := q10 c5
          show WP 133 (18, [(13, 0), (0, a1)], [], h) Q
          refine WP.aload_n rfl rfl ⟨by decide, by decide⟩ ?_
          refine WP.getRF (b := 1) rfl rfl rfl ?_
          refine WP.getRF (b := 22) rfl rfl rfl ?_
          refine WP.iconst rfl ?_
          refine WP.callF (c_X10_countIn 22 3 h o6) rfl rfl (pm_cok rfl rfl (Or.inr ⟨_, _, rfl⟩) rfl rfl) rfl rfl ?_
          show WP 133 (23, [(13, 0), (0, a1)], [(0, F_X10_countIn 22 3 h)], h) Q
          refine WP.reti rfl ?_; have e := kk; simp only [F_X11_count, if_neg (c1), if_neg (c2), if_neg (c3), if_pos c5] at e ⊢; exact e
        · refine WP.nsl rfl (fun (c7 : a1 = 4) => ?_) (fun (c7 : ¬ a1 = 4) => ?_)
          · show WP 133 (24, [(13, 0), (0, a1)], [], h) Q
            refine WP.aload_n rfl rfl ⟨by decide, by decide⟩ ?_
            refine WP.getRF (b := 1) rfl rfl rfl ?_
            refine WP.getRF (b := 38) rfl rfl rfl ?_
            refine WP.getI rfl rfl ?_
            refine WP.reti rfl ?_; have e := kk; simp only [F_X11_count, if_neg (c1), if_neg (c2), if_neg (c3), if_neg (c5), if_pos c7] at e ⊢; exact e
          · refine WP.nsl rfl (fun (c8 : a1 = 5) => ?_) (fun (c8 : ¬ a1 = 5) => ?_)
            · show WP 133 (29, [(13, 0), (0, a1)], [], h) Q
              refine WP.aload_n rfl rfl ⟨by decide, by decide⟩ ?_
              refine WP.getRF (b := 99) rfl rfl rfl ?_
              refine WP.getI rfl rfl ?_
              refine WP.reti rfl ?_; have e := kk; simp only [F_X11_count, if_neg (c1), if_neg (c2), if_neg (c3), if_neg (c5), if_neg (c7), if_pos c8] at e ⊢; exact e
            · refine WP.nsl rfl (fun (c9 : a1 = 6) => ?_) (fun (c9 : ¬ a1 = 6) => ?_)
              · show WP 133 (33, [(13, 0), (0, a1)], [], h) Q
                refine WP.aload_n rfl rfl ⟨by decide, by decide⟩ ?_
                refine WP.getRF (b := 1) rfl rfl rfl ?_
                refine WP.getRF (b := 43) rfl rfl rfl ?_
                refine WP.getI rfl rfl ?_
                refine WP.reti rfl ?_; have e := kk; simp only [F_X11_count, if_neg (c1), if_neg (c2), if_neg (c3), if_neg (c5), if_neg (c7), if_neg (c8), if_pos c9] at e ⊢; exact e
              · show WP 133 (38, [(13, 0), (0, a1)], [], h) Q
                refine WP.bipush rfl ?_
                refine WP.reti rfl ?_; have e := kk; simp only [F_X11_count, if_neg (c1), if_neg (c2), if_neg (c3), if_neg (c5), if_neg (c7), if_neg (c8), if_neg (c9)] at e ⊢; exact e
theorem c_X11_count (a1 : Int) (h : pH) (hp : P_X11_count a1 h) : CP 133 [(13, 0), (0, a1)] h (fun r h1 => r = some (0, F_X11_count a1 h) ∧ h1 = h) := w_X11_count a1 h hp ⟨rfl, rfl⟩
noncomputable def F_X11_isCell (a0 : Int) (h : pH) : Int := if 0 ≤ a0 ∧ a0 ≤ 11 then 1 else 0
set_option maxHeartbeats 4000000 in
theorem w_X11_isCell (a0 : Int) (h : pH) {Q : Option pV → pH → Prop} (kk : Q (some (0, F_X11_isCell a0 h)) (h)) : WP 137 (0, [(0, a0)], [], h) Q := by
  refine WP.iload_n rfl rfl ?_
  refine WP.iconst rfl ?_
  refine WP.bipush rfl ?_
  refine WP.callF (c_X11_within a0 0 11 h) rfl rfl (pm_cok rfl rfl (Or.inl rfl) rfl rfl) rfl rfl ?_
  show WP 137 (4, [(0, a0)], [(0, if 0 ≤ a0 ∧ a0 ≤ 11 then 1 else 0)], h) Q
  refine WP.retz rfl (fx_01 _) ?_; exact kk
theorem c_X11_isCell (a0 : Int) (h : pH) : CP 137 [(0, a0)] h (fun r h1 => r = some (0, F_X11_isCell a0 h) ∧ h1 = h) := w_X11_isCell a0 h ⟨rfl, rfl⟩
noncomputable def F_X11_isHouse (a0 : Int) (h : pH) : Int := if 0 ≤ a0 ∧ a0 ≤ 7 then 1 else 0
set_option maxHeartbeats 4000000 in
theorem w_X11_isHouse (a0 : Int) (h : pH) {Q : Option pV → pH → Prop} (kk : Q (some (0, F_X11_isHouse a0 h)) (h)) : WP 138 (0, [(0, a0)], [], h) Q := by
  refine WP.iload_n rfl rfl ?_
  refine WP.iconst rfl ?_
  refine WP.bipush rfl ?_
  refine WP.callF (c_X11_within a0 0 7 h) rfl rfl (pm_cok rfl rfl (Or.inl rfl) rfl rfl) rfl rfl ?_
  show WP 138 (4, [(0, a0)], [(0, if 0 ≤ a0 ∧ a0 ≤ 7 then 1 else 0)], h) Q
  refine WP.retz rfl (fx_01 _) ?_; exact kk
theorem c_X11_isHouse (a0 : Int) (h : pH) : CP 138 [(0, a0)] h (fun r h1 => r = some (0, F_X11_isHouse a0 h) ∧ h1 = h) := w_X11_isHouse a0 h ⟨rfl, rfl⟩
noncomputable def F_X11_isPin (a1 : Int) (h : pH) : Int := if (-1) ≤ a1 ∧ a1 ≤ ((h 8 10) - 1) then 1 else 0
noncomputable def P_X11_isPin (a1 : Int) (h : pH) : Prop := (fx_i ((h 8 10) - 1))
set_option maxHeartbeats 4000000 in
theorem w_X11_isPin (a1 : Int) (h : pH) {Q : Option pV → pH → Prop} (hp : P_X11_isPin a1 h) (kk : Q (some (0, F_X11_isPin a1 h)) (h)) : WP 139 (0, [(13, 0), (0, a1)], [], h) Q := by
  unfold P_X11_isPin at hp
  have o1 := hp
  refine WP.iload_n rfl rfl ?_
  refine WP.iconst rfl ?_
  refine WP.aload_n rfl rfl ⟨by decide, by decide⟩ ?_
  refine WP.getRF (b := 1) rfl rfl rfl ?_
  refine WP.getRF (b := 8) rfl rfl rfl ?_
  refine WP.getI rfl rfl ?_
  refine WP.iconst rfl ?_
  refine WP.isubE rfl o1 ?_
  refine WP.callF (c_X11_within a1 (-1) ((h 8 10) - 1) h) rfl rfl (pm_cok rfl rfl (Or.inl rfl) rfl rfl) rfl rfl ?_
  show WP 139 (9, [(13, 0), (0, a1)], [(0, if (-1) ≤ a1 ∧ a1 ≤ ((h 8 10) - 1) then 1 else 0)], h) Q
  refine WP.retz rfl (fx_01 _) ?_; exact kk
theorem c_X11_isPin (a1 : Int) (h : pH) (hp : P_X11_isPin a1 h) : CP 139 [(13, 0), (0, a1)] h (fun r h1 => r = some (0, F_X11_isPin a1 h) ∧ h1 = h) := w_X11_isPin a1 h hp ⟨rfl, rfl⟩
noncomputable def F_X12_room (a1 : Int) (a2 : Int) (a3 : Int) (h : pH) : Int := if 0 ≤ a1 ∧ a1 ≤ 500 then if 0 ≤ a2 ∧ a2 ≤ 500 then if 0 ≤ a3 ∧ a3 ≤ 200 then 1 else (-2) else (-2) else (-2)
noncomputable def H_X12_room (a1 : Int) (a2 : Int) (a3 : Int) (h : pH) : pH := if 0 ≤ a1 ∧ a1 ≤ 500 then if 0 ≤ a2 ∧ a2 ≤ 500 then if 0 ≤ a3 ∧ a3 ≤ 200 then pm_upd (pm_upd (pm_upd h 249 0 a1) 249 1 a2) 249 2 a3 else h else h else h
set_option maxHeartbeats 4000000 in
theorem w_X12_room (a1 : Int) (a2 : Int) (a3 : Int) (h : pH) {Q : Option pV → pH → Prop} (kk : Q (some (0, F_X12_room a1 a2 a3 h)) (H_X12_room a1 a2 a3 h)) : WP 144 (0, [(14, 248), (0, a1), (0, a2), (0, a3)], [], h) Q := by
  refine WP.iload_n rfl rfl ?_
  refine WP.i2l rfl ?_
  refine WP.lconst rfl ?_
  refine WP.ldc2_w rfl ?_
  refine WP.callF (c_X12_in a1 0 500 h) rfl rfl (pm_cok rfl rfl (Or.inl rfl) rfl rfl) rfl rfl ?_
  show WP 144 (5, [(14, 248), (0, a1), (0, a2), (0, a3)], [(0, if 0 ≤ a1 ∧ a1 ≤ 500 then 1 else 0)], h) Q
  refine WP.nb_eq rfl (fun c1 => ?_) (fun c1 => ?_)
  · refine WP.bipush rfl ?_
    refine WP.reti rfl ?_; have e := kk; simp only [F_X12_room, H_X12_room, if_neg (c1)] at e ⊢; exact e
  · refine WP.iload_n rfl rfl ?_
    refine WP.i2l rfl ?_
    refine WP.lconst rfl ?_
    refine WP.ldc2_w rfl ?_
    refine WP.callF (c_X12_in a2 0 500 h) rfl rfl (pm_cok rfl rfl (Or.inl rfl) rfl rfl) rfl rfl ?_
    show WP 144 (11, [(14, 248), (0, a1), (0, a2), (0, a3)], [(0, if 0 ≤ a2 ∧ a2 ≤ 500 then 1 else 0)], h) Q
    refine WP.nb_eq rfl (fun c2 => ?_) (fun c2 => ?_)
    · refine WP.bipush rfl ?_
      refine WP.reti rfl ?_; have e := kk; simp only [F_X12_room, H_X12_room, if_pos c1, if_neg (c2)] at e ⊢; exact e
    · refine WP.iload_n rfl rfl ?_
      refine WP.i2l rfl ?_
      refine WP.lconst rfl ?_
      refine WP.ldc2_w rfl ?_
      refine WP.callF (c_X12_in a3 0 200 h) rfl rfl (pm_cok rfl rfl (Or.inl rfl) rfl rfl) rfl rfl ?_
      show WP 144 (17, [(14, 248), (0, a1), (0, a2), (0, a3)], [(0, if 0 ≤ a3 ∧ a3 ≤ 200 then 1 else 0)], h) Q
      refine WP.nb_ne rfl (fun c3 => ?_) (fun c3 => ?_)
      · refine WP.aload_n rfl rfl ⟨by decide, by decide⟩ ?_
        refine WP.getRF (b := 249) rfl rfl rfl ?_
        refine WP.iconst rfl ?_
        refine WP.iload_n rfl rfl ?_
        refine WP.i2l rfl ?_
        refine WP.lastore rfl ⟨by decide, by decide, by decide⟩ (by decide) ?_
        refine WP.aload_n rfl rfl ⟨by decide, by decide⟩ ?_
        refine WP.getRF (b := 249) rfl rfl rfl ?_
        refine WP.iconst rfl ?_
        refine WP.iload_n rfl rfl ?_
        refine WP.i2l rfl ?_
        refine WP.lastore rfl ⟨by decide, by decide, by decide⟩ (by decide) ?_
        refine WP.aload_n rfl rfl ⟨by decide, by decide⟩ ?_
        refine WP.getRF (b := 249) rfl rfl rfl ?_
        refine WP.iconst rfl ?_
        refine WP.iload_n rfl rfl ?_
        refine WP.i2l rfl ?_
        refine WP.lastore rfl ⟨by decide, by decide, by decide⟩ (by decide) ?_
        refine WP.iconst rfl ?_
        refine WP.reti rfl ?_; have e := kk; simp only [F_X12_room, H_X12_room, if_pos c1, if_pos c2, if_pos c3] at e ⊢; exact e
      · refine WP.bipush rfl ?_
        refine WP.reti rfl ?_; have e := kk; simp only [F_X12_room, H_X12_room, if_pos c1, if_pos c2, if_neg (c3)] at e ⊢; exact e
theorem c_X12_room (a1 : Int) (a2 : Int) (a3 : Int) (h : pH) : CP 144 [(14, 248), (0, a1), (0, a2), (0, a3)] h (fun r h1 => r = some (0, F_X12_room a1 a2 a3 h) ∧ h1 = H_X12_room a1 a2 a3 h) := w_X12_room a1 a2 a3 h ⟨rfl, rfl⟩
noncomputable def F_X12_isCell (a0 : Int) (h : pH) : Int := if 0 ≤ a0 ∧ a0 ≤ 11 then 1 else 0
set_option maxHeartbeats 4000000 in
theorem w_X12_isCell (a0 : Int) (h : pH) {Q : Option pV → pH → Prop} (kk : Q (some (0, F_X12_isCell a0 h)) (h)) : WP 145 (0, [(0, a0)], [], h) Q := by
  refine WP.iload_n rfl rfl ?_
  refine WP.i2l rfl ?_
  refine WP.lconst rfl ?_
  refine WP.ldc2_w rfl ?_
  refine WP.callF (c_X12_in a0 0 11 h) rfl rfl (pm_cok rfl rfl (Or.inl rfl) rfl rfl) rfl rfl ?_
  show WP 145 (5, [(0, a0)], [(0, if 0 ≤ a0 ∧ a0 ≤ 11 then 1 else 0)], h) Q
  refine WP.retz rfl (fx_01 _) ?_; exact kk
theorem c_X12_isCell (a0 : Int) (h : pH) : CP 145 [(0, a0)] h (fun r h1 => r = some (0, F_X12_isCell a0 h) ∧ h1 = h) := w_X12_isCell a0 h ⟨rfl, rfl⟩
noncomputable def s_X12_addMachine_1 (a1 : Int) (a2 : Int) (h : pH) : pH := pm_upd (pm_upd h 249 (84 + (h 249 12)) a1) 249 (94 + (h 249 12)) a2
noncomputable def s_X12_addMachine_2 (a1 : Int) (a2 : Int) (a3 : Int) (h : pH) : pH := pm_upd (s_X12_addMachine_1 a1 a2 h) 249 (104 + (h 249 12)) a3
noncomputable def s_X12_addMachine_3 (a1 : Int) (a2 : Int) (a3 : Int) (a4 : Int) (h : pH) : pH := pm_upd (s_X12_addMachine_2 a1 a2 a3 h) 249 (114 + (h 249 12)) a4
noncomputable def s_X12_addMachine_4 (a1 : Int) (a2 : Int) (a3 : Int) (a4 : Int) (a5 : Int) (h : pH) : pH := pm_upd (s_X12_addMachine_3 a1 a2 a3 a4 h) 249 (124 + (h 249 12)) a5
noncomputable def s_X12_addMachine_5 (a1 : Int) (a2 : Int) (a3 : Int) (a4 : Int) (a5 : Int) (h : pH) : pH := pm_upd (s_X12_addMachine_4 a1 a2 a3 a4 a5 h) 249 (134 + (h 249 12)) 0
noncomputable def s_X12_addMachine_6 (a1 : Int) (a2 : Int) (a3 : Int) (a4 : Int) (a5 : Int) (h : pH) : pH := pm_upd (s_X12_addMachine_5 a1 a2 a3 a4 a5 h) 249 (144 + (h 249 12)) 0
noncomputable def s_X12_addMachine_7 (a1 : Int) (a2 : Int) (a3 : Int) (a4 : Int) (a5 : Int) (h : pH) : pH := pm_upd (s_X12_addMachine_6 a1 a2 a3 a4 a5 h) 249 (154 + (h 249 12)) (-1)
noncomputable def s_X12_addMachine_8 (a1 : Int) (a2 : Int) (a3 : Int) (a4 : Int) (a5 : Int) (h : pH) : pH := pm_upd (s_X12_addMachine_7 a1 a2 a3 a4 a5 h) 249 (164 + (h 249 12)) 0
noncomputable def s_X12_addMachine_9 (a1 : Int) (a2 : Int) (a3 : Int) (a4 : Int) (a5 : Int) (h : pH) : pH := pm_upd (s_X12_addMachine_8 a1 a2 a3 a4 a5 h) 249 12 (((s_X12_addMachine_8 a1 a2 a3 a4 a5 h) 249 12) + 1)
noncomputable def H_X12_addMachine (a1 : Int) (a2 : Int) (a3 : Int) (a4 : Int) (a5 : Int) (h : pH) : pH := s_X12_addMachine_9 a1 a2 a3 a4 a5 h
noncomputable def P_X12_addMachine (a1 : Int) (a2 : Int) (a3 : Int) (a4 : Int) (a5 : Int) (h : pH) : Prop := P_X12_at 12 h ∧ (fx_i (84 + (h 249 12))) ∧ (0 ≤ 84 + (h 249 12) ∧ 84 + (h 249 12) < 620) ∧ (fx_i (94 + (h 249 12))) ∧ (0 ≤ 94 + (h 249 12) ∧ 94 + (h 249 12) < 620) ∧ (fx_i (104 + (h 249 12))) ∧ (0 ≤ 104 + (h 249 12) ∧ 104 + (h 249 12) < 620) ∧ (fx_i (114 + (h 249 12))) ∧ (0 ≤ 114 + (h 249 12) ∧ 114 + (h 249 12) < 620) ∧ (fx_i (124 + (h 249 12))) ∧ (0 ≤ 124 + (h 249 12) ∧ 124 + (h 249 12) < 620) ∧ (fx_i (134 + (h 249 12))) ∧ (0 ≤ 134 + (h 249 12) ∧ 134 + (h 249 12) < 620) ∧ (fx_i (144 + (h 249 12))) ∧ (0 ≤ 144 + (h 249 12) ∧ 144 + (h 249 12) < 620) ∧ (fx_i (154 + (h 249 12))) ∧ (0 ≤ 154 + (h 249 12) ∧ 154 + (h 249 12) < 620) ∧ (fx_i (164 + (h 249 12))) ∧ (0 ≤ 164 + (h 249 12) ∧ 164 + (h 249 12) < 620) ∧ (fx_l (((s_X12_addMachine_8 a1 a2 a3 a4 a5 h) 249 12) + 1))
set_option maxHeartbeats 4000000 in
theorem w_X12_addMachine (a1 : Int) (a2 : Int) (a3 : Int) (a4 : Int) (a5 : Int) (h : pH) {Q : Option pV → pH → Prop} (hp : P_X12_addMachine a1 a2 a3 a4 a5 h) (kk : Q (none) (H_X12_addMachine a1 a2 a3 a4 a5 h)) : WP 148 (0, [(14, 248), (1, a1), pU, (1, a2), pU, (1, a3), pU, (1, a4), pU, (1, a5), pU, pU], [], h) Q := by
  unfold P_X12_addMachine at hp
  obtain ⟨o1, o2, o3, o4, o5, o6, o7, o8, o9, o10, o11, o12, o13, o14, o15, o16, o17, o18, o19, o20⟩ := hp
  refine WP.aload_n rfl rfl ⟨by decide, by decide⟩ ?_
  refine WP.bipush rfl ?_
  refine WP.callF (c_X12_at 12 h o1) rfl rfl (pm_cok rfl rfl (Or.inr ⟨_, _, rfl⟩) rfl rfl) rfl rfl ?_
  show WP 148 (3, [(14, 248), (1, a1), pU, (1, a2), pU, (1, a3), pU, (1, a4), pU, (1, a5), pU, pU], [(0, h 249 12)], h) Q
  refine WP.istore (L' := [(14, 248), (1, a1), pU, (1, a2), pU, (1, a3), pU, (1, a4), pU, (1, a5), pU, (0, h 249 12)]) rfl rfl ?_
  refine WP.aload_n rfl rfl ⟨by decide, by decide⟩ ?_
  refine WP.getRF (b := 249) rfl rfl rfl ?_
  refine WP.bipush rfl ?_
  refine WP.iload rfl rfl ?_
  refine WP.iaddE rfl o2 ?_
  refine WP.lload_n rfl rfl ?_
  refine WP.lastore rfl ⟨by decide, by decide, by decide⟩ o3 ?_
  refine WP.aload_n rfl rfl ⟨by decide, by decide⟩ ?_
  refine WP.getRF (b := 249) rfl rfl rfl ?_
  refine WP.bipush rfl ?_
  refine WP.iload rfl rfl ?_
  refine WP.iaddE rfl o4 ?_
  refine WP.lload_n rfl rfl ?_
  refine WP.lastore rfl ⟨by decide, by decide, by decide⟩ o5 ?_
  show WP 148 (18, [(14, 248), (1, a1), pU, (1, a2), pU, (1, a3), pU, (1, a4), pU, (1, a5), pU, (0, h 249 12)], [], s_X12_addMachine_1 a1 a2 h) Q
  refine WP.aload_n rfl rfl ⟨by decide, by decide⟩ ?_
  refine WP.getRF (b := 249) rfl rfl rfl ?_
  refine WP.bipush rfl ?_
  refine WP.iload rfl rfl ?_
  refine WP.iaddE rfl o6 ?_
  refine WP.lload rfl rfl ?_
  refine WP.lastore rfl ⟨by decide, by decide, by decide⟩ o7 ?_
  show WP 148 (25, [(14, 248), (1, a1), pU, (1, a2), pU, (1, a3), pU, (1, a4), pU, (1, a5), pU, (0, h 249 12)], [], s_X12_addMachine_2 a1 a2 a3 h) Q
  refine WP.aload_n rfl rfl ⟨by decide, by decide⟩ ?_
  refine WP.getRF (b := 249) rfl rfl rfl ?_
  refine WP.bipush rfl ?_
  refine WP.iload rfl rfl ?_
  refine WP.iaddE rfl o8 ?_
  refine WP.lload rfl rfl ?_
  refine WP.lastore rfl ⟨by decide, by decide, by decide⟩ o9 ?_
  show WP 148 (32, [(14, 248), (1, a1), pU, (1, a2), pU, (1, a3), pU, (1, a4), pU, (1, a5), pU, (0, h 249 12)], [], s_X12_addMachine_3 a1 a2 a3 a4 h) Q
  refine WP.aload_n rfl rfl ⟨by decide, by decide⟩ ?_
  refine WP.getRF (b := 249) rfl rfl rfl ?_
  refine WP.bipush rfl ?_
  refine WP.iload rfl rfl ?_
  refine WP.iaddE rfl o10 ?_
  refine WP.lload rfl rfl ?_
  refine WP.lastore rfl ⟨by decide, by decide, by decide⟩ o11 ?_
  show WP 148 (39, [(14, 248), (1, a1), pU, (1, a2), pU, (1, a3), pU, (1, a4), pU, (1, a5), pU, (0, h 249 12)], [], s_X12_addMachine_4 a1 a2 a3 a4 a5 h) Q
  refine WP.aload_n rfl rfl ⟨by decide, by decide⟩ ?_
  refine WP.getRF (b := 249) rfl rfl rfl ?_
  refine WP.sipush rfl ?_
  refine WP.iload rfl rfl ?_
  refine WP.iaddE rfl o12 ?_
  refine WP.lconst rfl ?_
  refine WP.lastore rfl ⟨by decide, by decide, by decide⟩ o13 ?_
  show WP 148 (46, [(14, 248), (1, a1), pU, (1, a2), pU, (1, a3), pU, (1, a4), pU, (1, a5), pU, (0, h 249 12)], [], s_X12_addMachine_5 a1 a2 a3 a4 a5 h) Q
  refine WP.aload_n rfl rfl ⟨by decide, by decide⟩ ?_
  refine WP.getRF (b := 249) rfl rfl rfl ?_
  refine WP.sipush rfl ?_
  refine WP.iload rfl rfl ?_
  refine WP.iaddE rfl o14 ?_
  refine WP.lconst rfl ?_
  refine WP.lastore rfl ⟨by decide, by decide, by decide⟩ o15 ?_
  show WP 148 (53, [(14, 248), (1, a1), pU, (1, a2), pU, (1, a3), pU, (1, a4), pU, (1, a5), pU, (0, h 249 12)], [], s_X12_addMachine_6 a1 a2 a3 a4 a5 h) Q
  refine WP.aload_n rfl rfl ⟨by decide, by decide⟩ ?_
  refine WP.getRF (b := 249) rfl rfl rfl ?_
  refine WP.sipush rfl ?_
  refine WP.iload rfl rfl ?_
  refine WP.iaddE rfl o16 ?_
  refine WP.ldc2_w rfl ?_
  refine WP.lastore rfl ⟨by decide, by decide, by decide⟩ o17 ?_
  show WP 148 (60, [(14, 248), (1, a1), pU, (1, a2), pU, (1, a3), pU, (1, a4), pU, (1, a5), pU, (0, h 249 12)], [], s_X12_addMachine_7 a1 a2 a3 a4 a5 h) Q
  refine WP.aload_n rfl rfl ⟨by decide, by decide⟩ ?_
  refine WP.getRF (b := 249) rfl rfl rfl ?_
  refine WP.sipush rfl ?_
  refine WP.iload rfl rfl ?_
  refine WP.iaddE rfl o18 ?_
  refine WP.lconst rfl ?_
  refine WP.lastore rfl ⟨by decide, by decide, by decide⟩ o19 ?_
  show WP 148 (67, [(14, 248), (1, a1), pU, (1, a2), pU, (1, a3), pU, (1, a4), pU, (1, a5), pU, (0, h 249 12)], [], s_X12_addMachine_8 a1 a2 a3 a4 a5 h) Q
  refine WP.aload_n rfl rfl ⟨by decide, by decide⟩ ?_
  refine WP.getRF (b := 249) rfl rfl rfl ?_
  refine WP.bipush rfl ?_
  refine WP.dup2 rfl (by decide) (by decide) ?_
  refine WP.laload rfl ⟨by decide, by decide, by decide⟩ (by decide) ?_
  refine WP.lconst rfl ?_
  refine WP.laddE rfl o20 ?_
  refine WP.lastore rfl ⟨by decide, by decide, by decide⟩ (by decide) ?_
  show WP 148 (75, [(14, 248), (1, a1), pU, (1, a2), pU, (1, a3), pU, (1, a4), pU, (1, a5), pU, (0, h 249 12)], [], s_X12_addMachine_9 a1 a2 a3 a4 a5 h) Q
  refine WP.retv rfl ?_; exact kk
theorem c_X12_addMachine (a1 : Int) (a2 : Int) (a3 : Int) (a4 : Int) (a5 : Int) (h : pH) (hp : P_X12_addMachine a1 a2 a3 a4 a5 h) : CP 148 [(14, 248), (1, a1), (1, a2), (1, a3), (1, a4), (1, a5)] h (fun r h1 => r = none ∧ h1 = H_X12_addMachine a1 a2 a3 a4 a5 h) := w_X12_addMachine a1 a2 a3 a4 a5 h hp ⟨rfl, rfl⟩
noncomputable def s_X12_feed_1 (a1 : Int) (a2 : Int) (h : pH) : pH := if 0 ≤ a1 ∧ a1 ≤ 3 then if 0 ≤ a2 ∧ a2 ≤ 10000 then H_X12_change (56 + a1) a2 h else h else h
noncomputable def s_X12_feed_2 (a1 : Int) (a2 : Int) (h : pH) : Int := if 0 ≤ a1 ∧ a1 ≤ 3 then if 0 ≤ a2 ∧ a2 ≤ 10000 then F_X12_change (56 + a1) a2 h else (-2) else (-2)
noncomputable def F_X12_feed (a1 : Int) (a2 : Int) (h : pH) : Int := s_X12_feed_2 a1 a2 h
noncomputable def H_X12_feed (a1 : Int) (a2 : Int) (h : pH) : pH := s_X12_feed_1 a1 a2 h
noncomputable def P_X12_feed (a1 : Int) (a2 : Int) (h : pH) : Prop := (((0 ≤ a1 ∧ a1 ≤ 3) → (((0 ≤ a2 ∧ a2 ≤ 10000) → ((fx_i (56 + a1)) ∧ (P_X12_change (56 + a1) a2 h))))))
set_option maxHeartbeats 4000000 in
theorem w_X12_feed (a1 : Int) (a2 : Int) (h : pH) {Q : Option pV → pH → Prop} (hp : P_X12_feed a1 a2 h) (kk : Q (some (0, F_X12_feed a1 a2 h)) (H_X12_feed a1 a2 h)) : WP 150 (0, [(14, 248), (0, a1), (0, a2)], [], h) Q := by
  unfold P_X12_feed at hp
  have q9 := hp
  refine WP.iload_n rfl rfl ?_
  refine WP.i2l rfl ?_
  refine WP.lconst rfl ?_
  refine WP.ldc2_w rfl ?_
  refine WP.callF (c_X12_in a1 0 3 h) rfl rfl (pm_cok rfl rfl (Or.inl rfl) rfl rfl) rfl rfl ?_
  show WP 150 (5, [(14, 248), (0, a1), (0, a2)], [(0, if 0 ≤ a1 ∧ a1 ≤ 3 then 1 else 0)], h) Q
  have k1 : ∀ Q' : Option pV → pH → Prop, (WP 150 (21, [(14, 248), (0, a1), (0, a2)], [(0, s_X12_feed_2 a1 a2 h)], s_X12_feed_1 a1 a2 h) Q') → WP 150 (5, [(14, 248), (0, a1), (0, a2)], [(0, if 0 ≤ a1 ∧ a1 ≤ 3 then 1 else 0)], h) Q' := fun Q' kk => by
    have q7 := q9
    refine WP.nb_eq rfl (fun c2 => ?_) (fun c2 => ?_)
    · refine WP.bipush rfl ?_
      have e := kk; simp only [s_X12_feed_2, s_X12_feed_1, if_neg (c2)] at e ⊢; exact e
    · have q6 := q7 c2
      refine WP.iload_n rfl rfl ?_
      refine WP.i2l rfl ?_
      refine WP.lconst rfl ?_
      refine WP.ldc2_w rfl ?_
      refine WP.callF (c_X12_in a2 0 10000 h) rfl rfl (pm_cok rfl rfl (Or.inl rfl) rfl rfl) rfl rfl ?_
      show WP 150 (11, [(14, 248), (0, a1), (0, a2)], [(0, if 0 ≤ a2 ∧ a2 ≤ 10000 then 1 else 0)], h) Q'
      refine WP.nb_eq rfl (fun c3 => ?_) (fun c3 => ?_)
      · refine WP.bipush rfl ?_
        have e := kk; simp only [s_X12_feed_2, s_X12_feed_1, if_pos c2, if_neg (c3)] at e ⊢; exact e
      · obtain ⟨o4, o5⟩ := q6 c3
        refine WP.aload_n rfl rfl ⟨by decide, by decide⟩ ?_
        refine WP.bipush rfl ?_
        refine WP.iload_n rfl rfl ?_
        refine WP.iaddE rfl o4 ?_
        refine WP.iload_n rfl rfl ?_
        refine WP.i2l rfl ?_
        refine WP.callF (c_X12_change (56 + a1) a2 h o5) rfl rfl (pm_cok rfl rfl (Or.inr ⟨_, _, rfl⟩) rfl rfl) rfl rfl ?_
        show WP 150 (19, [(14, 248), (0, a1), (0, a2)], [(0, F_X12_change (56 + a1) a2 h)], H_X12_change (56 + a1) a2 h) Q'
        refine WP.goto rfl ?_
        have e := kk; simp only [s_X12_feed_2, s_X12_feed_1, if_pos c2, if_pos c3] at e ⊢; exact e
  refine k1 _ ?_
  refine WP.reti rfl ?_; exact kk
theorem c_X12_feed (a1 : Int) (a2 : Int) (h : pH) (hp : P_X12_feed a1 a2 h) : CP 150 [(14, 248), (0, a1), (0, a2)] h (fun r h1 => r = some (0, F_X12_feed a1 a2 h) ∧ h1 = H_X12_feed a1 a2 h) := w_X12_feed a1 a2 h hp ⟨rfl, rfl⟩
noncomputable def s_X12_net_1 (a1 : Int) (h : pH) : Int := if 0 ≤ a1 ∧ a1 ≤ 100000 then F_X12_change 3 a1 h else (-2)
noncomputable def F_X12_net (a1 : Int) (h : pH) : Int := s_X12_net_1 a1 h
noncomputable def H_X12_net (a1 : Int) (h : pH) : pH := if 0 ≤ a1 ∧ a1 ≤ 100000 then H_X12_change 3 a1 h else h
noncomputable def P_X12_net (a1 : Int) (h : pH) : Prop := (((0 ≤ a1 ∧ a1 ≤ 100000) → P_X12_change 3 a1 h))
set_option maxHeartbeats 4000000 in
theorem w_X12_net (a1 : Int) (h : pH) {Q : Option pV → pH → Prop} (hp : P_X12_net a1 h) (kk : Q (some (0, F_X12_net a1 h)) (H_X12_net a1 h)) : WP 151 (0, [(14, 248), (0, a1)], [], h) Q := by
  unfold P_X12_net at hp
  have q6 := hp
  refine WP.iload_n rfl rfl ?_
  refine WP.i2l rfl ?_
  refine WP.lconst rfl ?_
  refine WP.ldc2_w rfl ?_
  refine WP.callF (c_X12_in a1 0 100000 h) rfl rfl (pm_cok rfl rfl (Or.inl rfl) rfl rfl) rfl rfl ?_
  show WP 151 (5, [(14, 248), (0, a1)], [(0, if 0 ≤ a1 ∧ a1 ≤ 100000 then 1 else 0)], h) Q
  have k1 : ∀ Q' : Option pV → pH → Prop, (WP 151 (13, [(14, 248), (0, a1)], [(0, s_X12_net_1 a1 h)], if 0 ≤ a1 ∧ a1 ≤ 100000 then H_X12_change 3 a1 h else h) Q') → WP 151 (5, [(14, 248), (0, a1)], [(0, if 0 ≤ a1 ∧ a1 ≤ 100000 then 1 else 0)], h) Q' := fun Q' kk => by
    have q4 := q6
    refine WP.nb_eq rfl (fun c2 => ?_) (fun c2 => ?_)
    · refine WP.bipush rfl ?_
      have e := kk; simp only [s_X12_net_1, if_neg (c2)] at e ⊢; exact e
    · have o3 := q4 c2
      refine WP.aload_n rfl rfl ⟨by decide, by decide⟩ ?_
      refine WP.iconst rfl ?_
      refine WP.iload_n rfl rfl ?_
      refine WP.i2l rfl ?_
      refine WP.callF (c_X12_change 3 a1 h o3) rfl rfl (pm_cok rfl rfl (Or.inr ⟨_, _, rfl⟩) rfl rfl) rfl rfl ?_
      show WP 151 (11, [(14, 248), (0, a1)], [(0, F_X12_change 3 a1 h)], H_X12_change 3 a1 h) Q'
      refine WP.goto rfl ?_
      have e := kk; simp only [s_X12_net_1, if_pos c2] at e ⊢; exact e
  refine k1 _ ?_
  refine WP.reti rfl ?_; exact kk
theorem c_X12_net (a1 : Int) (h : pH) (hp : P_X12_net a1 h) : CP 151 [(14, 248), (0, a1)] h (fun r h1 => r = some (0, F_X12_net a1 h) ∧ h1 = H_X12_net a1 h) := w_X12_net a1 h hp ⟨rfl, rfl⟩
noncomputable def s_X12_price_1 (a1 : Int) (a2 : Int) (h : pH) : pH := if 0 ≤ a1 ∧ a1 ≤ 23 then if 0 ≤ a2 ∧ a2 ≤ 1000 then H_X12_change (60 + a1) a2 h else h else h
noncomputable def s_X12_price_2 (a1 : Int) (a2 : Int) (h : pH) : Int := if 0 ≤ a1 ∧ a1 ≤ 23 then if 0 ≤ a2 ∧ a2 ≤ 1000 then F_X12_change (60 + a1) a2 h else (-2) else (-2)
noncomputable def F_X12_price (a1 : Int) (a2 : Int) (h : pH) : Int := s_X12_price_2 a1 a2 h
noncomputable def H_X12_price (a1 : Int) (a2 : Int) (h : pH) : pH := s_X12_price_1 a1 a2 h
noncomputable def P_X12_price (a1 : Int) (a2 : Int) (h : pH) : Prop := (((0 ≤ a1 ∧ a1 ≤ 23) → (((0 ≤ a2 ∧ a2 ≤ 1000) → ((fx_i (60 + a1)) ∧ (P_X12_change (60 + a1) a2 h))))))
set_option maxHeartbeats 4000000 in
theorem w_X12_price (a1 : Int) (a2 : Int) (h : pH) {Q : Option pV → pH → Prop} (hp : P_X12_price a1 a2 h) (kk : Q (some (0, F_X12_price a1 a2 h)) (H_X12_price a1 a2 h)) : WP 152 (0, [(14, 248), (0, a1), (0, a2)], [], h) Q := by
  unfold P_X12_price at hp
  have q9 := hp
  refine WP.iload_n rfl rfl ?_
  refine WP.i2l rfl ?_
  refine WP.lconst rfl ?_
  refine WP.ldc2_w rfl ?_
  refine WP.callF (c_X12_in a1 0 23 h) rfl rfl (pm_cok rfl rfl (Or.inl rfl) rfl rfl) rfl rfl ?_
  show WP 152 (5, [(14, 248), (0, a1), (0, a2)], [(0, if 0 ≤ a1 ∧ a1 ≤ 23 then 1 else 0)], h) Q
  have k1 : ∀ Q' : Option pV → pH → Prop, (WP 152 (21, [(14, 248), (0, a1), (0, a2)], [(0, s_X12_price_2 a1 a2 h)], s_X12_price_1 a1 a2 h) Q') → WP 152 (5, [(14, 248), (0, a1), (0, a2)], [(0, if 0 ≤ a1 ∧ a1 ≤ 23 then 1 else 0)], h) Q' := fun Q' kk => by
    have q7 := q9
    refine WP.nb_eq rfl (fun c2 => ?_) (fun c2 => ?_)
    · refine WP.bipush rfl ?_
      have e := kk; simp only [s_X12_price_2, s_X12_price_1, if_neg (c2)] at e ⊢; exact e
    · have q6 := q7 c2
      refine WP.iload_n rfl rfl ?_
      refine WP.i2l rfl ?_
      refine WP.lconst rfl ?_
      refine WP.ldc2_w rfl ?_
      refine WP.callF (c_X12_in a2 0 1000 h) rfl rfl (pm_cok rfl rfl (Or.inl rfl) rfl rfl) rfl rfl ?_
      show WP 152 (11, [(14, 248), (0, a1), (0, a2)], [(0, if 0 ≤ a2 ∧ a2 ≤ 1000 then 1 else 0)], h) Q'
      refine WP.nb_eq rfl (fun c3 => ?_) (fun c3 => ?_)
      · refine WP.bipush rfl ?_
        have e := kk; simp only [s_X12_price_2, s_X12_price_1, if_pos c2, if_neg (c3)] at e ⊢; exact e
      · obtain ⟨o4, o5⟩ := q6 c3
        refine WP.aload_n rfl rfl ⟨by decide, by decide⟩ ?_
        refine WP.bipush rfl ?_
        refine WP.iload_n rfl rfl ?_
        refine WP.iaddE rfl o4 ?_
        refine WP.iload_n rfl rfl ?_
        refine WP.i2l rfl ?_
        refine WP.callF (c_X12_change (60 + a1) a2 h o5) rfl rfl (pm_cok rfl rfl (Or.inr ⟨_, _, rfl⟩) rfl rfl) rfl rfl ?_
        show WP 152 (19, [(14, 248), (0, a1), (0, a2)], [(0, F_X12_change (60 + a1) a2 h)], H_X12_change (60 + a1) a2 h) Q'
        refine WP.goto rfl ?_
        have e := kk; simp only [s_X12_price_2, s_X12_price_1, if_pos c2, if_pos c3] at e ⊢; exact e
  refine k1 _ ?_
  refine WP.reti rfl ?_; exact kk
theorem c_X12_price (a1 : Int) (a2 : Int) (h : pH) (hp : P_X12_price a1 a2 h) : CP 152 [(14, 248), (0, a1), (0, a2)] h (fun r h1 => r = some (0, F_X12_price a1 a2 h) ∧ h1 = H_X12_price a1 a2 h) := w_X12_price a1 a2 h hp ⟨rfl, rfl⟩
noncomputable def F_X12_store (a1 : Int) (a2 : Int) (a3 : Int) (h : pH) : Int := if 0 ≤ a1 ∧ a1 ≤ 100000 then if 0 ≤ a2 ∧ a2 ≤ 10000 then if 0 ≤ a3 ∧ a3 ≤ 1000 then if h 249 7 ≤ a1 then 1 else (-3) else (-2) else (-2) else (-2)
noncomputable def H_X12_store (a1 : Int) (a2 : Int) (a3 : Int) (h : pH) : pH := if 0 ≤ a1 ∧ a1 ≤ 100000 then if 0 ≤ a2 ∧ a2 ≤ 10000 then if 0 ≤ a3 ∧ a3 ≤ 1000 then if h 249 7 ≤ a1 then pm_upd (pm_upd (pm_upd h 249 4 a1) 249 5 a2) 249 6 a3 else h else h else h else h
set_option maxHeartbeats 4000000 in
theorem w_X12_store (a1 : Int) (a2 : Int) (a3 : Int) (h : pH) {Q : Option pV → pH → Prop} (kk : Q (some (0, F_X12_store a1 a2 a3 h)) (H_X12_store a1 a2 a3 h)) : WP 153 (0, [(14, 248), (0, a1), (0, a2), (0, a3)], [], h) Q := by
  refine WP.iload_n rfl rfl ?_
  refine WP.i2l rfl ?_
  refine WP.lconst rfl ?_
  refine WP.ldc2_w rfl ?_
  refine WP.callF (c_X12_in a1 0 100000 h) rfl rfl (pm_cok rfl rfl (Or.inl rfl) rfl rfl) rfl rfl ?_
  show WP 153 (5, [(14, 248), (0, a1), (0, a2), (0, a3)], [(0, if 0 ≤ a1 ∧ a1 ≤ 100000 then 1 else 0)], h) Q
  refine WP.nb_eq rfl (fun c1 => ?_) (fun c1 => ?_)
  · refine WP.bipush rfl ?_
    refine WP.reti rfl ?_; have e := kk; simp only [F_X12_store, H_X12_store, if_neg (c1)] at e ⊢; exact e
  · refine WP.iload_n rfl rfl ?_
    refine WP.i2l rfl ?_
    refine WP.lconst rfl ?_
    refine WP.ldc2_w rfl ?_
    refine WP.callF (c_X12_in a2 0 10000 h) rfl rfl (pm_cok rfl rfl (Or.inl rfl) rfl rfl) rfl rfl ?_
    show WP 153 (11, [(14, 248), (0, a1), (0, a2), (0, a3)], [(0, if 0 ≤ a2 ∧ a2 ≤ 10000 then 1 else 0)], h) Q
    refine WP.nb_eq rfl (fun c2 => ?_) (fun c2 => ?_)
    · refine WP.bipush rfl ?_
      refine WP.reti rfl ?_; have e := kk; simp only [F_X12_store, H_X12_store, if_pos c1, if_neg (c2)] at e ⊢; exact e
    · refine WP.iload_n rfl rfl ?_
      refine WP.i2l rfl ?_
      refine WP.lconst rfl ?_
      refine WP.ldc2_w rfl ?_
      refine WP.callF (c_X12_in a3 0 1000 h) rfl rfl (pm_cok rfl rfl (Or.inl rfl) rfl rfl) rfl rfl ?_
      show WP 153 (17, [(14, 248), (0, a1), (0, a2), (0, a3)], [(0, if 0 ≤ a3 ∧ a3 ≤ 1000 then 1 else 0)], h) Q
      refine WP.nb_ne rfl (fun c3 => ?_) (fun c3 => ?_)
      · refine WP.aload_n rfl rfl ⟨by decide, by decide⟩ ?_
        refine WP.getRF (b := 249) rfl rfl rfl ?_
        refine WP.bipush rfl ?_
        refine WP.laload rfl ⟨by decide, by decide, by decide⟩ (by decide) ?_
        refine WP.iload_n rfl rfl ?_
        refine WP.i2l rfl ?_
        refine WP.lcmp rfl ?_
        refine WP.nl_le rfl (fun c4 => ?_) (fun c4 => ?_)
        · refine WP.aload_n rfl rfl ⟨by decide, by decide⟩ ?_
          refine WP.getRF (b := 249) rfl rfl rfl ?_
          refine WP.iconst rfl ?_
          refine WP.iload_n rfl rfl ?_
          refine WP.i2l rfl ?_
          refine WP.lastore rfl ⟨by decide, by decide, by decide⟩ (by decide) ?_
          refine WP.aload_n rfl rfl ⟨by decide, by decide⟩ ?_
          refine WP.getRF (b := 249) rfl rfl rfl ?_
          refine WP.iconst rfl ?_
          refine WP.iload_n rfl rfl ?_
          refine WP.i2l rfl ?_
          refine WP.lastore rfl ⟨by decide, by decide, by decide⟩ (by decide) ?_
          refine WP.aload_n rfl rfl ⟨by decide, by decide⟩ ?_
          refine WP.getRF (b := 249) rfl rfl rfl ?_
          refine WP.bipush rfl ?_
          refine WP.iload_n rfl rfl ?_
          refine WP.i2l rfl ?_
          refine WP.lastore rfl ⟨by decide, by decide, by decide⟩ (by decide) ?_
          refine WP.iconst rfl ?_
          refine WP.reti rfl ?_; have e := kk; simp only [F_X12_store, H_X12_store, if_pos c1, if_pos c2, if_pos c3, if_pos c4] at e ⊢; exact e
        · refine WP.bipush rfl ?_
          refine WP.reti rfl ?_; have e := kk; simp only [F_X12_store, H_X12_store, if_pos c1, if_pos c2, if_pos c3, if_neg (Int.not_le.mpr c4)] at e ⊢; exact e
      · refine WP.bipush rfl ?_
        refine WP.reti rfl ?_; have e := kk; simp only [F_X12_store, H_X12_store, if_pos c1, if_pos c2, if_neg (c3)] at e ⊢; exact e
theorem c_X12_store (a1 : Int) (a2 : Int) (a3 : Int) (h : pH) : CP 153 [(14, 248), (0, a1), (0, a2), (0, a3)] h (fun r h1 => r = some (0, F_X12_store a1 a2 a3 h) ∧ h1 = H_X12_store a1 a2 a3 h) := w_X12_store a1 a2 a3 h ⟨rfl, rfl⟩
noncomputable def s_X12_late_1 (a1 : Int) (h : pH) : Int := if 0 ≤ a1 ∧ a1 ≤ 5 then F_X12_change 8 a1 h else (-2)
noncomputable def F_X12_late (a1 : Int) (h : pH) : Int := s_X12_late_1 a1 h
noncomputable def H_X12_late (a1 : Int) (h : pH) : pH := if 0 ≤ a1 ∧ a1 ≤ 5 then H_X12_change 8 a1 h else h
noncomputable def P_X12_late (a1 : Int) (h : pH) : Prop := (((0 ≤ a1 ∧ a1 ≤ 5) → P_X12_change 8 a1 h))
set_option maxHeartbeats 4000000 in
theorem w_X12_late (a1 : Int) (h : pH) {Q : Option pV → pH → Prop} (hp : P_X12_late a1 h) (kk : Q (some (0, F_X12_late a1 h)) (H_X12_late a1 h)) : WP 154 (0, [(14, 248), (0, a1)], [], h) Q := by
  unfold P_X12_late at hp
  have q6 := hp
  refine WP.iload_n rfl rfl ?_
  refine WP.i2l rfl ?_
  refine WP.lconst rfl ?_
  refine WP.ldc2_w rfl ?_
  refine WP.callF (c_X12_in a1 0 5 h) rfl rfl (pm_cok rfl rfl (Or.inl rfl) rfl rfl) rfl rfl ?_
  show WP 154 (5, [(14, 248), (0, a1)], [(0, if 0 ≤ a1 ∧ a1 ≤ 5 then 1 else 0)], h) Q
  have k1 : ∀ Q' : Option pV → pH → Prop, (WP 154 (13, [(14, 248), (0, a1)], [(0, s_X12_late_1 a1 h)], if 0 ≤ a1 ∧ a1 ≤ 5 then H_X12_change 8 a1 h else h) Q') → WP 154 (5, [(14, 248), (0, a1)], [(0, if 0 ≤ a1 ∧ a1 ≤ 5 then 1 else 0)], h) Q' := fun Q' kk => by
    have q4 := q6
    refine WP.nb_eq rfl (fun c2 => ?_) (fun c2 => ?_)
    · refine WP.bipush rfl ?_
      have e := kk; simp only [s_X12_late_1, if_neg (c2)] at e ⊢; exact e
    · have o3 := q4 c2
      refine WP.aload_n rfl rfl ⟨by decide, by decide⟩ ?_
      refine WP.bipush rfl ?_
      refine WP.iload_n rfl rfl ?_
      refine WP.i2l rfl ?_
      refine WP.callF (c_X12_change 8 a1 h o3) rfl rfl (pm_cok rfl rfl (Or.inr ⟨_, _, rfl⟩) rfl rfl) rfl rfl ?_
      show WP 154 (11, [(14, 248), (0, a1)], [(0, F_X12_change 8 a1 h)], H_X12_change 8 a1 h) Q'
      refine WP.goto rfl ?_
      have e := kk; simp only [s_X12_late_1, if_pos c2] at e ⊢; exact e
  refine k1 _ ?_
  refine WP.reti rfl ?_; exact kk
theorem c_X12_late (a1 : Int) (h : pH) (hp : P_X12_late a1 h) : CP 154 [(14, 248), (0, a1)] h (fun r h1 => r = some (0, F_X12_late a1 h) ∧ h1 = H_X12_late a1 h) := w_X12_late a1 h hp ⟨rfl, rfl⟩
noncomputable def F_X12_odds (a1 : Int) (a2 : Int) (a3 : Int) (h : pH) : Int := if 0 ≤ a1 ∧ a1 ≤ 100 then if 0 ≤ a2 ∧ a2 ≤ 100 then 1 else (-2) else (-2)
noncomputable def H_X12_odds (a1 : Int) (a2 : Int) (a3 : Int) (h : pH) : pH := if 0 ≤ a1 ∧ a1 ≤ 100 then if 0 ≤ a2 ∧ a2 ≤ 100 then pm_upd (pm_upd (pm_upd h 249 9 a1) 249 10 a2) 249 11 a3 else h else h
set_option maxHeartbeats 4000000 in
theorem w_X12_odds (a1 : Int) (a2 : Int) (a3 : Int) (h : pH) {Q : Option pV → pH → Prop} (kk : Q (some (0, F_X12_odds a1 a2 a3 h)) (H_X12_odds a1 a2 a3 h)) : WP 155 (0, [(14, 248), (0, a1), (0, a2), (0, a3)], [], h) Q := by
  refine WP.iload_n rfl rfl ?_
  refine WP.i2l rfl ?_
  refine WP.lconst rfl ?_
  refine WP.ldc2_w rfl ?_
  refine WP.callF (c_X12_in a1 0 100 h) rfl rfl (pm_cok rfl rfl (Or.inl rfl) rfl rfl) rfl rfl ?_
  show WP 155 (5, [(14, 248), (0, a1), (0, a2), (0, a3)], [(0, if 0 ≤ a1 ∧ a1 ≤ 100 then 1 else 0)], h) Q
  refine WP.nb_eq rfl (fun c1 => ?_) (fun c1 => ?_)
  · refine WP.bipush rfl ?_
    refine WP.reti rfl ?_; have e := kk; simp only [F_X12_odds, H_X12_odds, if_neg (c1)] at e ⊢; exact e
  · refine WP.iload_n rfl rfl ?_
    refine WP.i2l rfl ?_
    refine WP.lconst rfl ?_
    refine WP.ldc2_w rfl ?_
    refine WP.callF (c_X12_in a2 0 100 h) rfl rfl (pm_cok rfl rfl (Or.inl rfl) rfl rfl) rfl rfl ?_
    show WP 155 (11, [(14, 248), (0, a1), (0, a2), (0, a3)], [(0, if 0 ≤ a2 ∧ a2 ≤ 100 then 1 else 0)], h) Q
    refine WP.nb_ne rfl (fun c2 => ?_) (fun c2 => ?_)
    · refine WP.aload_n rfl rfl ⟨by decide, by decide⟩ ?_
      refine WP.getRF (b := 249) rfl rfl rfl ?_
      refine WP.bipush rfl ?_
      refine WP.iload_n rfl rfl ?_
      refine WP.i2l rfl ?_
      refine WP.lastore rfl ⟨by decide, by decide, by decide⟩ (by decide) ?_
      refine WP.aload_n rfl rfl ⟨by decide, by decide⟩ ?_
      refine WP.getRF (b := 249) rfl rfl rfl ?_
      refine WP.bipush rfl ?_
      refine WP.iload_n rfl rfl ?_
      refine WP.i2l rfl ?_
      refine WP.lastore rfl ⟨by decide, by decide, by decide⟩ (by decide) ?_
      refine WP.aload_n rfl rfl ⟨by decide, by decide⟩ ?_
      refine WP.getRF (b := 249) rfl rfl rfl ?_
      refine WP.bipush rfl ?_
      refine WP.iload_n rfl rfl ?_
      refine WP.i2l rfl ?_
      refine WP.lastore rfl ⟨by decide, by decide, by decide⟩ (by decide) ?_
      refine WP.iconst rfl ?_
      refine WP.reti rfl ?_; have e := kk; simp only [F_X12_odds, H_X12_odds, if_pos c1, if_pos c2] at e ⊢; exact e
    · refine WP.bipush rfl ?_
      refine WP.reti rfl ?_; have e := kk; simp only [F_X12_odds, H_X12_odds, if_pos c1, if_neg (c2)] at e ⊢; exact e
theorem c_X12_odds (a1 : Int) (a2 : Int) (a3 : Int) (h : pH) : CP 155 [(14, 248), (0, a1), (0, a2), (0, a3)] h (fun r h1 => r = some (0, F_X12_odds a1 a2 a3 h) ∧ h1 = H_X12_odds a1 a2 a3 h) := w_X12_odds a1 a2 a3 h ⟨rfl, rfl⟩
noncomputable def F_X12_isHouse (a0 : Int) (h : pH) : Int := if 0 ≤ a0 ∧ a0 ≤ 7 then 1 else 0
set_option maxHeartbeats 4000000 in
theorem w_X12_isHouse (a0 : Int) (h : pH) {Q : Option pV → pH → Prop} (kk : Q (some (0, F_X12_isHouse a0 h)) (h)) : WP 156 (0, [(0, a0)], [], h) Q := by
  refine WP.iload_n rfl rfl ?_
  refine WP.i2l rfl ?_
  refine WP.lconst rfl ?_
  refine WP.ldc2_w rfl ?_
  refine WP.callF (c_X12_in a0 0 7 h) rfl rfl (pm_cok rfl rfl (Or.inl rfl) rfl rfl) rfl rfl ?_
  show WP 156 (5, [(0, a0)], [(0, if 0 ≤ a0 ∧ a0 ≤ 7 then 1 else 0)], h) Q
  refine WP.retz rfl (fx_01 _) ?_; exact kk
theorem c_X12_isHouse (a0 : Int) (h : pH) : CP 156 [(0, a0)] h (fun r h1 => r = some (0, F_X12_isHouse a0 h) ∧ h1 = h) := w_X12_isHouse a0 h ⟨rfl, rfl⟩
noncomputable def s_X12_addWork_1 (a1 : Int) (a2 : Int) (h : pH) : pH := pm_upd (pm_upd h 249 (200 + (h 249 13)) a1) 249 (216 + (h 249 13)) a2
noncomputable def s_X12_addWork_2 (a1 : Int) (a2 : Int) (a3 : Int) (a4 : Int) (h : pH) : pH := pm_upd (pm_upd (s_X12_addWork_1 a1 a2 h) 249 (232 + (h 249 13)) a3) 249 (248 + (h 249 13)) a4
noncomputable def s_X12_addWork_3 (a1 : Int) (a2 : Int) (a3 : Int) (a4 : Int) (a5 : Int) (h : pH) : pH := pm_upd (s_X12_addWork_2 a1 a2 a3 a4 h) 249 (264 + (h 249 13)) a5
noncomputable def s_X12_addWork_4 (a1 : Int) (a2 : Int) (a3 : Int) (a4 : Int) (a5 : Int) (a6 : Int) (h : pH) : pH := pm_upd (s_X12_addWork_3 a1 a2 a3 a4 a5 h) 249 (280 + (h 249 13)) a6
noncomputable def s_X12_addWork_5 (a1 : Int) (a2 : Int) (a3 : Int) (a4 : Int) (a5 : Int) (a6 : Int) (h : pH) : pH := pm_upd (s_X12_addWork_4 a1 a2 a3 a4 a5 a6 h) 249 (296 + (h 249 13)) 0
noncomputable def s_X12_addWork_6 (a1 : Int) (a2 : Int) (a3 : Int) (a4 : Int) (a5 : Int) (a6 : Int) (h : pH) : pH := pm_upd (s_X12_addWork_5 a1 a2 a3 a4 a5 a6 h) 249 (312 + (h 249 13)) 0
noncomputable def s_X12_addWork_7 (a1 : Int) (a2 : Int) (a3 : Int) (a4 : Int) (a5 : Int) (a6 : Int) (h : pH) : pH := pm_upd (s_X12_addWork_6 a1 a2 a3 a4 a5 a6 h) 249 (328 + (h 249 13)) 0
noncomputable def s_X12_addWork_8 (a1 : Int) (a2 : Int) (a3 : Int) (a4 : Int) (a5 : Int) (a6 : Int) (h : pH) : pH := pm_upd (s_X12_addWork_7 a1 a2 a3 a4 a5 a6 h) 249 (344 + (h 249 13)) (-1)
noncomputable def s_X12_addWork_9 (a1 : Int) (a2 : Int) (a3 : Int) (a4 : Int) (a5 : Int) (a6 : Int) (h : pH) : pH := pm_upd (s_X12_addWork_8 a1 a2 a3 a4 a5 a6 h) 249 (360 + (h 249 13)) 0
noncomputable def s_X12_addWork_10 (a1 : Int) (a2 : Int) (a3 : Int) (a4 : Int) (a5 : Int) (a6 : Int) (h : pH) : pH := pm_upd (s_X12_addWork_9 a1 a2 a3 a4 a5 a6 h) 249 13 (((s_X12_addWork_9 a1 a2 a3 a4 a5 a6 h) 249 13) + 1)
noncomputable def F_X12_addWork (a1 : Int) (a2 : Int) (a3 : Int) (a4 : Int) (a5 : Int) (a6 : Int) (h : pH) : Int := if h 249 13 = 16 then (-4) else h 249 13
noncomputable def H_X12_addWork (a1 : Int) (a2 : Int) (a3 : Int) (a4 : Int) (a5 : Int) (a6 : Int) (h : pH) : pH := if h 249 13 = 16 then h else s_X12_addWork_10 a1 a2 a3 a4 a5 a6 h
noncomputable def P_X12_addWork (a1 : Int) (a2 : Int) (a3 : Int) (a4 : Int) (a5 : Int) (a6 : Int) (h : pH) : Prop := ((¬ h 249 13 = 16) → (P_X12_at 13 h ∧ (fx_i (200 + (h 249 13))) ∧ (0 ≤ 200 + (h 249 13) ∧ 200 + (h 249 13) < 620) ∧ (fx_i (216 + (h 249 13))) ∧ (0 ≤ 216 + (h 249 13) ∧ 216 + (h 249 13) < 620) ∧ (fx_i (232 + (h 249 13))) ∧ (0 ≤ 232 + (h 249 13) ∧ 232 + (h 249 13) < 620) ∧ (fx_i (248 + (h 249 13))) ∧ (0 ≤ 248 + (h 249 13) ∧ 248 + (h 249 13) < 620) ∧ (fx_i (264 + (h 249 13))) ∧ (0 ≤ 264 + (h 249 13) ∧ 264 + (h 249 13) < 620) ∧ (fx_i (280 + (h 249 13))) ∧ (0 ≤ 280 + (h 249 13) ∧ 280 + (h 249 13) < 620) ∧ (fx_i (296 + (h 249 13))) ∧ (0 ≤ 296 + (h 249 13) ∧ 296 + (h 249 13) < 620) ∧ (fx_i (312 + (h 249 13))) ∧ (0 ≤ 312 + (h 249 13) ∧ 312 + (h 249 13) < 620) ∧ (fx_i (328 + (h 249 13))) ∧ (0 ≤ 328 + (h 249 13) ∧ 328 + (h 249 13) < 620) ∧ (fx_i (344 + (h 249 13))) ∧ (0 ≤ 344 + (h 249 13) ∧ 344 + (h 249 13) < 620) ∧ (fx_i (360 + (h 249 13))) ∧ (0 ≤ 360 + (h 249 13) ∧ 360 + (h 249 13) < 620) ∧ (fx_l (((s_X12_addWork_9 a1 a2 a3 a4 a5 a6 h) 249 13) + 1))))
set_option maxHeartbeats 4000000 in
theorem w_X12_addWork (a1 : Int) (a2 : Int) (a3 : Int) (a4 : Int) (a5 : Int) (a6 : Int) (h : pH) {Q : Option pV → pH → Prop} (hp : P_X12_addWork a1 a2 a3 a4 a5 a6 h) (kk : Q (some (0, F_X12_addWork a1 a2 a3 a4 a5 a6 h)) (H_X12_addWork a1 a2 a3 a4 a5 a6 h)) : WP 158 (0, [(14, 248), (0, a1), (0, a2), (0, a3), (0, a4), (0, a5), (0, a6), pU], [], h) Q := by
  unfold P_X12_addWork at hp
  have q26 := hp
  refine WP.aload_n rfl rfl ⟨by decide, by decide⟩ ?_
  refine WP.getRF (b := 249) rfl rfl rfl ?_
  refine WP.bipush rfl ?_
  refine WP.laload rfl ⟨by decide, by decide, by decide⟩ (by decide) ?_
  refine WP.ldc2_w rfl ?_
  refine WP.lcmp rfl ?_
  refine WP.nl_ne rfl (fun c1 => ?_) (fun c1 => ?_)
  · obtain ⟨o2, o3, o4, o5, o6, o7, o8, o9, o10, o11, o12, o13, o14, o15, o16, o17, o18, o19, o20, o21, o22, o23, o24, o25⟩ := q26 c1
    refine WP.aload_n rfl rfl ⟨by decide, by decide⟩ ?_
    refine WP.bipush rfl ?_
    refine WP.callF (c_X12_at 13 h o2) rfl rfl (pm_cok rfl rfl (Or.inr ⟨_, _, rfl⟩) rfl rfl) rfl rfl ?_
    show WP 158 (12, [(14, 248), (0, a1), (0, a2), (0, a3), (0, a4), (0, a5), (0, a6), pU], [(0, h 249 13)], h) Q
    refine WP.istore (L' := [(14, 248), (0, a1), (0, a2), (0, a3), (0, a4), (0, a5), (0, a6), (0, h 249 13)]) rfl rfl ?_
    refine WP.aload_n rfl rfl ⟨by decide, by decide⟩ ?_
    refine WP.getRF (b := 249) rfl rfl rfl ?_
    refine WP.sipush rfl ?_
    refine WP.iload rfl rfl ?_
    refine WP.iaddE rfl o3 ?_
    refine WP.iload_n rfl rfl ?_
    refine WP.i2l rfl ?_
    refine WP.lastore rfl ⟨by decide, by decide, by decide⟩ o4 ?_
    refine WP.aload_n rfl rfl ⟨by decide, by decide⟩ ?_
    refine WP.getRF (b := 249) rfl rfl rfl ?_
    refine WP.sipush rfl ?_
    refine WP.iload rfl rfl ?_
    refine WP.iaddE rfl o5 ?_
    refine WP.iload_n rfl rfl ?_
    refine WP.i2l rfl ?_
    refine WP.lastore rfl ⟨by decide, by decide, by decide⟩ o6 ?_
    show WP 158 (29, [(14, 248), (0, a1), (0, a2), (0, a3), (0, a4), (0, a5), (0, a6), (0, h 249 13)], [], s_X12_addWork_1 a1 a2 h) Q
    refine WP.aload_n rfl rfl ⟨by decide, by decide⟩ ?_
    refine WP.getRF (b := 249) rfl rfl rfl ?_
    refine WP.sipush rfl ?_
    refine WP.iload rfl rfl ?_
    refine WP.iaddE rfl o7 ?_
    refine WP.iload_n rfl rfl ?_
    refine WP.i2l rfl ?_
    refine WP.lastore rfl ⟨by decide, by decide, by decide⟩ o8 ?_
    refine WP.aload_n rfl rfl ⟨by decide, by decide⟩ ?_
    refine WP.getRF (b := 249) rfl rfl rfl ?_
    refine WP.sipush rfl ?_
    refine WP.iload rfl rfl ?_
    refine WP.iaddE rfl o9 ?_
    refine WP.iload rfl rfl ?_
    refine WP.i2l rfl ?_
    refine WP.lastore rfl ⟨by decide, by decide, by decide⟩ o10 ?_
    show WP 158 (45, [(14, 248), (0, a1), (0, a2), (0, a3), (0, a4), (0, a5), (0, a6), (0, h 249 13)], [], s_X12_addWork_2 a1 a2 a3 a4 h) Q
    refine WP.aload_n rfl rfl ⟨by decide, by decide⟩ ?_
    refine WP.getRF (b := 249) rfl rfl rfl ?_
    refine WP.sipush rfl ?_
    refine WP.iload rfl rfl ?_
    refine WP.iaddE rfl o11 ?_
    refine WP.iload rfl rfl ?_
    refine WP.i2l rfl ?_
    refine WP.lastore rfl ⟨by decide, by decide, by decide⟩ o12 ?_
    show WP 158 (53, [(14, 248), (0, a1), (0, a2), (0, a3), (0, a4), (0, a5), (0, a6), (0, h 249 13)], [], s_X12_addWork_3 a1 a2 a3 a4 a5 h) Q
    refine WP.aload_n rfl rfl ⟨by decide, by decide⟩ ?_
    refine WP.getRF (b := 249) rfl rfl rfl ?_
    refine WP.sipush rfl ?_
    refine WP.iload rfl rfl ?_
    refine WP.iaddE rfl o13 ?_
    refine WP.iload rfl rfl ?_
    refine WP.i2l rfl ?_
    refine WP.lastore rfl ⟨by decide, by decide, by decide⟩ o14 ?_
    show WP 158 (61, [(14, 248), (0, a1), (0, a2), (0, a3), (0, a4), (0, a5), (0, a6), (0, h 249 13)], [], s_X12_addWork_4 a1 a2 a3 a4 a5 a6 h) Q
    refine WP.aload_n rfl rfl ⟨by decide, by decide⟩ ?_
    refine WP.getRF (b := 249) rfl rfl rfl ?_
    refine WP.sipush rfl ?_
    refine WP.iload rfl rfl ?_
    refine WP.iaddE rfl o15 ?_
    refine WP.lconst rfl ?_
    refine WP.lastore rfl ⟨by decide, by decide, by decide⟩ o16 ?_
    show WP 158 (68, [(14, 248), (0, a1), (0, a2), (0, a3), (0, a4), (0, a5), (0, a6), (0, h 249 13)], [], s_X12_addWork_5 a1 a2 a3 a4 a5 a6 h) Q
    refine WP.aload_n rfl rfl ⟨by decide, by decide⟩ ?_
    refine WP.getRF (b := 249) rfl rfl rfl ?_
    refine WP.sipush rfl ?_
    refine WP.iload rfl rfl ?_
    refine WP.iaddE rfl o17 ?_
    refine WP.lconst rfl ?_
    refine WP.lastore rfl ⟨by decide, by decide, by decide⟩ o18 ?_
    show WP 158 (75, [(14, 248), (0, a1), (0, a2), (0, a3), (0, a4), (0, a5), (0, a6), (0, h 249 13)], [], s_X12_addWork_6 a1 a2 a3 a4 a5 a6 h) Q
    refine WP.aload_n rfl rfl ⟨by decide, by decide⟩ ?_
    refine WP.getRF (b := 249) rfl rfl rfl ?_
    refine WP.sipush rfl ?_
    refine WP.iload rfl rfl ?_
    refine WP.iaddE rfl o19 ?_
    refine WP.lconst rfl ?_
    refine WP.lastore rfl ⟨by decide, by decide, by decide⟩ o20 ?_
    show WP 158 (82, [(14, 248), (0, a1), (0, a2), (0, a3), (0, a4), (0, a5), (0, a6), (0, h 249 13)], [], s_X12_addWork_7 a1 a2 a3 a4 a5 a6 h) Q
    refine WP.aload_n rfl rfl ⟨by decide, by decide⟩ ?_
    refine WP.getRF (b := 249) rfl rfl rfl ?_
    refine WP.sipush rfl ?_
    refine WP.iload rfl rfl ?_
    refine WP.iaddE rfl o21 ?_
    refine WP.ldc2_w rfl ?_
    refine WP.lastore rfl ⟨by decide, by decide, by decide⟩ o22 ?_
    show WP 158 (89, [(14, 248), (0, a1), (0, a2), (0, a3), (0, a4), (0, a5), (0, a6), (0, h 249 13)], [], s_X12_addWork_8 a1 a2 a3 a4 a5 a6 h) Q
    refine WP.aload_n rfl rfl ⟨by decide, by decide⟩ ?_
    refine WP.getRF (b := 249) rfl rfl rfl ?_
    refine WP.sipush rfl ?_
    refine WP.iload rfl rfl ?_
    refine WP.iaddE rfl o23 ?_
    refine WP.lconst rfl ?_
    refine WP.lastore rfl ⟨by decide, by decide, by decide⟩ o24 ?_
    show WP 158 (96, [(14, 248), (0, a1), (0, a2), (0, a3), (0, a4), (0, a5), (0, a6), (0, h 249 13)], [], s_X12_addWork_9 a1 a2 a3 a4 a5 a6 h) Q
    refine WP.aload_n rfl rfl ⟨by decide, by decide⟩ ?_
    refine WP.getRF (b := 249) rfl rfl rfl ?_
    refine WP.bipush rfl ?_
    refine WP.dup2 rfl (by decide) (by decide) ?_
    refine WP.laload rfl ⟨by decide, by decide, by decide⟩ (by decide) ?_
    refine WP.lconst rfl ?_
    refine WP.laddE rfl o25 ?_
    refine WP.lastore rfl ⟨by decide, by decide, by decide⟩ (by decide) ?_
    show WP 158 (104, [(14, 248), (0, a1), (0, a2), (0, a3), (0, a4), (0, a5), (0, a6), (0, h 249 13)], [], s_X12_addWork_10 a1 a2 a3 a4 a5 a6 h) Q
    refine WP.iload rfl rfl ?_
    refine WP.reti rfl ?_; have e := kk; simp only [F_X12_addWork, H_X12_addWork, if_neg (c1)] at e ⊢; exact e
  · refine WP.bipush rfl ?_
    refine WP.reti rfl ?_; have e := kk; simp only [F_X12_addWork, H_X12_addWork, if_pos c1] at e ⊢; exact e
theorem c_X12_addWork (a1 : Int) (a2 : Int) (a3 : Int) (a4 : Int) (a5 : Int) (a6 : Int) (h : pH) (hp : P_X12_addWork a1 a2 a3 a4 a5 a6 h) : CP 158 [(14, 248), (0, a1), (0, a2), (0, a3), (0, a4), (0, a5), (0, a6)] h (fun r h1 => r = some (0, F_X12_addWork a1 a2 a3 a4 a5 a6 h) ∧ h1 = H_X12_addWork a1 a2 a3 a4 a5 a6 h) := w_X12_addWork a1 a2 a3 a4 a5 a6 h hp ⟨rfl, rfl⟩
noncomputable def F_X12_isPin (a1 : Int) (h : pH) : Int := if (-1) ≤ a1 ∧ a1 ≤ ((h 249 12) - 1) then 1 else 0
noncomputable def P_X12_isPin (a1 : Int) (h : pH) : Prop := (fx_l ((h 249 12) - 1))
set_option maxHeartbeats 4000000 in
theorem w_X12_isPin (a1 : Int) (h : pH) {Q : Option pV → pH → Prop} (hp : P_X12_isPin a1 h) (kk : Q (some (0, F_X12_isPin a1 h)) (h)) : WP 159 (0, [(14, 248), (0, a1)], [], h) Q := by
  unfold P_X12_isPin at hp
  have o1 := hp
  refine WP.iload_n rfl rfl ?_
  refine WP.i2l rfl ?_
  refine WP.ldc2_w rfl ?_
  refine WP.aload_n rfl rfl ⟨by decide, by decide⟩ ?_
  refine WP.getRF (b := 249) rfl rfl rfl ?_
  refine WP.bipush rfl ?_
  refine WP.laload rfl ⟨by decide, by decide, by decide⟩ (by decide) ?_
  refine WP.lconst rfl ?_
  refine WP.lsubE rfl o1 ?_
  refine WP.callF (c_X12_in a1 (-1) ((h 249 12) - 1) h) rfl rfl (pm_cok rfl rfl (Or.inl rfl) rfl rfl) rfl rfl ?_
  show WP 159 (10, [(14, 248), (0, a1)], [(0, if (-1) ≤ a1 ∧ a1 ≤ ((h 249 12) - 1) then 1 else 0)], h) Q
  refine WP.retz rfl (fx_01 _) ?_; exact kk
theorem c_X12_isPin (a1 : Int) (h : pH) (hp : P_X12_isPin a1 h) : CP 159 [(14, 248), (0, a1)] h (fun r h1 => r = some (0, F_X12_isPin a1 h) ∧ h1 = h) := w_X12_isPin a1 h hp ⟨rfl, rfl⟩
noncomputable def s_X12_write_1 (a1 : Int) (h : pH) : pH := pm_upd (pm_upd h 249 (376 + (h 249 14)) a1) 249 14 (((pm_upd h 249 (376 + (h 249 14)) a1) 249 14) + 1)
noncomputable def F_X12_write (a1 : Int) (h : pH) : Int := if 0 ≤ a1 ∧ a1 ≤ 127 then if h 249 14 = 60 then (-4) else (s_X12_write_1 a1 h) 249 14 else (-2)
noncomputable def H_X12_write (a1 : Int) (h : pH) : pH := if 0 ≤ a1 ∧ a1 ≤ 127 then if h 249 14 = 60 then h else s_X12_write_1 a1 h else h
noncomputable def P_X12_write (a1 : Int) (h : pH) : Prop := ((0 ≤ a1 ∧ a1 ≤ 127) → (((¬ h 249 14 = 60) → (P_X12_at 14 h ∧ (fx_i (376 + (h 249 14))) ∧ (0 ≤ 376 + (h 249 14) ∧ 376 + (h 249 14) < 620) ∧ (fx_l (((pm_upd h 249 (376 + (h 249 14)) a1) 249 14) + 1)) ∧ (P_X12_at 14 (s_X12_write_1 a1 h))))))
set_option maxHeartbeats 4000000 in
theorem w_X12_write (a1 : Int) (h : pH) {Q : Option pV → pH → Prop} (hp : P_X12_write a1 h) (kk : Q (some (0, F_X12_write a1 h)) (H_X12_write a1 h)) : WP 162 (0, [(14, 248), (0, a1)], [], h) Q := by
  unfold P_X12_write at hp
  have q9 := hp
  refine WP.iload_n rfl rfl ?_
  refine WP.i2l rfl ?_
  refine WP.lconst rfl ?_
  refine WP.ldc2_w rfl ?_
  refine WP.callF (c_X12_in a1 0 127 h) rfl rfl (pm_cok rfl rfl (Or.inl rfl) rfl rfl) rfl rfl ?_
  show WP 162 (5, [(14, 248), (0, a1)], [(0, if 0 ≤ a1 ∧ a1 ≤ 127 then 1 else 0)], h) Q
  refine WP.nb_ne rfl (fun c1 => ?_) (fun c1 => ?_)
  · have q8 := q9 c1
    refine WP.aload_n rfl rfl ⟨by decide, by decide⟩ ?_
    refine WP.getRF (b := 249) rfl rfl rfl ?_
    refine WP.bipush rfl ?_
    refine WP.laload rfl ⟨by decide, by decide, by decide⟩ (by decide) ?_
    refine WP.ldc2_w rfl ?_
    refine WP.lcmp rfl ?_
    refine WP.nl_ne rfl (fun c2 => ?_) (fun c2 => ?_)
    · obtain ⟨o3, o4, o5, o6, o7⟩ := q8 c2
      refine WP.aload_n rfl rfl ⟨by decide, by decide⟩ ?_
      refine WP.getRF (b := 249) rfl rfl rfl ?_
      refine WP.sipush rfl ?_
      refine WP.aload_n rfl rfl ⟨by decide, by decide⟩ ?_
      refine WP.bipush rfl ?_
      refine WP.callF (c_X12_at 14 h o3) rfl rfl (pm_cok rfl rfl (Or.inr ⟨_, _, rfl⟩) rfl rfl) rfl rfl ?_
      show WP 162 (23, [(14, 248), (0, a1)], [(0, h 249 14), (0, 376), (3481, 249)], h) Q
      refine WP.iaddE rfl o4 ?_
      refine WP.iload_n rfl rfl ?_
      refine WP.i2l rfl ?_
      refine WP.lastore rfl ⟨by decide, by decide, by decide⟩ o5 ?_
      refine WP.aload_n rfl rfl ⟨by decide, by decide⟩ ?_
      refine WP.getRF (b := 249) rfl rfl rfl ?_
      refine WP.bipush rfl ?_
      refine WP.dup2 rfl (by decide) (by decide) ?_
      refine WP.laload rfl ⟨by decide, by decide, by decide⟩ (by decide) ?_
      refine WP.lconst rfl ?_
      refine WP.laddE rfl o6 ?_
      refine WP.lastore rfl ⟨by decide, by decide, by decide⟩ (by decide) ?_
      show WP 162 (35, [(14, 248), (0, a1)], [], s_X12_write_1 a1 h) Q
      refine WP.aload_n rfl rfl ⟨by decide, by decide⟩ ?_
      refine WP.bipush rfl ?_
      refine WP.callF (c_X12_at 14 (s_X12_write_1 a1 h) o7) rfl rfl (pm_cok rfl rfl (Or.inr ⟨_, _, rfl⟩) rfl rfl) rfl rfl ?_
      show WP 162 (38, [(14, 248), (0, a1)], [(0, (s_X12_write_1 a1 h) 249 14)], s_X12_write_1 a1 h) Q
      refine WP.reti rfl ?_; have e := kk; simp only [F_X12_write, H_X12_write, if_pos c1, if_neg (c2)] at e ⊢; exact e
    · refine WP.bipush rfl ?_
      refine WP.reti rfl ?_; have e := kk; simp only [F_X12_write, H_X12_write, if_pos c1, if_pos c2] at e ⊢; exact e
  · refine WP.bipush rfl ?_
    refine WP.reti rfl ?_; have e := kk; simp only [F_X12_write, H_X12_write, if_neg (c1)] at e ⊢; exact e
theorem c_X12_write (a1 : Int) (h : pH) (hp : P_X12_write a1 h) : CP 162 [(14, 248), (0, a1)] h (fun r h1 => r = some (0, F_X12_write a1 h) ∧ h1 = H_X12_write a1 h) := w_X12_write a1 h hp ⟨rfl, rfl⟩
noncomputable def F_X12_erase (h : pH) : Int := F_X12_change 14 0 h
noncomputable def H_X12_erase (h : pH) : pH := H_X12_change 14 0 h
noncomputable def P_X12_erase (h : pH) : Prop := P_X12_change 14 0 h
set_option maxHeartbeats 4000000 in
theorem w_X12_erase (h : pH) {Q : Option pV → pH → Prop} (hp : P_X12_erase h) (kk : Q (some (0, F_X12_erase h)) (H_X12_erase h)) : WP 163 (0, [(14, 248)], [], h) Q := by
  unfold P_X12_erase at hp
  have o1 := hp
  refine WP.aload_n rfl rfl ⟨by decide, by decide⟩ ?_
  refine WP.bipush rfl ?_
  refine WP.lconst rfl ?_
  refine WP.callF (c_X12_change 14 0 h o1) rfl rfl (pm_cok rfl rfl (Or.inr ⟨_, _, rfl⟩) rfl rfl) rfl rfl ?_
  show WP 163 (4, [(14, 248)], [(0, F_X12_change 14 0 h)], H_X12_change 14 0 h) Q
  refine WP.reti rfl ?_; exact kk
theorem c_X12_erase (h : pH) (hp : P_X12_erase h) : CP 163 [(14, 248)] h (fun r h1 => r = some (0, F_X12_erase h) ∧ h1 = H_X12_erase h) := w_X12_erase h hp ⟨rfl, rfl⟩
noncomputable def s_X12_reduce_1 (h : pH) : pH := pm_upd (pm_upd h 248 9 ((h 248 9) - 1)) 248 8 (((pm_upd h 248 9 ((h 248 9) - 1)) 248 8) - 1)
noncomputable def s_X12_reduce_2 (h : pH) : Int := F_X12_worked ((s_X12_reduce_1 h) 256 ((s_X12_reduce_1 h) 248 9)) ((s_X12_reduce_1 h) 255 (((s_X12_reduce_1 h) 248 8) - 1)) ((s_X12_reduce_1 h) 255 ((s_X12_reduce_1 h) 248 8)) (s_X12_reduce_1 h)
noncomputable def s_X12_reduce_3 (h : pH) : pH := pm_upd (s_X12_reduce_1 h) 255 (((s_X12_reduce_1 h) 248 8) - 1) (s_X12_reduce_2 h)
def C_X12_reduce_0 (a1 : Int) (h : pH) : Prop := 0 < h 248 9 ∧ a1 ≤ F_X12_strength (h 256 ((h 248 9) - 1)) h
noncomputable def B_X12_reduce_0 (a1 : Int) (h : pH) : pH := (s_X12_reduce_3 h)
noncomputable def P_X12_reduce_0 (a1 : Int) (h : pH) : Prop := (((0 < h 248 9) → ((fx_i ((h 248 9) - 1)) ∧ (0 ≤ (h 248 9) - 1 ∧ (h 248 9) - 1 < 130)))) ∧ ((0 < h 248 9 ∧ a1 ≤ F_X12_strength (h 256 ((h 248 9) - 1)) h) → ((fx_i ((h 248 9) - 1)) ∧ (0 ≤ (h 248 9) - 1 ∧ (h 248 9) - 1 < 130) ∧ (fx_i (((pm_upd h 248 9 ((h 248 9) - 1)) 248 8) - 1)) ∧ (fx_i (((s_X12_reduce_1 h) 248 8) - 1)) ∧ (0 ≤ (s_X12_reduce_1 h) 248 9 ∧ (s_X12_reduce_1 h) 248 9 < 130) ∧ (0 ≤ ((s_X12_reduce_1 h) 248 8) - 1 ∧ ((s_X12_reduce_1 h) 248 8) - 1 < 130) ∧ (0 ≤ (s_X12_reduce_1 h) 248 8 ∧ (s_X12_reduce_1 h) 248 8 < 130) ∧ (P_X12_worked ((s_X12_reduce_1 h) 256 ((s_X12_reduce_1 h) 248 9)) ((s_X12_reduce_1 h) 255 (((s_X12_reduce_1 h) 248 8) - 1)) ((s_X12_reduce_1 h) 255 ((s_X12_reduce_1 h) 248 8)) (s_X12_reduce_1 h))))
noncomputable def L_X12_reduce_0 (a1 : Int) (h : pH) : pH := fx_wh (σ := pH) (fun s => C_X12_reduce_0 a1 s) (fun s => B_X12_reduce_0 a1 s) h
def O_X12_reduce_0 (a1 : Int) (h : pH) : Prop := fx_ok (σ := pH) (fun s => C_X12_reduce_0 a1 s) (fun s => B_X12_reduce_0 a1 s) (fun s => P_X12_reduce_0 a1 s) h
set_option maxHeartbeats 4000000 in
theorem lp_X12_reduce_0 (a1 : Int) (h : pH) {Q : Option pV → pH → Prop} (hp : O_X12_reduce_0 a1 h) (kk : ∀ us : List pV, WP 166 (51, [(14, 248), (0, a1)], [], (L_X12_reduce_0 a1 h)) Q) : ∀ us : List pV, WP 166 (0, [(14, 248), (0, a1)], [], h) Q := by
  refine WP.wh (σ := pH) (fun s => C_X12_reduce_0 a1 s) (fun s => B_X12_reduce_0 a1 s) (fun s => P_X12_reduce_0 a1 s) (fun s us => (0, [(14, 248), (0, a1)], [], s)) h hp ?_ ?_
  · intro h us hP hc kk
    change P_X12_reduce_0 a1 h at hP
    change 0 < h 248 9 ∧ a1 ≤ F_X12_strength (h 256 ((h 248 9) - 1)) h at hc
    replace kk : ∀ (us' : List pV) (s' : pH), s' = B_X12_reduce_0 a1 h → WP 166 (0, [(14, 248), (0, a1)], [], s') Q := fun us' s' e => by subst e; exact kk us'
    unfold P_X12_reduce_0 at hP
    obtain ⟨hPc, hPb⟩ := hP
    have q5 := hPc
    obtain ⟨o7, o8, o10, o11, o12, o13, o14, o15⟩ := hPb hc
    show WP 166 (0, [(14, 248), (0, a1)], [], h) Q
    refine WP.aload_n rfl rfl ⟨by decide, by decide⟩ ?_
    refine WP.getI rfl rfl ?_
    refine WP.nz_le rfl (fun c6 => ?_) (fun c6 => ?_)
    · exact absurd hc (fun q => (Int.not_lt.mpr c6) q.1)
    · refine WP.aload_n rfl rfl ⟨by decide, by decide⟩ ?_
      refine WP.getRF (b := 256) rfl rfl rfl ?_
      refine WP.aload_n rfl rfl ⟨by decide, by decide⟩ ?_
      refine WP.getI rfl rfl ?_
      refine WP.iconst rfl ?_
      refine WP.isubE rfl o7 ?_
      refine WP.iaload rfl ⟨by decide, by decide, by decide⟩ o8 ?_
      refine WP.callF (c_X12_strength (h 256 ((h 248 9) - 1)) h) rfl rfl (pm_cok rfl rfl (Or.inl rfl) rfl rfl) rfl rfl ?_
      show WP 166 (11, [(14, 248), (0, a1)], [(0, F_X12_strength (h 256 ((h 248 9) - 1)) h)], h) Q
      refine WP.iload_n rfl rfl ?_
      refine WP.ni_lt rfl (fun c9 => ?_) (fun c9 => ?_)
      · exact absurd hc (fun q => (Int.not_le.mpr c9) q.2)
      · refine WP.aload_n rfl rfl ⟨by decide, by decide⟩ ?_
        refine WP.dup rfl (by decide) ?_
        refine WP.getI rfl rfl ?_
        refine WP.iconst rfl ?_
        refine WP.isubE rfl o7 ?_
        refine WP.putI rfl rfl ?_
        refine WP.aload_n rfl rfl ⟨by decide, by decide⟩ ?_
        refine WP.dup rfl (by decide) ?_
        refine WP.getI rfl rfl ?_
        refine WP.iconst rfl ?_
        refine WP.isubE rfl o10 ?_
        refine WP.putI rfl rfl ?_
        show WP 166 (25, [(14, 248), (0, a1)], [], s_X12_reduce_1 h) Q
        refine WP.aload_n rfl rfl ⟨by decide, by decide⟩ ?_
        refine WP.getRF (b := 255) rfl rfl rfl ?_
        refine WP.aload_n rfl rfl ⟨by decide, by decide⟩ ?_
        refine WP.getI rfl rfl ?_
        refine WP.iconst rfl ?_
        refine WP.isubE rfl o11 ?_
        refine WP.aload_n rfl rfl ⟨by decide, by decide⟩ ?_
        refine WP.getRF (b := 256) rfl rfl rfl ?_
        refine WP.aload_n rfl rfl ⟨by decide, by decide⟩ ?_
        refine WP.getI rfl rfl ?_
        refine WP.iaload rfl ⟨by decide, by decide, by decide⟩ o12 ?_
        refine WP.aload_n rfl rfl ⟨by decide, by decide⟩ ?_
        refine WP.getRF (b := 255) rfl rfl rfl ?_
        refine WP.aload_n rfl rfl ⟨by decide, by decide⟩ ?_
        refine WP.getI rfl rfl ?_
        refine WP.iconst rfl ?_
        refine WP.isubE rfl o11 ?_
        refine WP.laload rfl ⟨by decide, by decide, by decide⟩ o13 ?_
        refine WP.aload_n rfl rfl ⟨by decide, by decide⟩ ?_
        refine WP.getRF (b := 255) rfl rfl rfl ?_
        refine WP.aload_n rfl rfl ⟨by decide, by decide⟩ ?_
        refine WP.getI rfl rfl ?_
        refine WP.laload rfl ⟨by decide, by decide, by decide⟩ o14 ?_
        refine WP.callF (c_X12_worked ((s_X12_reduce_1 h) 256 ((s_X12_reduce_1 h) 248 9)) ((s_X12_reduce_1 h) 255 (((s_X12_reduce_1 h) 248 8) - 1)) ((s_X12_reduce_1 h) 255 ((s_X12_reduce_1 h) 248 8)) (s_X12_reduce_1 h) o15) rfl rfl (pm_cok rfl rfl (Or.inl rfl) rfl rfl) rfl rfl ?_
        show WP 166 (49, [(14, 248), (0, a1)], [(1, s_X12_reduce_2 h), (0, ((s_X12_reduce_1 h) 248 8) - 1), (1521, 255)], s_X12_reduce_1 h) Q
        refine WP.lastore rfl ⟨by decide, by decide, by decide⟩ o13 ?_
        show WP 166 (50, [(14, 248), (0, a1)], [], s_X12_reduce_3 h) Q
        refine WP.goto rfl ?_
        exact kk [] (s_X12_reduce_3 h) (rfl)
  · intro hP hc
    generalize hs : (L_X12_reduce_0 a1 h : pH) = s at kk
    change P_X12_reduce_0 a1 (L_X12_reduce_0 a1 h) at hP
    change ¬ C_X12_reduce_0 a1 (L_X12_reduce_0 a1 h) at hc
    intro us
    show WP 166 (0, [(14, 248), (0, a1)], [], (L_X12_reduce_0 a1 h)) Q
    rw [hs] at hP hc ⊢
    revert hs kk hP hc; revert s; intro h hs kk hP hc
    change P_X12_reduce_0 a1 h at hP
    change ¬ (0 < h 248 9 ∧ a1 ≤ F_X12_strength (h 256 ((h 248 9) - 1)) h) at hc
    unfold P_X12_reduce_0 at hP
    have q5 := hP.1
    show WP 166 (0, [(14, 248), (0, a1)], [], h) Q
    refine WP.aload_n rfl rfl ⟨by decide, by decide⟩ ?_
    refine WP.getI rfl rfl ?_
    refine WP.nz_le rfl (fun c1 => ?_) (fun c1 => ?_)
    · exact kk []
    · obtain ⟨o2, o3⟩ := q5 c1
      refine WP.aload_n rfl rfl ⟨by decide, by decide⟩ ?_
      refine WP.getRF (b := 256) rfl rfl rfl ?_
      refine WP.aload_n rfl rfl ⟨by decide, by decide⟩ ?_
      refine WP.getI rfl rfl ?_
      refine WP.iconst rfl ?_
      refine WP.isubE rfl o2 ?_
      refine WP.iaload rfl ⟨by decide, by decide, by decide⟩ o3 ?_
      refine WP.callF (c_X12_strength (h 256 ((h 248 9) - 1)) h) rfl rfl (pm_cok rfl rfl (Or.inl rfl) rfl rfl) rfl rfl ?_
      show WP 166 (11, [(14, 248), (0, a1)], [(0, F_X12_strength (h 256 ((h 248 9) - 1)) h)], h) Q
      refine WP.iload_n rfl rfl ?_
      refine WP.ni_lt rfl (fun c4 => ?_) (fun c4 => ?_)
      · exact kk []
      · exact absurd (show 0 < h 248 9 ∧ a1 ≤ F_X12_strength (h 256 ((h 248 9) - 1)) h from ⟨c1, c4⟩) hc
noncomputable def H_X12_reduce (a1 : Int) (h : pH) : pH := L_X12_reduce_0 a1 h
noncomputable def P_X12_reduce (a1 : Int) (h : pH) : Prop := O_X12_reduce_0 a1 h
set_option maxHeartbeats 4000000 in
theorem w_X12_reduce (a1 : Int) (h : pH) {Q : Option pV → pH → Prop} (hp : P_X12_reduce a1 h) (kk : Q (none) (H_X12_reduce a1 h)) : WP 166 (0, [(14, 248), (0, a1)], [], h) Q := by
  unfold P_X12_reduce at hp
  have o16 := hp
  refine lp_X12_reduce_0 a1 h o16 (fun us17 => ?_) []
  show WP 166 (51, [(14, 248), (0, a1)], [], L_X12_reduce_0 a1 h) Q
  refine WP.retv rfl ?_; exact kk
theorem c_X12_reduce (a1 : Int) (h : pH) (hp : P_X12_reduce a1 h) : CP 166 [(14, 248), (0, a1)] h (fun r h1 => r = none ∧ h1 = H_X12_reduce a1 h) := w_X12_reduce a1 h hp ⟨rfl, rfl⟩
