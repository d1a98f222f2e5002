noncomputable def s_X12_worked_1 (a1 : Int) (a2 : Int) : Int := if a1 = 0 then 0 else if a2 = 0 then 0 else 1
noncomputable def s_X12_worked_2 (a1 : Int) (a2 : Int) : Int := if a2 ≤ a1 then 0 else 1
noncomputable def s_X12_worked_3 (a1 : Int) (a2 : Int) : Int := if a1 = a2 then 1 else 0
noncomputable def s_X12_worked_4 (a1 : Int) (a2 : Int) : Int := if a1 ≤ a2 then 0 else 1
noncomputable def s_X12_worked_5 (a1 : Int) (a2 : Int) : Int := if a1 = 0 then if a2 = 0 then 0 else 1 else 1
noncomputable def s_X12_worked_6 (a1 : Int) (a2 : Int) : Int := if a2 = 0 then 0 else pm_wl (Int.tdiv a1 a2)
noncomputable def F_X12_worked (a0 : Int) (a1 : Int) (a2 : Int) (h : pH) : Int := if a0 = 38 then s_X12_worked_1 a1 a2 else if a0 = 42 then pm_wl (a1 * a2) else if a0 = 43 then pm_wl (a1 + a2) else if a0 = 45 then pm_wl (a1 - a2) else if a0 = 60 then s_X12_worked_2 a1 a2 else if a0 = 61 then s_X12_worked_3 a1 a2 else if a0 = 62 then s_X12_worked_4 a1 a2 else if a0 = 124 then s_X12_worked_5 a1 a2 else s_X12_worked_6 a1 a2
noncomputable def P_X12_worked (a0 : Int) (a1 : Int) (a2 : Int) (h : pH) : Prop := ((¬ a0 = 38) → (((¬ a0 = 42) → (((¬ a0 = 43) → (((¬ a0 = 45) → (((¬ a0 = 60) → (((¬ a0 = 61) → (((¬ a0 = 62) → (((¬ a0 = 124) → ((((¬ a2 = 0) → ((a2 ≠ 0))))))))))))))))))))
set_option maxHeartbeats 4000000 in
theorem w_X12_worked (a0 : Int) (a1 : Int) (a2 : Int) (h : pH) {Q : Option pV → pH → Prop} (hp : P_X12_worked a0 a1 a2 h) (kk : Q (some (1, F_X12_worked a0 a1 a2 h)) (h)) : WP 165 (0, [(0, a0), (1, a1), pU, (1, a2), pU], [], h) Q := by
  unfold P_X12_worked at hp
  have q39 := hp
  refine WP.iload_n rfl rfl ?_
  refine WP.lsw rfl ?_
  show WP 165 (pm_look [(38, 14), (42, 58), (43, 50), (45, 54), (60, 26), (61, 42), (62, 34), (124, 2)] 62 a0, [(0, a0), (1, a1), pU, (1, a2), pU], [], h) Q
  refine WP.lk (fun (c1 : a0 = 38) => ?_) (fun (c1 : ¬ a0 = 38) => ?_)
  · show WP 165 (14, [(0, a0), (1, a1), pU, (1, a2), pU], [], h) Q
    refine WP.lload_n rfl rfl ?_
    refine WP.lconst rfl ?_
    refine WP.lcmp rfl ?_
    have k2 : ∀ Q' : Option pV → pH → Prop, (WP 165 (25, [(0, a0), (1, a1), pU, (1, a2), pU], [(1, s_X12_worked_1 a1 a2)], h) Q') → WP 165 (17, [(0, a0), (1, a1), pU, (1, a2), pU], [(0, pm_lcmp a1 0)], h) Q' := fun Q' kk => by
      refine WP.nl_eq rfl (fun c3 => ?_) (fun c3 => ?_)
      · refine WP.lconst rfl ?_
        have e := kk; simp only [s_X12_worked_1, if_pos c3] at e ⊢; exact e
      · refine WP.lload_n rfl rfl ?_
        refine WP.lconst rfl ?_
        refine WP.lcmp rfl ?_
        refine WP.nl_eq rfl (fun c4 => ?_) (fun c4 => ?_)
        · refine WP.lconst rfl ?_
          have e := kk; simp only [s_X12_worked_1, if_neg (c3), if_pos c4] at e ⊢; exact e
        · refine WP.lconst rfl ?_
          refine WP.goto rfl ?_
          have e := kk; simp only [s_X12_worked_1, if_neg (c3), if_neg (c4)] at e ⊢; exact e
    refine k2 _ ?_
    refine WP.retl rfl ?_; have e := kk; simp only [F_X12_worked, if_pos c1] at e ⊢; exact e
  · have q38 := q39 c1
    refine WP.lk (fun (c6 : a0 = 42) => ?_) (fun (c6 : ¬ a0 = 42) => ?_)
    · show WP 165 (58, [(0, a0), (1, a1), pU, (1, a2), pU], [], h) Q
      refine WP.lload_n rfl rfl ?_
      refine WP.lload_n rfl rfl ?_
      refine WP.lmul rfl ?_
      refine WP.retl rfl ?_; have e := kk; simp only [F_X12_worked, if_neg (c1), if_pos c6] at e ⊢; exact e
    · have q37 := q38 c6
      refine WP.lk (fun (c7 : a0 = 43) => ?_) (fun (c7 : ¬ a0 = 43) => ?_)
      · show WP 165 (50, [(0, a0), (1, a1), pU, (1, a2), pU], [], h) Q
        refine WP.lload_n rfl rfl ?_
        refine WP.lload_n rfl rfl ?_
        refine WP.ladd rfl ?_
        refine WP.retl rfl ?_; have e := kk; simp only [F_X12_worked, if_neg (c1), if_neg (c6), if_pos c7] at e ⊢; exact e
      · have q36 := q37 c7
        refine WP.lk (fun (c8 : a0 = 45) => ?_) (fun (c8 : ¬ a0 = 45) => ?_)
        · show WP 165 (54, [(0, a0), (1, a1), pU, (1, a2), pU], [], h) Q
          refine WP.lload_n rfl rfl ?_
          refine WP.lload_n rfl rfl ?_
          refine WP.lsub rfl ?_
          refine WP.retl rfl ?_; have e := kk; simp only [F_X12_worked, if_neg (c1), if_neg (c6), if_neg (c7), if_pos c8] at e ⊢; exact e
        · have q35 := q36 c8
          refine WP.lk (fun (c9 : a0 = 60) => ?_) (fun (c9 : ¬ a0 = 60) => ?_)
          · show WP 165 (26, [(0, a0), (1, a1), pU, (1, a2), pU], [], h) Q
            refine WP.lload_n rfl rfl ?_
            refine WP.lload_n rfl rfl ?_
            refine WP.lcmp rfl ?_
            have k10 : ∀ Q' : Option pV → pH → Prop, (WP 165 (33, [(0, a0), (1, a1), pU, (1, a2), pU], [(1, s_X12_worked_2 a1 a2)], h) Q') → WP 165 (29, [(0, a0), (1, a1), pU, (1, a2), pU], [(0, pm_lcmp a1 a2)], h) Q' := fun Q' kk => by
              refine WP.nl_ge rfl (fun c11 => ?_) (fun c11 => ?_)
              · refine WP.lconst rfl ?_
                have e := kk; simp only [s_X12_worked_2, if_pos c11] at e ⊢; exact e
              · refine WP.lconst rfl ?_
                refine WP.goto rfl ?_
                have e := kk; simp only [s_X12_worked_2, if_neg (Int.not_le.mpr c11)] at e ⊢; exact e
            refine k10 _ ?_
            refine WP.retl rfl ?_; have e := kk; simp only [F_X12_worked, if_neg (c1), if_neg (c6), if_neg (c7), if_neg (c8), if_pos c9] at e ⊢; exact e
          · have q34 := q35 c9
            refine WP.lk (fun (c13 : a0 = 61) => ?_) (fun (c13 : ¬ a0 = 61) => ?_)
            · show WP 165 (42, [(0, a0), (1, a1), pU, (1, a2), pU], [], h) Q
              refine WP.lload_n rfl rfl ?_
              refine WP.lload_n rfl rfl ?_
              refine WP.lcmp rfl ?_
              have k14 : ∀ Q' : Option pV → pH → Prop, (WP 165 (49, [(0, a0), (1, a1), pU, (1, a2), pU], [(1, s_X12_worked_3 a1 a2)], h) Q') → WP 165 (45, [(0, a0), (1, a1), pU, (1, a2), pU], [(0, pm_lcmp a1 a2)], h) Q' := fun Q' kk => by
                refine WP.nl_ne rfl (fun c15 => ?_) (fun c15 => ?_)
                · refine WP.lconst rfl ?_
                  have e := kk; simp only [s_X12_worked_3, if_neg (c15)] at e ⊢; exact e
                · refine WP.lconst rfl ?_
                  refine WP.goto rfl ?_
                  have e := kk; simp only [s_X12_worked_3, if_pos c15] at e ⊢; exact e
              refine k14 _ ?_
              refine WP.retl rfl ?_; have e := kk; simp only [F_X12_worked, if_neg (c1), if_neg (c6), if_neg (c7), if_neg (c8), if_neg (c9), if_pos c13] at e ⊢; exact e
            · have q33 := q34 c13
              refine WP.lk (fun (c17 : a0 = 62) => ?_) (fun (c17 : ¬ a0 = 62) => ?_)
              · show WP 165 (34, [(0, a0), (1, a1), pU, (1, a2), pU], [], h) Q
                refine WP.lload_n rfl rfl ?_
                refine WP.lload_n rfl rfl ?_
                refine WP.lcmp rfl ?_
                have k18 : ∀ Q' : Option pV → pH → Prop, (WP 165 (41, [(0, a0), (1, a1), pU, (1, a2), pU], [(1, s_X12_worked_4 a1 a2)], h) Q') → WP 165 (37, [(0, a0), (1, a1), pU, (1, a2), pU], [(0, pm_lcmp a1 a2)], h) Q' := fun Q' kk => by
                  refine WP.nl_le rfl (fun c19 => ?_) (fun c19 => ?_)
                  · refine WP.lconst rfl ?_
                    have e := kk; simp only [s_X12_worked_4, if_pos c19] at e ⊢; exact e
                  · refine WP.lconst rfl ?_
                    refine WP.goto rfl ?_
                    have e := kk; simp only [s_X12_worked_4, if_neg (Int.not_le.mpr c19)] at e ⊢; exact e
                refine k18 _ ?_
                refine WP.retl rfl ?_; have e := kk; simp only [F_X12_worked, if_neg (c1), if_neg (c6), if_neg (c7), if_neg (c8), if_neg (c9), if_neg (c13), if_pos c17] at e ⊢; exact e
              · have q32 := q33 c17
                refine WP.lk (fun (c21 : a0 = 124) => ?_) (fun (c21 : ¬ a0 = 124) => ?_)
                · show WP 165 (2, [(0, a0), (1, a1), pU, (1, a2), pU], [], h) Q
                  refine WP.lload_n rfl rfl ?_
                  refine WP.lconst rfl ?_
                  refine WP.lcmp rfl ?_
                  have k22 : ∀ Q' : Option pV → pH → Prop, (WP 165 (13, [(0, a0), (1, a1), pU, (1, a2), pU], [(1, s_X12_worked_5 a1 a2)], h) Q') → WP 165 (5, [(0, a0), (1, a1), pU, (1, a2), pU], [(0, pm_lcmp a1 0)], h) Q' := fun Q' kk => by
                    refine WP.nl_ne rfl (fun c23 => ?_) (fun c23 => ?_)
                    · refine WP.lconst rfl ?_
                      refine WP.goto rfl ?_
                      have e := kk; simp only [s_X12_worked_5, if_neg (c23)] at e ⊢; exact e
                    · refine WP.lload_n rfl rfl ?_
                      refine WP.lconst rfl ?_
                      refine WP.lcmp rfl ?_
                      refine WP.nl_eq rfl (fun c24 => ?_) (fun c24 => ?_)
                      · refine WP.lconst rfl ?_
                        have e := kk; simp only [s_X12_worked_5, if_pos c23, if_pos c24] at e ⊢; exact e
                      · refine WP.lconst rfl ?_
                        refine WP.goto rfl ?_
                        have e := kk; simp only [s_X12_worked_5, if_pos c23, if_neg (c24)] at e ⊢; exact e
                  refine k22 _ ?_
                  refine WP.retl rfl ?_; have e := kk; simp only [F_X12_worked, if_neg (c1), if_neg (c6), if_neg (c7), if_neg (c8), if_neg (c9), if_neg (c13), if_neg (c17), if_pos c21] at e ⊢; exact e
                · have q31 := q32 c21
                  show WP 165 (62, [(0, a0), (1, a1), pU, (1, a2), pU], [], h) Q
                  refine WP.lload_n rfl rfl ?_
                  refine WP.lconst rfl ?_
                  refine WP.lcmp rfl ?_
                  have k26 : ∀ Q' : Option pV → pH → Prop, (WP 165 (71, [(0, a0), (1, a1), pU, (1, a2), pU], [(1, s_X12_worked_6 a1 a2)], h) Q') → WP 165 (65, [(0, a0), (1, a1), pU, (1, a2), pU], [(0, pm_lcmp a2 0)], h) Q' := fun Q' kk => by
                    have q29 := q31
                    refine WP.nl_ne rfl (fun c27 => ?_) (fun c27 => ?_)
                    · have o28 := q29 c27
                      refine WP.lload_n rfl rfl ?_
                      refine WP.lload_n rfl rfl ?_
                      refine WP.ldiv rfl o28 ?_
                      have e := kk; simp only [s_X12_worked_6, if_neg (c27)] at e ⊢; exact e
                    · refine WP.lconst rfl ?_
                      refine WP.goto rfl ?_
                      have e := kk; simp only [s_X12_worked_6, if_pos c27] at e ⊢; exact e
                  refine k26 _ ?_
                  refine WP.retl rfl ?_; have e := kk; simp only [F_X12_worked, if_neg (c1), if_neg (c6), if_neg (c7), if_neg (c8), if_neg (c9), if_neg (c13), if_neg (c17), if_neg (c21)] at e ⊢; exact e
theorem c_X12_worked (a0 : Int) (a1 : Int) (a2 : Int) (h : pH) (hp : P_X12_worked a0 a1 a2 h) : CP 165 [(0, a0), (1, a1), (1, a2)] h (fun r h1 => r = some (1, F_X12_worked a0 a1 a2 h) ∧ h1 = h) := w_X12_worked a0 a1 a2 h hp ⟨rfl, rfl⟩
noncomputable def s_X12_put_1 (x3 : Int) (h : pH) : Int := if (pm_upd h 248 9 ((h 248 9) - 1)) 256 ((pm_upd h 248 9 ((h 248 9) - 1)) 248 9) = 7 then pm_wl (-x3) else if x3 = 0 then 1 else 0
def C_X12_put_2 (x3 : Int) (h : pH) : Prop := 0 < h 248 9 ∧ (h 256 ((h 248 9) - 1) = 6 ∨ h 256 ((h 248 9) - 1) = 7)
noncomputable def B_X12_put_2 (x3 : Int) (h : pH) : Int × pH := (s_X12_put_1 x3 h, pm_upd h 248 9 ((h 248 9) - 1))
noncomputable def P_X12_put_2 (x3 : Int) (h : pH) : Prop := (((0 < h 248 9) → ((fx_i ((h 248 9) - 1)) ∧ (0 ≤ (h 248 9) - 1 ∧ (h 248 9) - 1 < 130)))) ∧ ((0 < h 248 9 ∧ (h 256 ((h 248 9) - 1) = 6 ∨ h 256 ((h 248 9) - 1) = 7)) → ((fx_i ((h 248 9) - 1)) ∧ (0 ≤ (h 248 9) - 1 ∧ (h 248 9) - 1 < 130) ∧ (((h 256 ((h 248 9) - 1) = 6) → ((0 ≤ (pm_upd h 248 9 ((h 248 9) - 1)) 248 9 ∧ (pm_upd h 248 9 ((h 248 9) - 1)) 248 9 < 130))) ∧ ((¬ h 256 ((h 248 9) - 1) = 6) → ((0 ≤ (pm_upd h 248 9 ((h 248 9) - 1)) 248 9 ∧ (pm_upd h 248 9 ((h 248 9) - 1)) 248 9 < 130))))))
noncomputable def L_X12_put_2 (x3 : Int) (h : pH) : Int × pH := fx_wh (σ := Int × pH) (fun s => C_X12_put_2 s.1 s.2) (fun s => B_X12_put_2 s.1 s.2) (x3, h)
def O_X12_put_2 (x3 : Int) (h : pH) : Prop := fx_ok (σ := Int × pH) (fun s => C_X12_put_2 s.1 s.2) (fun s => B_X12_put_2 s.1 s.2) (fun s => P_X12_put_2 s.1 s.2) (x3, h)
set_option maxHeartbeats 4000000 in
theorem lp_X12_put_2 (x3 : Int) (h : pH) {Q : Option pV → pH → Prop} (hp : O_X12_put_2 x3 h) (kk : ∀ us : List pV, WP 167 (48, [(14, 248), us.getD 0 pU, us.getD 1 pU, (1, (L_X12_put_2 x3 h).1), pU], [], (L_X12_put_2 x3 h).2) Q) : ∀ us : List pV, WP 167 (2, [(14, 248), us.getD 0 pU, us.getD 1 pU, (1, x3), pU], [], h) Q := by
  refine WP.wh (σ := Int × pH) (fun s => C_X12_put_2 s.1 s.2) (fun s => B_X12_put_2 s.1 s.2) (fun s => P_X12_put_2 s.1 s.2) (fun s us => (2, [(14, 248), us.getD 0 pU, us.getD 1 pU, (1, s.1), pU], [], s.2)) (x3, h) hp ?_ ?_
  · intro s us hP hc kk
    obtain ⟨x3, h⟩ := s
    change P_X12_put_2 x3 h at hP
    change 0 < h 248 9 ∧ (h 256 ((h 248 9) - 1) = 6 ∨ h 256 ((h 248 9) - 1) = 7) at hc
    replace kk : ∀ (us' : List pV) (s' : Int × pH), s' = B_X12_put_2 x3 h → WP 167 (2, [(14, 248), us'.getD 0 pU, us'.getD 1 pU, (1, s'.1), pU], [], s'.2) Q := fun us' s' e => by subst e; exact kk us'
    unfold P_X12_put_2 at hP
    obtain ⟨hPc, hPb⟩ := hP
    have q6 := hPc
    obtain ⟨o8, o9, q22⟩ := hPb hc
    show WP 167 (2, [(14, 248), us.getD 0 pU, us.getD 1 pU, (1, x3), pU], [], h) Q
    refine WP.aload_n rfl rfl ⟨by decide, by decide⟩ ?_
    refine WP.getI rfl rfl ?_
    refine WP.nz_le rfl (fun c7 => ?_) (fun c7 => ?_)
    · exact absurd hc (fun q => (Int.not_lt.mpr c7) q.1)
    · refine WP.aload_n rfl rfl ⟨by decide, by decide⟩ ?_
      refine WP.getRF (b := 256) rfl rfl rfl ?_
      refine WP.aload_n rfl rfl ⟨by decide, by decide⟩ ?_
      refine WP.getI rfl rfl ?_
      refine WP.iconst rfl ?_
      refine WP.isubE rfl o8 ?_
      refine WP.iaload rfl ⟨by decide, by decide, by decide⟩ o9 ?_
      refine WP.bipush rfl ?_
      refine WP.ni_eq rfl (fun c10 => ?_) (fun c10 => ?_)
      · have o11 := q22.1 c10
        refine WP.aload_n rfl rfl ⟨by decide, by decide⟩ ?_
        refine WP.dup rfl (by decide) ?_
        refine WP.getI rfl rfl ?_
        refine WP.iconst rfl ?_
        refine WP.isubE rfl o8 ?_
        refine WP.putI rfl rfl ?_
        refine WP.aload_n rfl rfl ⟨by decide, by decide⟩ ?_
        refine WP.getRF (b := 256) rfl rfl rfl ?_
        refine WP.aload_n rfl rfl ⟨by decide, by decide⟩ ?_
        refine WP.getI rfl rfl ?_
        refine WP.iaload rfl ⟨by decide, by decide, by decide⟩ o11 ?_
        refine WP.bipush rfl ?_
        have k12 : ∀ Q' : Option pV → pH → Prop, (WP 167 (46, [(14, 248), us.getD 0 pU, us.getD 1 pU, (1, x3), pU], [(1, s_X12_put_1 x3 h)], pm_upd h 248 9 ((h 248 9) - 1)) Q') → WP 167 (35, [(14, 248), us.getD 0 pU, us.getD 1 pU, (1, x3), pU], [(0, 7), (0, (pm_upd h 248 9 ((h 248 9) - 1)) 256 ((pm_upd h 248 9 ((h 248 9) - 1)) 248 9))], pm_upd h 248 9 ((h 248 9) - 1)) Q' := fun Q' kk => by
          refine WP.ni_ne rfl (fun c13 => ?_) (fun c13 => ?_)
          · refine WP.lload_n rfl rfl ?_
            refine WP.lconst rfl ?_
            refine WP.lcmp rfl ?_
            refine WP.nl_ne rfl (fun c14 => ?_) (fun c14 => ?_)
            · refine WP.lconst rfl ?_
              have e := kk; simp only [s_X12_put_1, if_neg (c13), if_neg (c14)] at e ⊢; exact e
            · refine WP.lconst rfl ?_
              refine WP.goto rfl ?_
              have e := kk; simp only [s_X12_put_1, if_neg (c13), if_pos c14] at e ⊢; exact e
          · refine WP.lload_n rfl rfl ?_
            refine WP.lneg rfl ?_
            refine WP.goto rfl ?_
            have e := kk; simp only [s_X12_put_1, if_pos c13] at e ⊢; exact e
        refine k12 _ ?_
        refine WP.lstore_n (L' := [(14, 248), us.getD 0 pU, if (us.getD 1 pU).1 = 1 then pU else us.getD 1 pU, (1, s_X12_put_1 x3 h), pU]) rfl rfl ?_
        refine WP.goto rfl ?_
        exact kk [us.getD 0 pU, if (us.getD 1 pU).1 = 1 then pU else us.getD 1 pU] (s_X12_put_1 x3 h, pm_upd h 248 9 ((h 248 9) - 1)) (by simp only [B_X12_put_2, if_pos c10])
      · have o17 := q22.2 c10
        refine WP.aload_n rfl rfl ⟨by decide, by decide⟩ ?_
        refine WP.getRF (b := 256) rfl rfl rfl ?_
        refine WP.aload_n rfl rfl ⟨by decide, by decide⟩ ?_
        refine WP.getI rfl rfl ?_
        refine WP.iconst rfl ?_
        refine WP.isubE rfl o8 ?_
        refine WP.iaload rfl ⟨by decide, by decide, by decide⟩ o9 ?_
        refine WP.bipush rfl ?_
        refine WP.ni_ne rfl (fun c16 => ?_) (fun c16 => ?_)
        · exact absurd hc (fun q => (fun q => q.elim (c10) (c16)) q.2)
        · refine WP.aload_n rfl rfl ⟨by decide, by decide⟩ ?_
          refine WP.dup rfl (by decide) ?_
          refine WP.getI rfl rfl ?_
          refine WP.iconst rfl ?_
          refine WP.isubE rfl o8 ?_
          refine WP.putI rfl rfl ?_
          refine WP.aload_n rfl rfl ⟨by decide, by decide⟩ ?_
          refine WP.getRF (b := 256) rfl rfl rfl ?_
          refine WP.aload_n rfl rfl ⟨by decide, by decide⟩ ?_
          refine WP.getI rfl rfl ?_
          refine WP.iaload rfl ⟨by decide, by decide, by decide⟩ o17 ?_
          refine WP.bipush rfl ?_
          have k18 : ∀ Q' : Option pV → pH → Prop, (WP 167 (46, [(14, 248), us.getD 0 pU, us.getD 1 pU, (1, x3), pU], [(1, s_X12_put_1 x3 h)], pm_upd h 248 9 ((h 248 9) - 1)) Q') → WP 167 (35, [(14, 248), us.getD 0 pU, us.getD 1 pU, (1, x3), pU], [(0, 7), (0, (pm_upd h 248 9 ((h 248 9) - 1)) 256 ((pm_upd h 248 9 ((h 248 9) - 1)) 248 9))], pm_upd h 248 9 ((h 248 9) - 1)) Q' := fun Q' kk => by
            refine WP.ni_ne rfl (fun c19 => ?_) (fun c19 => ?_)
            · refine WP.lload_n rfl rfl ?_
              refine WP.lconst rfl ?_
              refine WP.lcmp rfl ?_
              refine WP.nl_ne rfl (fun c20 => ?_) (fun c20 => ?_)
              · refine WP.lconst rfl ?_
                have e := kk; simp only [s_X12_put_1, if_neg (c19), if_neg (c20)] at e ⊢; exact e
              · refine WP.lconst rfl ?_
                refine WP.goto rfl ?_
                have e := kk; simp only [s_X12_put_1, if_neg (c19), if_pos c20] at e ⊢; exact e
            · refine WP.lload_n rfl rfl ?_
              refine WP.lneg rfl ?_
              refine WP.goto rfl ?_
              have e := kk; simp only [s_X12_put_1, if_pos c19] at e ⊢; exact e
          refine k18 _ ?_
          refine WP.lstore_n (L' := [(14, 248), us.getD 0 pU, if (us.getD 1 pU).1 = 1 then pU else us.getD 1 pU, (1, s_X12_put_1 x3 h), pU]) rfl rfl ?_
          refine WP.goto rfl ?_
          exact kk [us.getD 0 pU, if (us.getD 1 pU).1 = 1 then pU else us.getD 1 pU] (s_X12_put_1 x3 h, pm_upd h 248 9 ((h 248 9) - 1)) (by simp only [B_X12_put_2, if_neg (c10)])
  · intro hP hc
    generalize hs : (L_X12_put_2 x3 h : Int × pH) = s at kk
    change P_X12_put_2 (L_X12_put_2 x3 h).1 (L_X12_put_2 x3 h).2 at hP
    change ¬ C_X12_put_2 (L_X12_put_2 x3 h).1 (L_X12_put_2 x3 h).2 at hc
    intro us
    show WP 167 (2, [(14, 248), us.getD 0 pU, us.getD 1 pU, (1, (L_X12_put_2 x3 h).1), pU], [], (L_X12_put_2 x3 h).2) Q
    rw [hs] at hP hc ⊢
    obtain ⟨x3, h⟩ := s
    change P_X12_put_2 x3 h at hP
    change ¬ (0 < h 248 9 ∧ (h 256 ((h 248 9) - 1) = 6 ∨ h 256 ((h 248 9) - 1) = 7)) at hc
    unfold P_X12_put_2 at hP
    have q6 := hP.1
    show WP 167 (2, [(14, 248), us.getD 0 pU, us.getD 1 pU, (1, x3), pU], [], h) Q
    refine WP.aload_n rfl rfl ⟨by decide, by decide⟩ ?_
    refine WP.getI rfl rfl ?_
    refine WP.nz_le rfl (fun c1 => ?_) (fun c1 => ?_)
    · exact kk [us.getD 0 pU, us.getD 1 pU]
    · obtain ⟨o2, o3⟩ := q6 c1
      refine WP.aload_n rfl rfl ⟨by decide, by decide⟩ ?_
      refine WP.getRF (b := 256) rfl rfl rfl ?_
      refine WP.aload_n rfl rfl ⟨by decide, by decide⟩ ?_
      refine WP.getI rfl rfl ?_
      refine WP.iconst rfl ?_
      refine WP.isubE rfl o2 ?_
      refine WP.iaload rfl ⟨by decide, by decide, by decide⟩ o3 ?_
      refine WP.bipush rfl ?_
      refine WP.ni_eq rfl (fun c4 => ?_) (fun c4 => ?_)
      · exact absurd (show 0 < h 248 9 ∧ (h 256 ((h 248 9) - 1) = 6 ∨ h 256 ((h 248 9) - 1) = 7) from ⟨c1, Or.inl c4⟩) hc
      · refine WP.aload_n rfl rfl ⟨by decide, by decide⟩ ?_
        refine WP.getRF (b := 256) rfl rfl rfl ?_
        refine WP.aload_n rfl rfl ⟨by decide, by decide⟩ ?_
        refine WP.getI rfl rfl ?_
        refine WP.iconst rfl ?_
        refine WP.isubE rfl o2 ?_
        refine WP.iaload rfl ⟨by decide, by decide, by decide⟩ o3 ?_
        refine WP.bipush rfl ?_
        refine WP.ni_ne rfl (fun c5 => ?_) (fun c5 => ?_)
        · exact kk [us.getD 0 pU, us.getD 1 pU]
        · exact absurd (show 0 < h 248 9 ∧ (h 256 ((h 248 9) - 1) = 6 ∨ h 256 ((h 248 9) - 1) = 7) from ⟨c1, Or.inr c5⟩) hc
noncomputable def s_X12_put_2 (a1 : Int) (h : pH) : pH := pm_upd ((L_X12_put_2 a1 h).2) 255 (((L_X12_put_2 a1 h).2) 248 8) ((L_X12_put_2 a1 h).1)
noncomputable def s_X12_put_3 (a1 : Int) (h : pH) : pH := pm_upd (s_X12_put_2 a1 h) 248 8 (((s_X12_put_2 a1 h) 248 8) + 1)
noncomputable def H_X12_put (a1 : Int) (h : pH) : pH := s_X12_put_3 a1 h
noncomputable def P_X12_put (a1 : Int) (h : pH) : Prop := O_X12_put_2 a1 h ∧ (0 ≤ ((L_X12_put_2 a1 h).2) 248 8 ∧ ((L_X12_put_2 a1 h).2) 248 8 < 130) ∧ (fx_i (((s_X12_put_2 a1 h) 248 8) + 1))
set_option maxHeartbeats 4000000 in
theorem w_X12_put (a1 : Int) (h : pH) {Q : Option pV → pH → Prop} (hp : P_X12_put a1 h) (kk : Q (none) (H_X12_put a1 h)) : WP 167 (0, [(14, 248), (1, a1), pU, pU, pU], [], h) Q := by
  unfold P_X12_put at hp
  obtain ⟨o23, o25, o26⟩ := hp
  refine WP.lload_n rfl rfl ?_
  refine WP.lstore_n (L' := [(14, 248), (1, a1), pU, (1, a1), pU]) rfl rfl ?_
  refine lp_X12_put_2 a1 h o23 (fun us24 => ?_) [(1, a1), pU]
  show WP 167 (48, [(14, 248), us24.getD 0 pU, us24.getD 1 pU, (1, (L_X12_put_2 a1 h).1), pU], [], (L_X12_put_2 a1 h).2) Q
  refine WP.aload_n rfl rfl ⟨by decide, by decide⟩ ?_
  refine WP.getRF (b := 255) rfl rfl rfl ?_
  refine WP.aload_n rfl rfl ⟨by decide, by decide⟩ ?_
  refine WP.getI rfl rfl ?_
  refine WP.lload_n rfl rfl ?_
  refine WP.lastore rfl ⟨by decide, by decide, by decide⟩ o25 ?_
  show WP 167 (54, [(14, 248), us24.getD 0 pU, us24.getD 1 pU, (1, (L_X12_put_2 a1 h).1), pU], [], s_X12_put_2 a1 h) Q
  refine WP.aload_n rfl rfl ⟨by decide, by decide⟩ ?_
  refine WP.dup rfl (by decide) ?_
  refine WP.getI rfl rfl ?_
  refine WP.iconst rfl ?_
  refine WP.iaddE rfl o26 ?_
  refine WP.putI rfl rfl ?_
  show WP 167 (60, [(14, 248), us24.getD 0 pU, us24.getD 1 pU, (1, (L_X12_put_2 a1 h).1), pU], [], s_X12_put_3 a1 h) Q
  refine WP.retv rfl ?_; exact kk
theorem c_X12_put (a1 : Int) (h : pH) (hp : P_X12_put a1 h) : CP 167 [(14, 248), (1, a1)] h (fun r h1 => r = none ∧ h1 = H_X12_put a1 h) := w_X12_put a1 h hp ⟨rfl, rfl⟩
noncomputable def F_X12_isName (a0 : Int) (h : pH) : Int := if a0 = 103 ∨ (a0 = 112 ∨ (a0 = 115 ∨ (a0 = 119 ∨ (a0 = 109 ∨ a0 = 102)))) then 1 else 0
set_option maxHeartbeats 4000000 in
theorem w_X12_isName (a0 : Int) (h : pH) {Q : Option pV → pH → Prop} (kk : Q (some (0, F_X12_isName a0 h)) (h)) : WP 171 (0, [(0, a0)], [], h) Q := by
  refine WP.iload_n rfl rfl ?_
  refine WP.bipush rfl ?_
  have k1 : ∀ Q' : Option pV → pH → Prop, (WP 171 (21, [(0, a0)], [(0, if a0 = 103 ∨ (a0 = 112 ∨ (a0 = 115 ∨ (a0 = 119 ∨ (a0 = 109 ∨ a0 = 102)))) then 1 else 0)], h) Q') → WP 171 (2, [(0, a0)], [(0, 103), (0, a0)], h) Q' := fun Q' kk => by
    refine WP.ni_eq rfl (fun c2 => ?_) (fun c2 => ?_)
    · refine WP.iconst rfl ?_
      refine WP.goto rfl ?_
      have e := kk; simp only [if_pos c2, if_pos (show a0 = 103 ∨ (a0 = 112 ∨ (a0 = 115 ∨ (a0 = 119 ∨ (a0 = 109 ∨ a0 = 102)))) from Or.inl c2)] at e ⊢; exact e
    · refine WP.iload_n rfl rfl ?_
      refine WP.bipush rfl ?_
      refine WP.ni_eq rfl (fun c3 => ?_) (fun c3 => ?_)
      · refine WP.iconst rfl ?_
        refine WP.goto rfl ?_
        have e := kk; simp only [if_neg (c2), if_pos c3, if_pos (show a0 = 103 ∨ (a0 = 112 ∨ (a0 = 115 ∨ (a0 = 119 ∨ (a0 = 109 ∨ a0 = 102)))) from Or.inr (Or.inl c3))] at e ⊢; exact e
      · refine WP.iload_n rfl rfl ?_
        refine WP.bipush rfl ?_
        refine WP.ni_eq rfl (fun c4 => ?_) (fun c4 => ?_)
        · refine WP.iconst rfl ?_
          refine WP.goto rfl ?_
          have e := kk; simp only [if_neg (c2), if_neg (c3), if_pos c4, if_pos (show a0 = 103 ∨ (a0 = 112 ∨ (a0 = 115 ∨ (a0 = 119 ∨ (a0 = 109 ∨ a0 = 102)))) from Or.inr (Or.inr (Or.inl c4)))] at e ⊢; exact e
        · refine WP.iload_n rfl rfl ?_
          refine WP.bipush rfl ?_
          refine WP.ni_eq rfl (fun c5 => ?_) (fun c5 => ?_)
          · refine WP.iconst rfl ?_
            refine WP.goto rfl ?_
            have e := kk; simp only [if_neg (c2), if_neg (c3), if_neg (c4), if_pos c5, if_pos (show a0 = 103 ∨ (a0 = 112 ∨ (a0 = 115 ∨ (a0 = 119 ∨ (a0 = 109 ∨ a0 = 102)))) from Or.inr (Or.inr (Or.inr (Or.inl c5))))] at e ⊢; exact e
          · refine WP.iload_n rfl rfl ?_
            refine WP.bipush rfl ?_
            refine WP.ni_eq rfl (fun c6 => ?_) (fun c6 => ?_)
            · refine WP.iconst rfl ?_
              refine WP.goto rfl ?_
              have e := kk; simp only [if_neg (c2), if_neg (c3), if_neg (c4), if_neg (c5), if_pos c6, if_pos (show a0 = 103 ∨ (a0 = 112 ∨ (a0 = 115 ∨ (a0 = 119 ∨ (a0 = 109 ∨ a0 = 102)))) from Or.inr (Or.inr (Or.inr (Or.inr (Or.inl c6)))))] at e ⊢; exact e
            · refine WP.iload_n rfl rfl ?_
              refine WP.bipush rfl ?_
              refine WP.ni_ne rfl (fun c7 => ?_) (fun c7 => ?_)
              · refine WP.iconst rfl ?_
                have e := kk; simp only [if_neg (c2), if_neg (c3), if_neg (c4), if_neg (c5), if_neg (c6), if_neg (c7), if_neg (show ¬ (a0 = 103 ∨ (a0 = 112 ∨ (a0 = 115 ∨ (a0 = 119 ∨ (a0 = 109 ∨ a0 = 102))))) from fun q => q.elim (c2) (fun q => q.elim (c3) (fun q => q.elim (c4) (fun q => q.elim (c5) (fun q => q.elim (c6) (c7))))))] at e ⊢; exact e
              · refine WP.iconst rfl ?_
                refine WP.goto rfl ?_
                have e := kk; simp only [if_neg (c2), if_neg (c3), if_neg (c4), if_neg (c5), if_neg (c6), if_pos c7, if_pos (show a0 = 103 ∨ (a0 = 112 ∨ (a0 = 115 ∨ (a0 = 119 ∨ (a0 = 109 ∨ a0 = 102)))) from Or.inr (Or.inr (Or.inr (Or.inr (Or.inr c7)))))] at e ⊢; exact e
  refine k1 _ ?_
  refine WP.retz rfl (fx_01 _) ?_; exact kk
theorem c_X12_isName (a0 : Int) (h : pH) : CP 171 [(0, a0)] h (fun r h1 => r = some (0, F_X12_isName a0 h) ∧ h1 = h) := w_X12_isName a0 h ⟨rfl, rfl⟩
noncomputable def F_X12_mayHave (a1 : Int) (a2 : Int) (h : pH) : Int := if h 249 (134 + a1) = 0 ∧ (h 249 (144 + a1) = 0 ∧ (h 249 (280 + a2) = (-1) ∨ h 249 (280 + a2) = a1)) then 1 else 0
noncomputable def P_X12_mayHave (a1 : Int) (a2 : Int) (h : pH) : Prop := (fx_i (134 + a1)) ∧ (0 ≤ 134 + a1 ∧ 134 + a1 < 620) ∧ (((h 249 (134 + a1) = 0) → ((fx_i (144 + a1)) ∧ (0 ≤ 144 + a1 ∧ 144 + a1 < 620) ∧ ((h 249 (144 + a1) = 0) → ((fx_i (280 + a2)) ∧ (0 ≤ 280 + a2 ∧ 280 + a2 < 620))))))
set_option maxHeartbeats 4000000 in
theorem w_X12_mayHave (a1 : Int) (a2 : Int) (h : pH) {Q : Option pV → pH → Prop} (hp : P_X12_mayHave a1 a2 h) (kk : Q (some (0, F_X12_mayHave a1 a2 h)) (h)) : WP 180 (0, [(14, 248), (0, a1), (0, a2)], [], h) Q := by
  unfold P_X12_mayHave at hp
  obtain ⟨o1, o2, q15⟩ := hp
  refine WP.aload_n rfl rfl ⟨by decide, by decide⟩ ?_
  refine WP.getRF (b := 249) rfl rfl rfl ?_
  refine WP.sipush rfl ?_
  refine WP.iload_n rfl rfl ?_
  refine WP.iaddE rfl o1 ?_
  refine WP.laload rfl ⟨by decide, by decide, by decide⟩ o2 ?_
  refine WP.lconst rfl ?_
  refine WP.lcmp rfl ?_
  have k3 : ∀ Q' : Option pV → pH → Prop, (WP 180 (40, [(14, 248), (0, a1), (0, a2)], [(0, if h 249 (134 + a1) = 0 ∧ (h 249 (144 + a1) = 0 ∧ (h 249 (280 + a2) = (-1) ∨ h 249 (280 + a2) = a1)) then 1 else 0)], h) Q') → WP 180 (8, [(14, 248), (0, a1), (0, a2)], [(0, pm_lcmp (h 249 (134 + a1)) 0)], h) Q' := fun Q' kk => by
    have q13 := q15
    refine WP.nl_ne rfl (fun c4 => ?_) (fun c4 => ?_)
    · refine WP.iconst rfl ?_
      have e := kk; simp only [if_neg (c4), if_neg (show ¬ (h 249 (134 + a1) = 0 ∧ (h 249 (144 + a1) = 0 ∧ (h 249 (280 + a2) = (-1) ∨ h 249 (280 + a2) = a1))) from fun q => (c4) q.1)] at e ⊢; exact e
    · obtain ⟨o5, o6, q12⟩ := q13 c4
      refine WP.aload_n rfl rfl ⟨by decide, by decide⟩ ?_
      refine WP.getRF (b := 249) rfl rfl rfl ?_
      refine WP.sipush rfl ?_
      refine WP.iload_n rfl rfl ?_
      refine WP.iaddE rfl o5 ?_
      refine WP.laload rfl ⟨by decide, by decide, by decide⟩ o6 ?_
      refine WP.lconst rfl ?_
      refine WP.lcmp rfl ?_
      refine WP.nl_ne rfl (fun c7 => ?_) (fun c7 => ?_)
      · refine WP.iconst rfl ?_
        have e := kk; simp only [if_pos c4, if_neg (c7), if_neg (show ¬ (h 249 (134 + a1) = 0 ∧ (h 249 (144 + a1) = 0 ∧ (h 249 (280 + a2) = (-1) ∨ h 249 (280 + a2) = a1))) from fun q => (fun q => (c7) q.1) q.2)] at e ⊢; exact e
      · obtain ⟨o8, o9⟩ := q12 c7
        refine WP.aload_n rfl rfl ⟨by decide, by decide⟩ ?_
        refine WP.getRF (b := 249) rfl rfl rfl ?_
        refine WP.sipush rfl ?_
        refine WP.iload_n rfl rfl ?_
        refine WP.iaddE rfl o8 ?_
        refine WP.laload rfl ⟨by decide, by decide, by decide⟩ o9 ?_
        refine WP.ldc2_w rfl ?_
        refine WP.lcmp rfl ?_
        refine WP.nl_eq rfl (fun c10 => ?_) (fun c10 => ?_)
        · refine WP.iconst rfl ?_
          refine WP.goto rfl ?_
          have e := kk; simp only [if_pos c4, if_pos c7, if_pos c10, if_pos (show h 249 (134 + a1) = 0 ∧ (h 249 (144 + a1) = 0 ∧ (h 249 (280 + a2) = (-1) ∨ h 249 (280 + a2) = a1)) from ⟨c4, ⟨c7, Or.inl c10⟩⟩)] at e ⊢; exact e
        · refine WP.aload_n rfl rfl ⟨by decide, by decide⟩ ?_
          refine WP.getRF (b := 249) rfl rfl rfl ?_
          refine WP.sipush rfl ?_
          refine WP.iload_n rfl rfl ?_
          refine WP.iaddE rfl o8 ?_
          refine WP.laload rfl ⟨by decide, by decide, by decide⟩ o9 ?_
          refine WP.iload_n rfl rfl ?_
          refine WP.i2l rfl ?_
          refine WP.lcmp rfl ?_
          refine WP.nl_ne rfl (fun c11 => ?_) (fun c11 => ?_)
          · refine WP.iconst rfl ?_
            have e := kk; simp only [if_pos c4, if_pos c7, if_neg (c10), if_neg (c11), if_neg (show ¬ (h 249 (134 + a1) = 0 ∧ (h 249 (144 + a1) = 0 ∧ (h 249 (280 + a2) = (-1) ∨ h 249 (280 + a2) = a1))) from fun q => (fun q => (fun q => q.elim (c10) (c11)) q.2) q.2)] at e ⊢; exact e
          · refine WP.iconst rfl ?_
            refine WP.goto rfl ?_
            have e := kk; simp only [if_pos c4, if_pos c7, if_neg (c10), if_pos c11, if_pos (show h 249 (134 + a1) = 0 ∧ (h 249 (144 + a1) = 0 ∧ (h 249 (280 + a2) = (-1) ∨ h 249 (280 + a2) = a1)) from ⟨c4, ⟨c7, Or.inr c11⟩⟩)] at e ⊢; exact e
  refine k3 _ ?_
  refine WP.retz rfl (fx_01 _) ?_; exact kk
theorem c_X12_mayHave (a1 : Int) (a2 : Int) (h : pH) (hp : P_X12_mayHave a1 a2 h) : CP 180 [(14, 248), (0, a1), (0, a2)] h (fun r h1 => r = some (0, F_X12_mayHave a1 a2 h) ∧ h1 = h) := w_X12_mayHave a1 a2 h hp ⟨rfl, rfl⟩
noncomputable def F_X12_drawn (a1 : Int) (h : pH) : Int := (h 249 (164 + a1)) * (h 249 (104 + a1))
noncomputable def P_X12_drawn (a1 : Int) (h : pH) : Prop := (fx_i (164 + a1)) ∧ (0 ≤ 164 + a1 ∧ 164 + a1 < 620) ∧ (fx_i (104 + a1)) ∧ (0 ≤ 104 + a1 ∧ 104 + a1 < 620) ∧ (fx_l ((h 249 (164 + a1)) * (h 249 (104 + a1))))
set_option maxHeartbeats 4000000 in
theorem w_X12_drawn (a1 : Int) (h : pH) {Q : Option pV → pH → Prop} (hp : P_X12_drawn a1 h) (kk : Q (some (1, F_X12_drawn a1 h)) (h)) : WP 182 (0, [(14, 248), (0, a1)], [], h) Q := by
  unfold P_X12_drawn at hp
  obtain ⟨o1, o2, o3, o4, o5⟩ := hp
  refine WP.aload_n rfl rfl ⟨by decide, by decide⟩ ?_
  refine WP.getRF (b := 249) rfl rfl rfl ?_
  refine WP.sipush rfl ?_
  refine WP.iload_n rfl rfl ?_
  refine WP.iaddE rfl o1 ?_
  refine WP.laload rfl ⟨by decide, by decide, by decide⟩ o2 ?_
  refine WP.aload_n rfl rfl ⟨by decide, by decide⟩ ?_
  refine WP.getRF (b := 249) rfl rfl rfl ?_
  refine WP.bipush rfl ?_
  refine WP.iload_n rfl rfl ?_
  refine WP.iaddE rfl o3 ?_
  refine WP.laload rfl ⟨by decide, by decide, by decide⟩ o4 ?_
  refine WP.lmulE rfl o5 ?_
  refine WP.retl rfl ?_; exact kk
theorem c_X12_drawn (a1 : Int) (h : pH) (hp : P_X12_drawn a1 h) : CP 182 [(14, 248), (0, a1)] h (fun r h1 => r = some (1, F_X12_drawn a1 h) ∧ h1 = h) := w_X12_drawn a1 h hp ⟨rfl, rfl⟩
noncomputable def s_X12_less_1 (a0 : Int) (a1 : Int) : Int := if a1 ≤ a0 then a1 else a0
noncomputable def F_X12_less (a0 : Int) (a1 : Int) (h : pH) : Int := s_X12_less_1 a0 a1
set_option maxHeartbeats 4000000 in
theorem w_X12_less (a0 : Int) (a1 : Int) (h : pH) {Q : Option pV → pH → Prop} (kk : Q (some (1, F_X12_less a0 a1 h)) (h)) : WP 185 (0, [(1, a0), pU, (1, a1), pU], [], h) Q := by
  refine WP.lload_n rfl rfl ?_
  refine WP.lload_n rfl rfl ?_
  refine WP.lcmp rfl ?_
  have k1 : ∀ Q' : Option pV → pH → Prop, (WP 185 (7, [(1, a0), pU, (1, a1), pU], [(1, s_X12_less_1 a0 a1)], h) Q') → WP 185 (3, [(1, a0), pU, (1, a1), pU], [(0, pm_lcmp a0 a1)], h) Q' := fun Q' kk => by
    refine WP.nl_ge rfl (fun c2 => ?_) (fun c2 => ?_)
    · refine WP.lload_n rfl rfl ?_
      have e := kk; simp only [s_X12_less_1, if_pos c2] at e ⊢; exact e
    · refine WP.lload_n rfl rfl ?_
      refine WP.goto rfl ?_
      have e := kk; simp only [s_X12_less_1, if_neg (Int.not_le.mpr c2)] at e ⊢; exact e
  refine k1 _ ?_
  refine WP.retl rfl ?_; exact kk
theorem c_X12_less (a0 : Int) (a1 : Int) (h : pH) : CP 185 [(1, a0), (1, a1)] h (fun r h1 => r = some (1, F_X12_less a0 a1 h) ∧ h1 = h) := w_X12_less a0 a1 h ⟨rfl, rfl⟩
noncomputable def s_X12_exchange_1 (a1 : Int) (a2 : Int) (h : pH) : pH := pm_upd h 262 a1 ((h 262 a1) - (Int.tdiv (((h 249 (20 + a1)) - (h 249 (20 + a2))) * (h 249 2)) 1000))
noncomputable def s_X12_exchange_2 (a1 : Int) (a2 : Int) (h : pH) : pH := pm_upd (s_X12_exchange_1 a1 a2 h) 262 a2 (((s_X12_exchange_1 a1 a2 h) 262 a2) + (Int.tdiv (((h 249 (20 + a1)) - (h 249 (20 + a2))) * (h 249 2)) 1000))
noncomputable def H_X12_exchange (a1 : Int) (a2 : Int) (h : pH) : pH := if a2 = (-1) then h else s_X12_exchange_2 a1 a2 h
noncomputable def P_X12_exchange (a1 : Int) (a2 : Int) (h : pH) : Prop := (((¬ a2 = (-1)) → ((fx_i (20 + a1)) ∧ (0 ≤ 20 + a1 ∧ 20 + a1 < 620) ∧ (fx_i (20 + a2)) ∧ (0 ≤ 20 + a2 ∧ 20 + a2 < 620) ∧ (fx_l ((h 249 (20 + a1)) - (h 249 (20 + a2)))) ∧ (fx_l (((h 249 (20 + a1)) - (h 249 (20 + a2))) * (h 249 2))) ∧ (fx_l (Int.tdiv (((h 249 (20 + a1)) - (h 249 (20 + a2))) * (h 249 2)) 1000)) ∧ (0 ≤ a1 ∧ a1 < 12) ∧ (fx_l ((h 262 a1) - (Int.tdiv (((h 249 (20 + a1)) - (h 249 (20 + a2))) * (h 249 2)) 1000))) ∧ (0 ≤ a2 ∧ a2 < 12) ∧ (fx_l (((s_X12_exchange_1 a1 a2 h) 262 a2) + (Int.tdiv (((h 249 (20 + a1)) - (h 249 (20 + a2))) * (h 249 2)) 1000))))))
set_option maxHeartbeats 4000000 in
theorem w_X12_exchange (a1 : Int) (a2 : Int) (h : pH) {Q : Option pV → pH → Prop} (hp : P_X12_exchange a1 a2 h) (kk : Q (none) (H_X12_exchange a1 a2 h)) : WP 189 (0, [(14, 248), (0, a1), (0, a2), pU, pU], [], h) Q := by
  unfold P_X12_exchange at hp
  have q16 := hp
  refine WP.iload_n rfl rfl ?_
  refine WP.iconst rfl ?_
  have k1 : ∀ Q' : Option pV → pH → Prop, (∀ us15 : List pV, WP 189 (40, [(14, 248), (0, a1), (0, a2), us15.getD 0 pU, pU], [], if a2 = (-1) then h else s_X12_exchange_2 a1 a2 h) Q') → WP 189 (2, [(14, 248), (0, a1), (0, a2), pU, pU], [(0, (-1)), (0, a2)], h) Q' := fun Q' kk => by
    have q14 := q16
    refine WP.ni_eq rfl (fun c2 => ?_) (fun c2 => ?_)
    · have e := kk [pU]; simp only [if_pos c2] at e ⊢; exact e
    · obtain ⟨o3, o4, o5, o6, o7, o8, o9, o10, o11, o12, o13⟩ := q14 c2
      refine WP.aload_n rfl rfl ⟨by decide, by decide⟩ ?_
      refine WP.getRF (b := 249) rfl rfl rfl ?_
      refine WP.bipush rfl ?_
      refine WP.iload_n rfl rfl ?_
      refine WP.iaddE rfl o3 ?_
      refine WP.laload rfl ⟨by decide, by decide, by decide⟩ o4 ?_
      refine WP.aload_n rfl rfl ⟨by decide, by decide⟩ ?_
      refine WP.getRF (b := 249) rfl rfl rfl ?_
      refine WP.bipush rfl ?_
      refine WP.iload_n rfl rfl ?_
      refine WP.iaddE rfl o5 ?_
      refine WP.laload rfl ⟨by decide, by decide, by decide⟩ o6 ?_
      refine WP.lsubE rfl o7 ?_
      refine WP.aload_n rfl rfl ⟨by decide, by decide⟩ ?_
      refine WP.getRF (b := 249) rfl rfl rfl ?_
      refine WP.iconst rfl ?_
      refine WP.laload rfl ⟨by decide, by decide, by decide⟩ (by decide) ?_
      refine WP.lmulE rfl o8 ?_
      refine WP.ldc2_w rfl ?_
      refine WP.ldivE rfl (show (1000 : Int) ≠ 0 by decide) o9 ?_
      refine WP.lstore_n (L' := [(14, 248), (0, a1), (0, a2), (1, Int.tdiv (((h 249 (20 + a1)) - (h 249 (20 + a2))) * (h 249 2)) 1000), pU]) rfl rfl ?_
      refine WP.aload_n rfl rfl ⟨by decide, by decide⟩ ?_
      refine WP.getRF (b := 262) rfl rfl rfl ?_
      refine WP.iload_n rfl rfl ?_
      refine WP.dup2 rfl (by decide) (by decide) ?_
      refine WP.laload rfl ⟨by decide, by decide, by decide⟩ o10 ?_
      refine WP.lload_n rfl rfl ?_
      refine WP.lsubE rfl o11 ?_
      refine WP.lastore rfl ⟨by decide, by decide, by decide⟩ o10 ?_
      show WP 189 (32, [(14, 248), (0, a1), (0, a2), (1, Int.tdiv (((h 249 (20 + a1)) - (h 249 (20 + a2))) * (h 249 2)) 1000), pU], [], s_X12_exchange_1 a1 a2 h) Q'
      refine WP.aload_n rfl rfl ⟨by decide, by decide⟩ ?_
      refine WP.getRF (b := 262) rfl rfl rfl ?_
      refine WP.iload_n rfl rfl ?_
      refine WP.dup2 rfl (by decide) (by decide) ?_
      refine WP.laload rfl ⟨by decide, by decide, by decide⟩ o12 ?_
      refine WP.lload_n rfl rfl ?_
      refine WP.laddE rfl o13 ?_
      refine WP.lastore rfl ⟨by decide, by decide, by decide⟩ o12 ?_
      show WP 189 (40, [(14, 248), (0, a1), (0, a2), (1, Int.tdiv (((h 249 (20 + a1)) - (h 249 (20 + a2))) * (h 249 2)) 1000), pU], [], s_X12_exchange_2 a1 a2 h) Q'
      have e := kk [(1, Int.tdiv (((h 249 (20 + a1)) - (h 249 (20 + a2))) * (h 249 2)) 1000)]; simp only [if_neg (c2)] at e ⊢; exact e
  refine k1 _ (fun us15 => ?_)
  refine WP.retv rfl ?_; exact kk
theorem c_X12_exchange (a1 : Int) (a2 : Int) (h : pH) (hp : P_X12_exchange a1 a2 h) : CP 189 [(14, 248), (0, a1), (0, a2)] h (fun r h1 => r = none ∧ h1 = H_X12_exchange a1 a2 h) := w_X12_exchange a1 a2 h hp ⟨rfl, rfl⟩
noncomputable def s_X12_broken_1 (x1 : Int) (x2 : Int) (h : pH) : Int := x1 + (if h 249 (328 + x2) = 3 then 1 else 0)
def C_X12_broken_4 (h : pH) (x1 : Int) (x2 : Int) : Prop := x2 < h 249 13
noncomputable def B_X12_broken_4 (h : pH) (x1 : Int) (x2 : Int) : Int × Int := (s_X12_broken_1 x1 x2 h, x2 + 1)
noncomputable def P_X12_broken_4 (h : pH) (x1 : Int) (x2 : Int) : Prop := ((x2 < h 249 13) → (fx_i (328 + x2)) ∧ (0 ≤ 328 + x2 ∧ 328 + x2 < 620) ∧ (fx_i (x1 + (if h 249 (328 + x2) = 3 then 1 else 0))) ∧ (fx_i (x2 + 1)))
noncomputable def L_X12_broken_4 (h : pH) (x1 : Int) (x2 : Int) : Int × Int := fx_wh (σ := Int × Int) (fun s => C_X12_broken_4 h s.1 s.2) (fun s => B_X12_broken_4 h s.1 s.2) (x1, x2)
def O_X12_broken_4 (h : pH) (x1 : Int) (x2 : Int) : Prop := fx_ok (σ := Int × Int) (fun s => C_X12_broken_4 h s.1 s.2) (fun s => B_X12_broken_4 h s.1 s.2) (fun s => P_X12_broken_4 h s.1 s.2) (x1, x2)
set_option maxHeartbeats 4000000 in
theorem lp_X12_broken_4 (h : pH) (x1 : Int) (x2 : Int) {Q : Option pV → pH → Prop} (hp : O_X12_broken_4 h x1 x2) (kk : ∀ us : List pV, WP 193 (29, [(14, 248), (0, (L_X12_broken_4 h x1 x2).1), (0, (L_X12_broken_4 h x1 x2).2)], [], h) Q) : ∀ us : List pV, WP 193 (4, [(14, 248), (0, x1), (0, x2)], [], h) Q := by
  refine WP.wh (σ := Int × Int) (fun s => C_X12_broken_4 h s.1 s.2) (fun s => B_X12_broken_4 h s.1 s.2) (fun s => P_X12_broken_4 h s.1 s.2) (fun s us => (4, [(14, 248), (0, s.1), (0, s.2)], [], h)) (x1, x2) hp ?_ ?_
  · intro s us hP hc kk
    obtain ⟨x1, x2⟩ := s
    change P_X12_broken_4 h x1 x2 at hP
    change x2 < h 249 13 at hc
    replace kk : ∀ (us' : List pV) (s' : Int × Int), s' = B_X12_broken_4 h x1 x2 → WP 193 (4, [(14, 248), (0, s'.1), (0, s'.2)], [], h) Q := fun us' s' e => by subst e; exact kk us'
    unfold P_X12_broken_4 at hP
    obtain ⟨o3, o4, o8, o9⟩ := hP hc
    show WP 193 (4, [(14, 248), (0, x1), (0, x2)], [], h) Q
    refine WP.iload_n rfl rfl ?_
    refine WP.i2l rfl ?_
    refine WP.aload_n rfl rfl ⟨by decide, by decide⟩ ?_
    refine WP.getRF (b := 249) rfl rfl rfl ?_
    refine WP.bipush rfl ?_
    refine WP.laload rfl ⟨by decide, by decide, by decide⟩ (by decide) ?_
    refine WP.lcmp rfl ?_
    refine WP.nl_ge rfl (fun c2 => ?_) (fun c2 => ?_)
    · exact absurd hc (Int.not_lt.mpr c2)
    · refine WP.iload_n rfl rfl ?_
      refine WP.aload_n rfl rfl ⟨by decide, by decide⟩ ?_
      refine WP.getRF (b := 249) rfl rfl rfl ?_
      refine WP.sipush rfl ?_
      refine WP.iload_n rfl rfl ?_
      refine WP.iaddE rfl o3 ?_
      refine WP.laload rfl ⟨by decide, by decide, by decide⟩ o4 ?_
      refine WP.ldc2_w rfl ?_
      refine WP.lcmp rfl ?_
      have k5 : ∀ Q' : Option pV → pH → Prop, (WP 193 (25, [(14, 248), (0, x1), (0, x2)], [(0, if h 249 (328 + x2) = 3 then 1 else 0), (0, x1)], h) Q') → WP 193 (21, [(14, 248), (0, x1), (0, x2)], [(0, pm_lcmp (h 249 (328 + x2)) 3), (0, x1)], h) Q' := fun Q' kk => by
        refine WP.nl_ne rfl (fun c6 => ?_) (fun c6 => ?_)
        · refine WP.iconst rfl ?_
          have e := kk; simp only [if_neg (c6), if_neg (show ¬ (h 249 (328 + x2) = 3) from c6)] at e ⊢; exact e
        · refine WP.iconst rfl ?_
          refine WP.goto rfl ?_
          have e := kk; simp only [if_pos c6, if_pos (show h 249 (328 + x2) = 3 from c6)] at e ⊢; exact e
      refine k5 _ ?_
      refine WP.iaddE rfl o8 ?_
      refine WP.istore_n (L' := [(14, 248), (0, x1 + (if h 249 (328 + x2) = 3 then 1 else 0)), (0, x2)]) rfl rfl ?_
      show WP 193 (27, [(14, 248), (0, s_X12_broken_1 x1 x2 h), (0, x2)], [], h) Q
      refine WP.iincE (L' := [(14, 248), (0, s_X12_broken_1 x1 x2 h), (0, x2 + 1)]) rfl rfl o9 rfl ?_
      refine WP.goto rfl ?_
      exact kk [] (s_X12_broken_1 x1 x2 h, x2 + 1) (rfl)
  · intro hP hc
    generalize hs : (L_X12_broken_4 h x1 x2 : Int × Int) = s at kk
    change P_X12_broken_4 h (L_X12_broken_4 h x1 x2).1 (L_X12_broken_4 h x1 x2).2 at hP
    change ¬ C_X12_broken_4 h (L_X12_broken_4 h x1 x2).1 (L_X12_broken_4 h x1 x2).2 at hc
    intro us
    show WP 193 (4, [(14, 248), (0, (L_X12_broken_4 h x1 x2).1), (0, (L_X12_broken_4 h x1 x2).2)], [], h) Q
    rw [hs] at hP hc ⊢
    obtain ⟨x1, x2⟩ := s
    change P_X12_broken_4 h x1 x2 at hP
    change ¬ (x2 < h 249 13) at hc
    unfold P_X12_broken_4 at hP
    show WP 193 (4, [(14, 248), (0, x1), (0, x2)], [], h) Q
    refine WP.iload_n rfl rfl ?_
    refine WP.i2l rfl ?_
    refine WP.aload_n rfl rfl ⟨by decide, by decide⟩ ?_
    refine WP.getRF (b := 249) rfl rfl rfl ?_
    refine WP.bipush rfl ?_
    refine WP.laload rfl ⟨by decide, by decide, by decide⟩ (by decide) ?_
    refine WP.lcmp rfl ?_
    refine WP.nl_ge rfl (fun c1 => ?_) (fun c1 => ?_)
    · exact kk []
    · exact absurd (show x2 < h 249 13 from c1) hc
noncomputable def F_X12_broken (h : pH) : Int := (L_X12_broken_4 h 0 0).1
noncomputable def P_X12_broken (h : pH) : Prop := O_X12_broken_4 h 0 0
set_option maxHeartbeats 4000000 in
theorem w_X12_broken (h : pH) {Q : Option pV → pH → Prop} (hp : P_X12_broken h) (kk : Q (some (0, F_X12_broken h)) (h)) : WP 193 (0, [(14, 248), pU, pU], [], h) Q := by
  unfold P_X12_broken at hp
  have o10 := hp
  refine WP.iconst rfl ?_
  refine WP.istore_n (L' := [(14, 248), (0, 0), pU]) rfl rfl ?_
  refine WP.iconst rfl ?_
  refine WP.istore_n (L' := [(14, 248), (0, 0), (0, 0)]) rfl rfl ?_
  refine lp_X12_broken_4 h 0 0 o10 (fun us11 => ?_) []
  show WP 193 (29, [(14, 248), (0, (L_X12_broken_4 h 0 0).1), (0, (L_X12_broken_4 h 0 0).2)], [], h) Q
  refine WP.iload_n rfl rfl ?_
  refine WP.reti rfl ?_; exact kk
theorem c_X12_broken (h : pH) (hp : P_X12_broken h) : CP 193 [(14, 248)] h (fun r h1 => r = some (0, F_X12_broken h) ∧ h1 = h) := w_X12_broken h hp ⟨rfl, rfl⟩
def C_X12_allHeat_4 (h : pH) (x1 : Int) (x3 : Int) : Prop := x3 < 12
noncomputable def B_X12_allHeat_4 (h : pH) (x1 : Int) (x3 : Int) : Int × Int := (x1 + (h 249 (20 + x3)), x3 + 1)
noncomputable def P_X12_allHeat_4 (h : pH) (x1 : Int) (x3 : Int) : Prop := ((x3 < 12) → (fx_i (20 + x3)) ∧ (0 ≤ 20 + x3 ∧ 20 + x3 < 620) ∧ (fx_l (x1 + (h 249 (20 + x3)))) ∧ (fx_i (x3 + 1)))
noncomputable def L_X12_allHeat_4 (h : pH) (x1 : Int) (x3 : Int) : Int × Int := fx_wh (σ := Int × Int) (fun s => C_X12_allHeat_4 h s.1 s.2) (fun s => B_X12_allHeat_4 h s.1 s.2) (x1, x3)
def O_X12_allHeat_4 (h : pH) (x1 : Int) (x3 : Int) : Prop := fx_ok (σ := Int × Int) (fun s => C_X12_allHeat_4 h s.1 s.2) (fun s => B_X12_allHeat_4 h s.1 s.2) (fun s => P_X12_allHeat_4 h s.1 s.2) (x1, x3)
set_option maxHeartbeats 4000000 in
theorem lp_X12_allHeat_4 (h : pH) (x1 : Int) (x3 : Int) {Q : Option pV → pH → Prop} (hp : O_X12_allHeat_4 h x1 x3) (kk : ∀ us : List pV, WP 194 (18, [(14, 248), (1, (L_X12_allHeat_4 h x1 x3).1), pU, (0, (L_X12_allHeat_4 h x1 x3).2)], [], h) Q) : ∀ us : List pV, WP 194 (4, [(14, 248), (1, x1), pU, (0, x3)], [], h) Q := by
  refine WP.wh (σ := Int × Int) (fun s => C_X12_allHeat_4 h s.1 s.2) (fun s => B_X12_allHeat_4 h s.1 s.2) (fun s => P_X12_allHeat_4 h s.1 s.2) (fun s us => (4, [(14, 248), (1, s.1), pU, (0, s.2)], [], h)) (x1, x3) hp ?_ ?_
  · intro s us hP hc kk
    obtain ⟨x1, x3⟩ := s
    change P_X12_allHeat_4 h x1 x3 at hP
    change x3 < 12 at hc
    replace kk : ∀ (us' : List pV) (s' : Int × Int), s' = B_X12_allHeat_4 h x1 x3 → WP 194 (4, [(14, 248), (1, s'.1), pU, (0, s'.2)], [], h) Q := fun us' s' e => by subst e; exact kk us'
    unfold P_X12_allHeat_4 at hP
    obtain ⟨o3, o4, o5, o6⟩ := hP hc
    show WP 194 (4, [(14, 248), (1, x1), pU, (0, x3)], [], h) Q
    refine WP.iload_n rfl rfl ?_
    refine WP.bipush rfl ?_
    refine WP.ni_ge rfl (fun c2 => ?_) (fun c2 => ?_)
    · exact absurd hc (Int.not_lt.mpr c2)
    · refine WP.lload_n rfl rfl ?_
      refine WP.aload_n rfl rfl ⟨by decide, by decide⟩ ?_
      refine WP.getRF (b := 249) rfl rfl rfl ?_
      refine WP.bipush rfl ?_
      refine WP.iload_n rfl rfl ?_
      refine WP.iaddE rfl o3 ?_
      refine WP.laload rfl ⟨by decide, by decide, by decide⟩ o4 ?_
      refine WP.laddE rfl o5 ?_
      refine WP.lstore_n (L' := [(14, 248), (1, x1 + (h 249 (20 + x3))), pU, (0, x3)]) rfl rfl ?_
      refine WP.iincE (L' := [(14, 248), (1, x1 + (h 249 (20 + x3))), pU, (0, x3 + 1)]) rfl rfl o6 rfl ?_
      refine WP.goto rfl ?_
      exact kk [] (x1 + (h 249 (20 + x3)), x3 + 1) (rfl)
  · intro hP hc
    generalize hs : (L_X12_allHeat_4 h x1 x3 : Int × Int) = s at kk
    change P_X12_allHeat_4 h (L_X12_allHeat_4 h x1 x3).1 (L_X12_allHeat_4 h x1 x3).2 at hP
    change ¬ C_X12_allHeat_4 h (L_X12_allHeat_4 h x1 x3).1 (L_X12_allHeat_4 h x1 x3).2 at hc
    intro us
    show WP 194 (4, [(14, 248), (1, (L_X12_allHeat_4 h x1 x3).1), pU, (0, (L_X12_allHeat_4 h x1 x3).2)], [], h) Q
    rw [hs] at hP hc ⊢
    obtain ⟨x1, x3⟩ := s
    change P_X12_allHeat_4 h x1 x3 at hP
    change ¬ (x3 < 12) at hc
    unfold P_X12_allHeat_4 at hP
    show WP 194 (4, [(14, 248), (1, x1), pU, (0, x3)], [], h) Q
    refine WP.iload_n rfl rfl ?_
    refine WP.bipush rfl ?_
    refine WP.ni_ge rfl (fun c1 => ?_) (fun c1 => ?_)
    · exact kk []
    · exact absurd (show x3 < 12 from c1) hc
noncomputable def F_X12_allHeat (h : pH) : Int := (L_X12_allHeat_4 h 0 0).1
noncomputable def P_X12_allHeat (h : pH) : Prop := O_X12_allHeat_4 h 0 0
set_option maxHeartbeats 4000000 in
theorem w_X12_allHeat (h : pH) {Q : Option pV → pH → Prop} (hp : P_X12_allHeat h) (kk : Q (some (1, F_X12_allHeat h)) (h)) : WP 194 (0, [(14, 248), pU, pU, pU], [], h) Q := by
  unfold P_X12_allHeat at hp
  have o7 := hp
  refine WP.lconst rfl ?_
  refine WP.lstore_n (L' := [(14, 248), (1, 0), pU, pU]) rfl rfl ?_
  refine WP.iconst rfl ?_
  refine WP.istore_n (L' := [(14, 248), (1, 0), pU, (0, 0)]) rfl rfl ?_
  refine lp_X12_allHeat_4 h 0 0 o7 (fun us8 => ?_) []
  show WP 194 (18, [(14, 248), (1, (L_X12_allHeat_4 h 0 0).1), pU, (0, (L_X12_allHeat_4 h 0 0).2)], [], h) Q
  refine WP.lload_n rfl rfl ?_
  refine WP.retl rfl ?_; exact kk
theorem c_X12_allHeat (h : pH) (hp : P_X12_allHeat h) : CP 194 [(14, 248)] h (fun r h1 => r = some (1, F_X12_allHeat h) ∧ h1 = h) := w_X12_allHeat h hp ⟨rfl, rfl⟩
def C_X12_bitsIn_4 (a0 : Int) (x1 : Int) (x2 : Int) : Prop := x2 < 16
noncomputable def B_X12_bitsIn_4 (a0 : Int) (x1 : Int) (x2 : Int) : Int × Int := (x1 + (pm_and (pm_shr a0 x2) 1), x2 + 1)
noncomputable def P_X12_bitsIn_4 (a0 : Int) (x1 : Int) (x2 : Int) : Prop := ((x2 < 16) → (fx_i (x1 + (pm_and (pm_shr a0 x2) 1))) ∧ (fx_i (x2 + 1)))
noncomputable def L_X12_bitsIn_4 (a0 : Int) (x1 : Int) (x2 : Int) : Int × Int := fx_wh (σ := Int × Int) (fun s => C_X12_bitsIn_4 a0 s.1 s.2) (fun s => B_X12_bitsIn_4 a0 s.1 s.2) (x1, x2)
def O_X12_bitsIn_4 (a0 : Int) (x1 : Int) (x2 : Int) : Prop := fx_ok (σ := Int × Int) (fun s => C_X12_bitsIn_4 a0 s.1 s.2) (fun s => B_X12_bitsIn_4 a0 s.1 s.2) (fun s => P_X12_bitsIn_4 a0 s.1 s.2) (x1, x2)
set_option maxHeartbeats 4000000 in
theorem lp_X12_bitsIn_4 (a0 : Int) (x1 : Int) (x2 : Int) (h : pH) {Q : Option pV → pH → Prop} (hp : O_X12_bitsIn_4 a0 x1 x2) (kk : ∀ us : List pV, WP 205 (17, [(0, a0), (0, (L_X12_bitsIn_4 a0 x1 x2).1), (0, (L_X12_bitsIn_4 a0 x1 x2).2)], [], h) Q) : ∀ us : List pV, WP 205 (4, [(0, a0), (0, x1), (0, x2)], [], h) Q := by
  refine WP.wh (σ := Int × Int) (fun s => C_X12_bitsIn_4 a0 s.1 s.2) (fun s => B_X12_bitsIn_4 a0 s.1 s.2) (fun s => P_X12_bitsIn_4 a0 s.1 s.2) (fun s us => (4, [(0, a0), (0, s.1), (0, s.2)], [], h)) (x1, x2) hp ?_ ?_
  · intro s us hP hc kk
    obtain ⟨x1, x2⟩ := s
    change P_X12_bitsIn_4 a0 x1 x2 at hP
    change x2 < 16 at hc
    replace kk : ∀ (us' : List pV) (s' : Int × Int), s' = B_X12_bitsIn_4 a0 x1 x2 → WP 205 (4, [(0, a0), (0, s'.1), (0, s'.2)], [], h) Q := fun us' s' e => by subst e; exact kk us'
    unfold P_X12_bitsIn_4 at hP
    obtain ⟨o3, o4⟩ := hP hc
    show WP 205 (4, [(0, a0), (0, x1), (0, x2)], [], h) Q
    refine WP.iload_n rfl rfl ?_
    refine WP.bipush rfl ?_
    refine WP.ni_ge rfl (fun c2 => ?_) (fun c2 => ?_)
    · exact absurd hc (Int.not_lt.mpr c2)
    · refine WP.iload_n rfl rfl ?_
      refine WP.iload_n rfl rfl ?_
      refine WP.iload_n rfl rfl ?_
      refine WP.ishr rfl ?_
      refine WP.iconst rfl ?_
      refine WP.iand rfl ?_
      refine WP.iaddE rfl o3 ?_
      refine WP.istore_n (L' := [(0, a0), (0, x1 + (pm_and (pm_shr a0 x2) 1)), (0, x2)]) rfl rfl ?_
      refine WP.iincE (L' := [(0, a0), (0, x1 + (pm_and (pm_shr a0 x2) 1)), (0, x2 + 1)]) rfl rfl o4 rfl ?_
      refine WP.goto rfl ?_
      exact kk [] (x1 + (pm_and (pm_shr a0 x2) 1), x2 + 1) (rfl)
  · intro hP hc
    generalize hs : (L_X12_bitsIn_4 a0 x1 x2 : Int × Int) = s at kk
    change P_X12_bitsIn_4 a0 (L_X12_bitsIn_4 a0 x1 x2).1 (L_X12_bitsIn_4 a0 x1 x2).2 at hP
    change ¬ C_X12_bitsIn_4 a0 (L_X12_bitsIn_4 a0 x1 x2).1 (L_X12_bitsIn_4 a0 x1 x2).2 at hc
    intro us
    show WP 205 (4, [(0, a0), (0, (L_X12_bitsIn_4 a0 x1 x2).1), (0, (L_X12_bitsIn_4 a0 x1 x2).2)], [], h) Q
    rw [hs] at hP hc ⊢
    obtain ⟨x1, x2⟩ := s
    change P_X12_bitsIn_4 a0 x1 x2 at hP
    change ¬ (x2 < 16) at hc
    unfold P_X12_bitsIn_4 at hP
    show WP 205 (4, [(0, a0), (0, x1), (0, x2)], [], h) Q
    refine WP.iload_n rfl rfl ?_
    refine WP.bipush rfl ?_
    refine WP.ni_ge rfl (fun c1 => ?_) (fun c1 => ?_)
    · exact kk []
    · exact absurd (show x2 < 16 from c1) hc
noncomputable def F_X12_bitsIn (a0 : Int) (h : pH) : Int := (L_X12_bitsIn_4 a0 0 0).1
noncomputable def P_X12_bitsIn (a0 : Int) (h : pH) : Prop := O_X12_bitsIn_4 a0 0 0
set_option maxHeartbeats 4000000 in
theorem w_X12_bitsIn (a0 : Int) (h : pH) {Q : Option pV → pH → Prop} (hp : P_X12_bitsIn a0 h) (kk : Q (some (0, F_X12_bitsIn a0 h)) (h)) : WP 205 (0, [(0, a0), pU, pU], [], h) Q := by
  unfold P_X12_bitsIn at hp
  have o5 := hp
  refine WP.iconst rfl ?_
  refine WP.istore_n (L' := [(0, a0), (0, 0), pU]) rfl rfl ?_
  refine WP.iconst rfl ?_
  refine WP.istore_n (L' := [(0, a0), (0, 0), (0, 0)]) rfl rfl ?_
  refine lp_X12_bitsIn_4 a0 0 0 _ o5 (fun us6 => ?_) []
  show WP 205 (17, [(0, a0), (0, (L_X12_bitsIn_4 a0 0 0).1), (0, (L_X12_bitsIn_4 a0 0 0).2)], [], h) Q
  refine WP.iload_n rfl rfl ?_
  refine WP.reti rfl ?_; exact kk
theorem c_X12_bitsIn (a0 : Int) (h : pH) (hp : P_X12_bitsIn a0 h) : CP 205 [(0, a0)] h (fun r h1 => r = some (0, F_X12_bitsIn a0 h) ∧ h1 = h) := w_X12_bitsIn a0 h hp ⟨rfl, rfl⟩
noncomputable def s_X12_brought_1 (a0 : Int) (a1 : Int) (a2 : Int) : Int := if a1 ≤ a0 then if a0 ≤ a2 then a0 else a2 else a1
noncomputable def F_X12_brought (a0 : Int) (a1 : Int) (a2 : Int) (h : pH) : Int := s_X12_brought_1 a0 a1 a2
set_option maxHeartbeats 4000000 in
theorem w_X12_brought (a0 : Int) (a1 : Int) (a2 : Int) (h : pH) {Q : Option pV → pH → Prop} (kk : Q (some (1, F_X12_brought a0 a1 a2 h)) (h)) : WP 207 (0, [(1, a0), pU, (1, a1), pU, (1, a2), pU], [], h) Q := by
  refine WP.lload_n rfl rfl ?_
  refine WP.lload_n rfl rfl ?_
  refine WP.lcmp rfl ?_
  have k1 : ∀ Q' : Option pV → pH → Prop, (WP 207 (13, [(1, a0), pU, (1, a1), pU, (1, a2), pU], [(1, s_X12_brought_1 a0 a1 a2)], h) Q') → WP 207 (3, [(1, a0), pU, (1, a1), pU, (1, a2), pU], [(0, pm_lcmp a0 a1)], h) Q' := fun Q' kk => by
    refine WP.nl_ge rfl (fun c2 => ?_) (fun c2 => ?_)
    · refine WP.lload_n rfl rfl ?_
      refine WP.lload rfl rfl ?_
      refine WP.lcmp rfl ?_
      refine WP.nl_le rfl (fun c3 => ?_) (fun c3 => ?_)
      · refine WP.lload_n rfl rfl ?_
        have e := kk; simp only [s_X12_brought_1, if_pos c2, if_pos c3] at e ⊢; exact e
      · refine WP.lload rfl rfl ?_
        refine WP.goto rfl ?_
        have e := kk; simp only [s_X12_brought_1, if_pos c2, if_neg (Int.not_le.mpr c3)] at e ⊢; exact e
    · refine WP.lload_n rfl rfl ?_
      refine WP.goto rfl ?_
      have e := kk; simp only [s_X12_brought_1, if_neg (Int.not_le.mpr c2)] at e ⊢; exact e
  refine k1 _ ?_
  refine WP.retl rfl ?_; exact kk
theorem c_X12_brought (a0 : Int) (a1 : Int) (a2 : Int) (h : pH) : CP 207 [(1, a0), (1, a1), (1, a2)] h (fun r h1 => r = some (1, F_X12_brought a0 a1 a2 h) ∧ h1 = h) := w_X12_brought a0 a1 a2 h ⟨rfl, rfl⟩
noncomputable def s_X12_times_1 (a1 : Int) (x3 : Int) (x5 : Int) (h : pH) : pH := pm_upd h 268 x5 (Int.tmod (((h 268 x5) * a1) + x3) 1000000000)
def C_X12_times_4 (a1 : Int) (x3 : Int) (x5 : Int) (h : pH) : Prop := x5 < 24
noncomputable def B_X12_times_4 (a1 : Int) (x3 : Int) (x5 : Int) (h : pH) : Int × Int × pH := (Int.tdiv (((h 268 x5) * a1) + x3) 1000000000, x5 + 1, s_X12_times_1 a1 x3 x5 h)
noncomputable def P_X12_times_4 (a1 : Int) (x3 : Int) (x5 : Int) (h : pH) : Prop := ((x5 < 24) → (0 ≤ x5 ∧ x5 < 24) ∧ (fx_l ((h 268 x5) * a1)) ∧ (fx_l (((h 268 x5) * a1) + x3)) ∧ (fx_l (Int.tdiv (((h 268 x5) * a1) + x3) 1000000000)) ∧ (fx_i (x5 + 1)))
noncomputable def L_X12_times_4 (a1 : Int) (x3 : Int) (x5 : Int) (h : pH) : Int × Int × pH := fx_wh (σ := Int × Int × pH) (fun s => C_X12_times_4 a1 s.1 s.2.1 s.2.2) (fun s => B_X12_times_4 a1 s.1 s.2.1 s.2.2) (x3, x5, h)
def O_X12_times_4 (a1 : Int) (x3 : Int) (x5 : Int) (h : pH) : Prop := fx_ok (σ := Int × Int × pH) (fun s => C_X12_times_4 a1 s.1 s.2.1 s.2.2) (fun s => B_X12_times_4 a1 s.1 s.2.1 s.2.2) (fun s => P_X12_times_4 a1 s.1 s.2.1 s.2.2) (x3, x5, h)
set_option maxHeartbeats 4000000 in
theorem lp_X12_times_4 (a1 : Int) (x3 : Int) (x5 : Int) (h : pH) {Q : Option pV → pH → Prop} (hp : O_X12_times_4 a1 x3 x5 h) (kk : ∀ us : List pV, WP 209 (29, [(14, 248), (1, a1), pU, (1, (L_X12_times_4 a1 x3 x5 h).1), pU, (0, (L_X12_times_4 a1 x3 x5 h).2.1), us.getD 0 pU, us.getD 1 pU], [], (L_X12_times_4 a1 x3 x5 h).2.2) Q) : ∀ us : List pV, WP 209 (4, [(14, 248), (1, a1), pU, (1, x3), pU, (0, x5), us.getD 0 pU, us.getD 1 pU], [], h) Q := by
  refine WP.wh (σ := Int × Int × pH) (fun s => C_X12_times_4 a1 s.1 s.2.1 s.2.2) (fun s => B_X12_times_4 a1 s.1 s.2.1 s.2.2) (fun s => P_X12_times_4 a1 s.1 s.2.1 s.2.2) (fun s us => (4, [(14, 248), (1, a1), pU, (1, s.1), pU, (0, s.2.1), us.getD 0 pU, us.getD 1 pU], [], s.2.2)) (x3, x5, h) hp ?_ ?_
  · intro s us hP hc kk
    obtain ⟨x3, x5, h⟩ := s
    change P_X12_times_4 a1 x3 x5 h at hP
    change x5 < 24 at hc
    replace kk : ∀ (us' : List pV) (s' : Int × Int × pH), s' = B_X12_times_4 a1 x3 x5 h → WP 209 (4, [(14, 248), (1, a1), pU, (1, s'.1), pU, (0, s'.2.1), us'.getD 0 pU, us'.getD 1 pU], [], s'.2.2) Q := fun us' s' e => by subst e; exact kk us'
    unfold P_X12_times_4 at hP
    obtain ⟨o3, o4, o5, o6, o7⟩ := hP hc
    show WP 209 (4, [(14, 248), (1, a1), pU, (1, x3), pU, (0, x5), us.getD 0 pU, us.getD 1 pU], [], h) Q
    refine WP.iload rfl rfl ?_
    refine WP.bipush rfl ?_
    refine WP.ni_ge rfl (fun c2 => ?_) (fun c2 => ?_)
    · exact absurd hc (Int.not_lt.mpr c2)
    · refine WP.aload_n rfl rfl ⟨by decide, by decide⟩ ?_
      refine WP.getRF (b := 268) rfl rfl rfl ?_
      refine WP.iload rfl rfl ?_
      refine WP.laload rfl ⟨by decide, by decide, by decide⟩ o3 ?_
      refine WP.lload_n rfl rfl ?_
      refine WP.lmulE rfl o4 ?_
      refine WP.lload_n rfl rfl ?_
      refine WP.laddE rfl o5 ?_
      refine WP.lstore (L' := [(14, 248), (1, a1), pU, (1, x3), pU, (0, x5), (1, ((h 268 x5) * a1) + x3), pU]) rfl rfl ?_
      refine WP.aload_n rfl rfl ⟨by decide, by decide⟩ ?_
      refine WP.getRF (b := 268) rfl rfl rfl ?_
      refine WP.iload rfl rfl ?_
      refine WP.lload rfl rfl ?_
      refine WP.ldc2_w rfl ?_
      refine WP.lrem rfl (show (1000000000 : Int) ≠ 0 by decide) ?_
      refine WP.lastore rfl ⟨by decide, by decide, by decide⟩ o3 ?_
      show WP 209 (23, [(14, 248), (1, a1), pU, (1, x3), pU, (0, x5), (1, ((h 268 x5) * a1) + x3), pU], [], s_X12_times_1 a1 x3 x5 h) Q
      refine WP.lload rfl rfl ?_
      refine WP.ldc2_w rfl ?_
      refine WP.ldivE rfl (show (1000000000 : Int) ≠ 0 by decide) o6 ?_
      refine WP.lstore_n (L' := [(14, 248), (1, a1), pU, (1, Int.tdiv (((h 268 x5) * a1) + x3) 1000000000), pU, (0, x5), (1, ((h 268 x5) * a1) + x3), pU]) rfl rfl ?_
      refine WP.iincE (L' := [(14, 248), (1, a1), pU, (1, Int.tdiv (((h 268 x5) * a1) + x3) 1000000000), pU, (0, x5 + 1), (1, ((h 268 x5) * a1) + x3), pU]) rfl rfl o7 rfl ?_
      refine WP.goto rfl ?_
      exact kk [(1, ((h 268 x5) * a1) + x3), pU] (Int.tdiv (((h 268 x5) * a1) + x3) 1000000000, x5 + 1, s_X12_times_1 a1 x3 x5 h) (rfl)
  · intro hP hc
    generalize hs : (L_X12_times_4 a1 x3 x5 h : Int × Int × pH) = s at kk
    change P_X12_times_4 a1 (L_X12_times_4 a1 x3 x5 h).1 (L_X12_times_4 a1 x3 x5 h).2.1 (L_X12_times_4 a1 x3 x5 h).2.2 at hP
    change ¬ C_X12_times_4 a1 (L_X12_times_4 a1 x3 x5 h).1 (L_X12_times_4 a1 x3 x5 h).2.1 (L_X12_times_4 a1 x3 x5 h).2.2 at hc
    intro us
    show WP 209 (4, [(14, 248), (1, a1), pU, (1, (L_X12_times_4 a1 x3 x5 h).1), pU, (0, (L_X12_times_4 a1 x3 x5 h).2.1), us.getD 0 pU, us.getD 1 pU], [], (L_X12_times_4 a1 x3 x5 h).2.2) Q
    rw [hs] at hP hc ⊢
    obtain ⟨x3, x5, h⟩ := s
    change P_X12_times_4 a1 x3 x5 h at hP
    change ¬ (x5 < 24) at hc
    unfold P_X12_times_4 at hP
    show WP 209 (4, [(14, 248), (1, a1), pU, (1, x3), pU, (0, x5), us.getD 0 pU, us.getD 1 pU], [], h) Q
    refine WP.iload rfl rfl ?_
    refine WP.bipush rfl ?_
    refine WP.ni_ge rfl (fun c1 => ?_) (fun c1 => ?_)
    · exact kk [us.getD 0 pU, us.getD 1 pU]
    · exact absurd (show x5 < 24 from c1) hc
noncomputable def H_X12_times (a1 : Int) (h : pH) : pH := (L_X12_times_4 a1 0 0 h).2.2
noncomputable def P_X12_times (a1 : Int) (h : pH) : Prop := O_X12_times_4 a1 0 0 h
set_option maxHeartbeats 4000000 in
theorem w_X12_times (a1 : Int) (h : pH) {Q : Option pV → pH → Prop} (hp : P_X12_times a1 h) (kk : Q (none) (H_X12_times a1 h)) : WP 209 (0, [(14, 248), (1, a1), pU, pU, pU, pU, pU, pU], [], h) Q := by
  unfold P_X12_times at hp
  have o8 := hp
  refine WP.lconst rfl ?_
  refine WP.lstore_n (L' := [(14, 248), (1, a1), pU, (1, 0), pU, pU, pU, pU]) rfl rfl ?_
  refine WP.iconst rfl ?_
  refine WP.istore (L' := [(14, 248), (1, a1), pU, (1, 0), pU, (0, 0), pU, pU]) rfl rfl ?_
  refine lp_X12_times_4 a1 0 0 h o8 (fun us9 => ?_) [pU, pU]
  show WP 209 (29, [(14, 248), (1, a1), pU, (1, (L_X12_times_4 a1 0 0 h).1), pU, (0, (L_X12_times_4 a1 0 0 h).2.1), us9.getD 0 pU, us9.getD 1 pU], [], (L_X12_times_4 a1 0 0 h).2.2) Q
  refine WP.retv rfl ?_; exact kk
theorem c_X12_times (a1 : Int) (h : pH) (hp : P_X12_times a1 h) : CP 209 [(14, 248), (1, a1)] h (fun r h1 => r = none ∧ h1 = H_X12_times a1 h) := w_X12_times a1 h hp ⟨rfl, rfl⟩
noncomputable def B_X12_isWider_2 (h : pH) (x1 : Int) : Int × Int := if x1 < 0 then (1, x1) else if h 268 x1 = h 269 x1 then (0, x1 + (-1)) else (2, x1)
noncomputable def P_X12_isWider_2 (h : pH) (x1 : Int) : Prop := ((0 ≤ x1) → ((0 ≤ x1 ∧ x1 < 24) ∧ ((h 268 x1 = h 269 x1) → ((fx_i (x1 + (-1)))))))
noncomputable def L_X12_isWider_2 (h : pH) (x1 : Int) : Int × Int := fx_wh (σ := Int × Int) (fun s => s.1 = 0) (fun s => B_X12_isWider_2 h s.2) (0, x1)
def O_X12_isWider_2 (h : pH) (x1 : Int) : Prop := fx_ok (σ := Int × Int) (fun s => s.1 = 0) (fun s => B_X12_isWider_2 h s.2) (fun s => s.1 = 0 → P_X12_isWider_2 h s.2) (0, x1)
set_option maxHeartbeats 4000000 in
theorem lp_X12_isWider_2 (h : pH) (x1 : Int) {Q : Option pV → pH → Prop} (hp : O_X12_isWider_2 h x1) (kk : (L_X12_isWider_2 h x1).1 = 1 → ∀ us : List pV, WP 210 (30, [(14, 248), (0, (L_X12_isWider_2 h x1).2)], [], h) Q) (kk2 : ¬ (L_X12_isWider_2 h x1).1 = 1 → ∀ us : List pV, WP 210 (14, [(14, 248), (0, (L_X12_isWider_2 h x1).2)], [], h) Q) : ∀ us : List pV, WP 210 (2, [(14, 248), (0, x1)], [], h) Q := by
  refine WP.wh (σ := Int × Int) (fun s => s.1 = 0) (fun s => B_X12_isWider_2 h s.2) (fun s => s.1 = 0 → P_X12_isWider_2 h s.2) (fun s us => if s.1 = 0 then (2, [(14, 248), (0, s.2)], [], h) else if s.1 = 1 then (30, [(14, 248), (0, s.2)], [], h) else (14, [(14, 248), (0, s.2)], [], h)) (0, x1) hp ?_ ?_
  · intro s us hP hc kk
    obtain ⟨fl, x1⟩ := s
    change fl = 0 at hc
    subst hc
    replace hP := hP rfl
    change P_X12_isWider_2 h x1 at hP
    replace kk : ∀ (us' : List pV) (s' : Int × Int), s' = B_X12_isWider_2 h x1 → WP 210 ((fun s us => if s.1 = 0 then (2, [(14, 248), (0, s.2)], [], h) else if s.1 = 1 then (30, [(14, 248), (0, s.2)], [], h) else (14, [(14, 248), (0, s.2)], [], h)) s' us') Q := fun us' s' e => by subst e; exact kk us'
    unfold P_X12_isWider_2 at hP
    have q6 := hP
    show WP 210 (2, [(14, 248), (0, x1)], [], h) Q
    refine WP.iload_n rfl rfl ?_
    refine WP.nz_lt rfl (fun c1 => ?_) (fun c1 => ?_)
    · exact kk [] (1, x1) (by simp only [B_X12_isWider_2, if_pos c1])
    · obtain ⟨o2, q5⟩ := q6 c1
      refine WP.aload_n rfl rfl ⟨by decide, by decide⟩ ?_
      refine WP.getRF (b := 268) rfl rfl rfl ?_
      refine WP.iload_n rfl rfl ?_
      refine WP.laload rfl ⟨by decide, by decide, by decide⟩ o2 ?_
      refine WP.aload_n rfl rfl ⟨by decide, by decide⟩ ?_
      refine WP.getRF (b := 269) rfl rfl rfl ?_
      refine WP.iload_n rfl rfl ?_
      refine WP.laload rfl ⟨by decide, by decide, by decide⟩ o2 ?_
      refine WP.lcmp rfl ?_
      refine WP.nl_eq rfl (fun c3 => ?_) (fun c3 => ?_)
      · have o4 := q5 c3
        refine WP.iincE (L' := [(14, 248), (0, x1 + (-1))]) rfl rfl o4 rfl ?_
        refine WP.goto rfl ?_
        exact kk [] (0, x1 + (-1)) (by simp only [B_X12_isWider_2, if_neg (Int.not_lt.mpr c1), if_pos c3])
      · exact kk [] (2, x1) (by simp only [B_X12_isWider_2, if_neg (Int.not_lt.mpr c1), if_neg (c3)])
  · intro hP hc
    intro us
    change ¬ (L_X12_isWider_2 h x1).1 = 0 at hc
    show WP 210 (if (L_X12_isWider_2 h x1).1 = 0 then (2, [(14, 248), (0, (L_X12_isWider_2 h x1).2)], [], h) else if (L_X12_isWider_2 h x1).1 = 1 then (30, [(14, 248), (0, (L_X12_isWider_2 h x1).2)], [], h) else (14, [(14, 248), (0, (L_X12_isWider_2 h x1).2)], [], h)) Q
    rw [if_neg hc]
    by_cases e : (L_X12_isWider_2 h x1).1 = 1
    · rw [if_pos e]; exact kk e us
    · rw [if_neg e]; exact kk2 e us
noncomputable def F_X12_isWider (h : pH) : Int := if (L_X12_isWider_2 h 23).1 = 1 then 0 else if h 269 ((L_X12_isWider_2 h 23).2) < h 268 ((L_X12_isWider_2 h 23).2) then 1 else 0
noncomputable def P_X12_isWider (h : pH) : Prop := O_X12_isWider_2 h 23 ∧ ((¬ (L_X12_isWider_2 h 23).1 = 1) → ((0 ≤ (L_X12_isWider_2 h 23).2 ∧ (L_X12_isWider_2 h 23).2 < 24)))
set_option maxHeartbeats 4000000 in
theorem w_X12_isWider (h : pH) {Q : Option pV → pH → Prop} (hp : P_X12_isWider h) (kk : Q (some (0, F_X12_isWider h)) (h)) : WP 210 (0, [(14, 248), pU], [], h) Q := by
  unfold P_X12_isWider at hp
  obtain ⟨o7, q14⟩ := hp
  refine WP.bipush rfl ?_
  refine WP.istore_n (L' := [(14, 248), (0, 23)]) rfl rfl ?_
  refine lp_X12_isWider_2 h 23 o7 (fun (c9 : (L_X12_isWider_2 h 23).1 = 1) us8 => ?_) (fun (c9 : ¬ (L_X12_isWider_2 h 23).1 = 1) us8 => ?_) []
  · show WP 210 (30, [(14, 248), (0, (L_X12_isWider_2 h 23).2)], [], h) Q
    refine WP.iconst rfl ?_
    refine WP.retz rfl (by decide) ?_; have e := kk; simp only [F_X12_isWider, if_pos c9] at e ⊢; exact e
  · have o10 := q14 c9
    show WP 210 (14, [(14, 248), (0, (L_X12_isWider_2 h 23).2)], [], h) Q
    refine WP.aload_n rfl rfl ⟨by decide, by decide⟩ ?_
    refine WP.getRF (b := 268) rfl rfl rfl ?_
    refine WP.iload_n rfl rfl ?_
    refine WP.laload rfl ⟨by decide, by decide, by decide⟩ o10 ?_
    refine WP.aload_n rfl rfl ⟨by decide, by decide⟩ ?_
    refine WP.getRF (b := 269) rfl rfl rfl ?_
    refine WP.iload_n rfl rfl ?_
    refine WP.laload rfl ⟨by decide, by decide, by decide⟩ o10 ?_
    refine WP.lcmp rfl ?_
    have k11 : ∀ Q' : Option pV → pH → Prop, (WP 210 (27, [(14, 248), (0, (L_X12_isWider_2 h 23).2)], [(0, if h 269 ((L_X12_isWider_2 h 23).2) < h 268 ((L_X12_isWider_2 h 23).2) then 1 else 0)], h) Q') → WP 210 (23, [(14, 248), (0, (L_X12_isWider_2 h 23).2)], [(0, pm_lcmp (h 268 ((L_X12_isWider_2 h 23).2)) (h 269 ((L_X12_isWider_2 h 23).2)))], h) Q' := fun Q' kk => by
      refine WP.nl_le rfl (fun c12 => ?_) (fun c12 => ?_)
      · refine WP.iconst rfl ?_
        have e := kk; simp only [if_pos c12, if_neg (show ¬ (h 269 ((L_X12_isWider_2 h 23).2) < h 268 ((L_X12_isWider_2 h 23).2)) from Int.not_lt.mpr c12)] at e ⊢; exact e
      · refine WP.iconst rfl ?_
        refine WP.goto rfl ?_
        have e := kk; simp only [if_neg (Int.not_le.mpr c12), if_pos (show h 269 ((L_X12_isWider_2 h 23).2) < h 268 ((L_X12_isWider_2 h 23).2) from c12)] at e ⊢; exact e
    refine k11 _ ?_
    refine WP.retz rfl (fx_01 _) ?_; have e := kk; simp only [F_X12_isWider, if_neg (c9)] at e ⊢; exact e
theorem c_X12_isWider (h : pH) (hp : P_X12_isWider h) : CP 210 [(14, 248)] h (fun r h1 => r = some (0, F_X12_isWider h) ∧ h1 = h) := w_X12_isWider h hp ⟨rfl, rfl⟩
noncomputable def s_X12_record_1 (a1 : Int) (h : pH) : Int := if 0 ≤ a1 then if h 248 20 ≤ a1 then (-2000000000000000000) else h 264 a1 else (-2100000000000000000)
noncomputable def F_X12_record (a1 : Int) (h : pH) : Int := s_X12_record_1 a1 h
noncomputable def P_X12_record (a1 : Int) (h : pH) : Prop := (((0 ≤ a1) → (((a1 < h 248 20) → ((0 ≤ a1 ∧ a1 < 40))))))
set_option maxHeartbeats 4000000 in
theorem w_X12_record (a1 : Int) (h : pH) {Q : Option pV → pH → Prop} (hp : P_X12_record a1 h) (kk : Q (some (1, F_X12_record a1 h)) (h)) : WP 216 (0, [(14, 248), (0, a1)], [], h) Q := by
  unfold P_X12_record at hp
  have q8 := hp
  refine WP.iload_n rfl rfl ?_
  have k1 : ∀ Q' : Option pV → pH → Prop, (WP 216 (14, [(14, 248), (0, a1)], [(1, s_X12_record_1 a1 h)], h) Q') → WP 216 (1, [(14, 248), (0, a1)], [(0, a1)], h) Q' := fun Q' kk => by
    have q6 := q8
    refine WP.nz_ge rfl (fun c2 => ?_) (fun c2 => ?_)
    · have q5 := q6 c2
      refine WP.iload_n rfl rfl ?_
      refine WP.aload_n rfl rfl ⟨by decide, by decide⟩ ?_
      refine WP.getI rfl rfl ?_
      refine WP.ni_ge rfl (fun c3 => ?_) (fun c3 => ?_)
      · refine WP.ldc2_w rfl ?_
        have e := kk; simp only [s_X12_record_1, if_pos c2, if_pos c3] at e ⊢; exact e
      · have o4 := q5 c3
        refine WP.aload_n rfl rfl ⟨by decide, by decide⟩ ?_
        refine WP.getRF (b := 264) rfl rfl rfl ?_
        refine WP.iload_n rfl rfl ?_
        refine WP.laload rfl ⟨by decide, by decide, by decide⟩ o4 ?_
        refine WP.goto rfl ?_
        have e := kk; simp only [s_X12_record_1, if_pos c2, if_neg (Int.not_le.mpr c3)] at e ⊢; exact e
    · refine WP.ldc2_w rfl ?_
      refine WP.goto rfl ?_
      have e := kk; simp only [s_X12_record_1, if_neg (Int.not_le.mpr c2)] at e ⊢; exact e
  refine k1 _ ?_
  refine WP.retl rfl ?_; exact kk
theorem c_X12_record (a1 : Int) (h : pH) (hp : P_X12_record a1 h) : CP 216 [(14, 248), (0, a1)] h (fun r h1 => r = some (1, F_X12_record a1 h) ∧ h1 = h) := w_X12_record a1 h hp ⟨rfl, rfl⟩
noncomputable def s_X12_overs_1 (a1 : Int) (x2 : Int) (x3 : Int) (h : pH) : Int := x2 + (if h 249 (328 + x3) = a1 then 1 else 0)
def C_X12_overs_4 (a1 : Int) (h : pH) (x2 : Int) (x3 : Int) : Prop := x3 < h 249 13
noncomputable def B_X12_overs_4 (a1 : Int) (h : pH) (x2 : Int) (x3 : Int) : Int × Int := (s_X12_overs_1 a1 x2 x3 h, x3 + 1)
noncomputable def P_X12_overs_4 (a1 : Int) (h : pH) (x2 : Int) (x3 : Int) : Prop := ((x3 < h 249 13) → (fx_i (328 + x3)) ∧ (0 ≤ 328 + x3 ∧ 328 + x3 < 620) ∧ (fx_i (x2 + (if h 249 (328 + x3) = a1 then 1 else 0))) ∧ (fx_i (x3 + 1)))
noncomputable def L_X12_overs_4 (a1 : Int) (h : pH) (x2 : Int) (x3 : Int) : Int × Int := fx_wh (σ := Int × Int) (fun s => C_X12_overs_4 a1 h s.1 s.2) (fun s => B_X12_overs_4 a1 h s.1 s.2) (x2, x3)
def O_X12_overs_4 (a1 : Int) (h : pH) (x2 : Int) (x3 : Int) : Prop := fx_ok (σ := Int × Int) (fun s => C_X12_overs_4 a1 h s.1 s.2) (fun s => B_X12_overs_4 a1 h s.1 s.2) (fun s => P_X12_overs_4 a1 h s.1 s.2) (x2, x3)
set_option maxHeartbeats 4000000 in
theorem lp_X12_overs_4 (a1 : Int) (h : pH) (x2 : Int) (x3 : Int) {Q : Option pV → pH → Prop} (hp : O_X12_overs_4 a1 h x2 x3) (kk : ∀ us : List pV, WP 221 (30, [(14, 248), (0, a1), (0, (L_X12_overs_4 a1 h x2 x3).1), (0, (L_X12_overs_4 a1 h x2 x3).2)], [], h) Q) : ∀ us : List pV, WP 221 (4, [(14, 248), (0, a1), (0, x2), (0, x3)], [], h) Q := by
  refine WP.wh (σ := Int × Int) (fun s => C_X12_overs_4 a1 h s.1 s.2) (fun s => B_X12_overs_4 a1 h s.1 s.2) (fun s => P_X12_overs_4 a1 h s.1 s.2) (fun s us => (4, [(14, 248), (0, a1), (0, s.1), (0, s.2)], [], h)) (x2, x3) hp ?_ ?_
  · intro s us hP hc kk
    obtain ⟨x2, x3⟩ := s
    change P_X12_overs_4 a1 h x2 x3 at hP
    change x3 < h 249 13 at hc
    replace kk : ∀ (us' : List pV) (s' : Int × Int), s' = B_X12_overs_4 a1 h x2 x3 → WP 221 (4, [(14, 248), (0, a1), (0, s'.1), (0, s'.2)], [], h) Q := fun us' s' e => by subst e; exact kk us'
    unfold P_X12_overs_4 at hP
    obtain ⟨o3, o4, o8, o9⟩ := hP hc
    show WP 221 (4, [(14, 248), (0, a1), (0, x2), (0, x3)], [], h) Q
    refine WP.iload_n rfl rfl ?_
    refine WP.i2l rfl ?_
    refine WP.aload_n rfl rfl ⟨by decide, by decide⟩ ?_
    refine WP.getRF (b := 249) rfl rfl rfl ?_
    refine WP.bipush rfl ?_
    refine WP.laload rfl ⟨by decide, by decide, by decide⟩ (by decide) ?_
    refine WP.lcmp rfl ?_
    refine WP.nl_ge rfl (fun c2 => ?_) (fun c2 => ?_)
    · exact absurd hc (Int.not_lt.mpr c2)
    · refine WP.iload_n rfl rfl ?_
      refine WP.aload_n rfl rfl ⟨by decide, by decide⟩ ?_
      refine WP.getRF (b := 249) rfl rfl rfl ?_
      refine WP.sipush rfl ?_
      refine WP.iload_n rfl rfl ?_
      refine WP.iaddE rfl o3 ?_
      refine WP.laload rfl ⟨by decide, by decide, by decide⟩ o4 ?_
      refine WP.iload_n rfl rfl ?_
      refine WP.i2l rfl ?_
      refine WP.lcmp rfl ?_
      have k5 : ∀ Q' : Option pV → pH → Prop, (WP 221 (26, [(14, 248), (0, a1), (0, x2), (0, x3)], [(0, if h 249 (328 + x3) = a1 then 1 else 0), (0, x2)], h) Q') → WP 221 (22, [(14, 248), (0, a1), (0, x2), (0, x3)], [(0, pm_lcmp (h 249 (328 + x3)) a1), (0, x2)], h) Q' := fun Q' kk => by
        refine WP.nl_ne rfl (fun c6 => ?_) (fun c6 => ?_)
        · refine WP.iconst rfl ?_
          have e := kk; simp only [if_neg (c6), if_neg (show ¬ (h 249 (328 + x3) = a1) from c6)] at e ⊢; exact e
        · refine WP.iconst rfl ?_
          refine WP.goto rfl ?_
          have e := kk; simp only [if_pos c6, if_pos (show h 249 (328 + x3) = a1 from c6)] at e ⊢; exact e
      refine k5 _ ?_
      refine WP.iaddE rfl o8 ?_
      refine WP.istore_n (L' := [(14, 248), (0, a1), (0, x2 + (if h 249 (328 + x3) = a1 then 1 else 0)), (0, x3)]) rfl rfl ?_
      show WP 221 (28, [(14, 248), (0, a1), (0, s_X12_overs_1 a1 x2 x3 h), (0, x3)], [], h) Q
      refine WP.iincE (L' := [(14, 248), (0, a1), (0, s_X12_overs_1 a1 x2 x3 h), (0, x3 + 1)]) rfl rfl o9 rfl ?_
      refine WP.goto rfl ?_
      exact kk [] (s_X12_overs_1 a1 x2 x3 h, x3 + 1) (rfl)
  · intro hP hc
    generalize hs : (L_X12_overs_4 a1 h x2 x3 : Int × Int) = s at kk
    change P_X12_overs_4 a1 h (L_X12_overs_4 a1 h x2 x3).1 (L_X12_overs_4 a1 h x2 x3).2 at hP
    change ¬ C_X12_overs_4 a1 h (L_X12_overs_4 a1 h x2 x3).1 (L_X12_overs_4 a1 h x2 x3).2 at hc
    intro us
    show WP 221 (4, [(14, 248), (0, a1), (0, (L_X12_overs_4 a1 h x2 x3).1), (0, (L_X12_overs_4 a1 h x2 x3).2)], [], h) Q
    rw [hs] at hP hc ⊢
    obtain ⟨x2, x3⟩ := s
    change P_X12_overs_4 a1 h x2 x3 at hP
    change ¬ (x3 < h 249 13) at hc
    unfold P_X12_overs_4 at hP
    show WP 221 (4, [(14, 248), (0, a1), (0, x2), (0, x3)], [], h) Q
    refine WP.iload_n rfl rfl ?_
    refine WP.i2l rfl ?_
    refine WP.aload_n rfl rfl ⟨by decide, by decide⟩ ?_
    refine WP.getRF (b := 249) rfl rfl rfl ?_
    refine WP.bipush rfl ?_
    refine WP.laload rfl ⟨by decide, by decide, by decide⟩ (by decide) ?_
    refine WP.lcmp rfl ?_
    refine WP.nl_ge rfl (fun c1 => ?_) (fun c1 => ?_)
    · exact kk []
    · exact absurd (show x3 < h 249 13 from c1) hc
noncomputable def F_X12_overs (a1 : Int) (h : pH) : Int := (L_X12_overs_4 a1 h 0 0).1
noncomputable def P_X12_overs (a1 : Int) (h : pH) : Prop := O_X12_overs_4 a1 h 0 0
set_option maxHeartbeats 4000000 in
theorem w_X12_overs (a1 : Int) (h : pH) {Q : Option pV → pH → Prop} (hp : P_X12_overs a1 h) (kk : Q (some (0, F_X12_overs a1 h)) (h)) : WP 221 (0, [(14, 248), (0, a1), pU, pU], [], h) Q := by
  unfold P_X12_overs at hp
  have o10 := hp
  refine WP.iconst rfl ?_
  refine WP.istore_n (L' := [(14, 248), (0, a1), (0, 0), pU]) rfl rfl ?_
  refine WP.iconst rfl ?_
  refine WP.istore_n (L' := [(14, 248), (0, a1), (0, 0), (0, 0)]) rfl rfl ?_
  refine lp_X12_overs_4 a1 h 0 0 o10 (fun us11 => ?_) []
  show WP 221 (30, [(14, 248), (0, a1), (0, (L_X12_overs_4 a1 h 0 0).1), (0, (L_X12_overs_4 a1 h 0 0).2)], [], h) Q
  refine WP.iload_n rfl rfl ?_
  refine WP.reti rfl ?_; exact kk
theorem c_X12_overs (a1 : Int) (h : pH) (hp : P_X12_overs a1 h) : CP 221 [(14, 248), (0, a1)] h (fun r h1 => r = some (0, F_X12_overs a1 h) ∧ h1 = h) := w_X12_overs a1 h hp ⟨rfl, rfl⟩
def C_X0_greatestGauge_6 (a0 : Int) (h : pH) (x1 : Int) (x2 : Int) : Prop := x2 < 12
noncomputable def B_X0_greatestGauge_6 (a0 : Int) (h : pH) (x1 : Int) (x2 : Int) : Int × Int := (fx_max x1 (s_X0_gauge_1 a0 x2 h), x2 + 1)
noncomputable def P_X0_greatestGauge_6 (a0 : Int) (h : pH) (x1 : Int) (x2 : Int) : Prop := ((x2 < 12) → P_X0_gauge a0 x2 h ∧ (fx_i (x2 + 1)))
noncomputable def L_X0_greatestGauge_6 (a0 : Int) (h : pH) (x1 : Int) (x2 : Int) : Int × Int := fx_wh (σ := Int × Int) (fun s => C_X0_greatestGauge_6 a0 h s.1 s.2) (fun s => B_X0_greatestGauge_6 a0 h s.1 s.2) (x1, x2)
def O_X0_greatestGauge_6 (a0 : Int) (h : pH) (x1 : Int) (x2 : Int) : Prop := fx_ok (σ := Int × Int) (fun s => C_X0_greatestGauge_6 a0 h s.1 s.2) (fun s => B_X0_greatestGauge_6 a0 h s.1 s.2) (fun s => P_X0_greatestGauge_6 a0 h s.1 s.2) (x1, x2)
set_option maxHeartbeats 4000000 in
theorem lp_X0_greatestGauge_6 (a0 : Int) (h : pH) (x1 : Int) (x2 : Int) {Q : Option pV → pH → Prop} (hp : O_X0_greatestGauge_6 a0 h x1 x2) (kk : ∀ us : List pV, WP 5 (17, [(2, a0), (0, (L_X0_greatestGauge_6 a0 h x1 x2).1), (0, (L_X0_greatestGauge_6 a0 h x1 x2).2)], [], h) Q) : ∀ us : List pV, WP 5 (6, [(2, a0), (0, x1), (0, x2)], [], h) Q := by
  refine WP.wh (σ := Int × Int) (fun s => C_X0_greatestGauge_6 a0 h s.1 s.2) (fun s => B_X0_greatestGauge_6 a0 h s.1 s.2) (fun s => P_X0_greatestGauge_6 a0 h s.1 s.2) (fun s us => (6, [(2, a0), (0, s.1), (0, s.2)], [], h)) (x1, x2) hp ?_ ?_
  · intro s us hP hc kk
    obtain ⟨x1, x2⟩ := s
    change P_X0_greatestGauge_6 a0 h x1 x2 at hP
    change x2 < 12 at hc
    replace kk : ∀ (us' : List pV) (s' : Int × Int), s' = B_X0_greatestGauge_6 a0 h x1 x2 → WP 5 (6, [(2, a0), (0, s'.1), (0, s'.2)], [], h) Q := fun us' s' e => by subst e; exact kk us'
    unfold P_X0_greatestGauge_6 at hP
    obtain ⟨o4, o5⟩ := hP hc
    show WP 5 (6, [(2, a0), (0, x1), (0, x2)], [], h) Q
    refine WP.iload_n rfl rfl ?_
    refine WP.bipush rfl ?_
    refine WP.ni_ge rfl (fun c3 => ?_) (fun c3 => ?_)
    · exact absurd hc (Int.not_lt.mpr c3)
    · refine WP.iload_n rfl rfl ?_
      refine WP.aload_n rfl rfl ⟨by decide, by decide⟩ ?_
      refine WP.iload_n rfl rfl ?_
      refine WP.callF (c_X0_gauge a0 x2 h o4) rfl rfl (pm_cok rfl rfl (Or.inr ⟨_, _, rfl⟩) rfl rfl) rfl rfl ?_
      show WP 5 (13, [(2, a0), (0, x1), (0, x2)], [(0, s_X0_gauge_1 a0 x2 h), (0, x1)], h) Q
      refine WP.maxIF rfl rfl ?_
      refine WP.istore_n (L' := [(2, a0), (0, fx_max x1 (s_X0_gauge_1 a0 x2 h)), (0, x2)]) rfl rfl ?_
      refine WP.iincE (L' := [(2, a0), (0, fx_max x1 (s_X0_gauge_1 a0 x2 h)), (0, x2 + 1)]) rfl rfl o5 rfl ?_
      refine WP.goto rfl ?_
      exact kk [] (fx_max x1 (s_X0_gauge_1 a0 x2 h), x2 + 1) (rfl)
  · intro hP hc
    generalize hs : (L_X0_greatestGauge_6 a0 h x1 x2 : Int × Int) = s at kk
    change P_X0_greatestGauge_6 a0 h (L_X0_greatestGauge_6 a0 h x1 x2).1 (L_X0_greatestGauge_6 a0 h x1 x2).2 at hP
    change ¬ C_X0_greatestGauge_6 a0 h (L_X0_greatestGauge_6 a0 h x1 x2).1 (L_X0_greatestGauge_6 a0 h x1 x2).2 at hc
    intro us
    show WP 5 (6, [(2, a0), (0, (L_X0_greatestGauge_6 a0 h x1 x2).1), (0, (L_X0_greatestGauge_6 a0 h x1 x2).2)], [], h) Q
    rw [hs] at hP hc ⊢
    obtain ⟨x1, x2⟩ := s
    change P_X0_greatestGauge_6 a0 h x1 x2 at hP
    change ¬ (x2 < 12) at hc
    unfold P_X0_greatestGauge_6 at hP
    show WP 5 (6, [(2, a0), (0, x1), (0, x2)], [], h) Q
    refine WP.iload_n rfl rfl ?_
    refine WP.bipush rfl ?_
    refine WP.ni_ge rfl (fun c2 => ?_) (fun c2 => ?_)
    · exact kk []
    · exact absurd (show x2 < 12 from c2) hc
noncomputable def s_X0_greatestGauge_1 (a0 : Int) (h : pH) : Int := (L_X0_greatestGauge_6 a0 h (s_X0_gauge_1 a0 0 h) 1).1
noncomputable def s_X0_greatestGauge_2 (a0 : Int) (h : pH) : Int := (L_X0_greatestGauge_6 a0 h (s_X0_gauge_1 a0 0 h) 1).2
noncomputable def F_X0_greatestGauge (a0 : Int) (h : pH) : Int := s_X0_greatestGauge_1 a0 h
noncomputable def P_X0_greatestGauge (a0 : Int) (h : pH) : Prop := P_X0_gauge a0 0 h ∧ (O_X0_greatestGauge_6 a0 h (s_X0_gauge_1 a0 0 h) 1)
set_option maxHeartbeats 4000000 in
theorem w_X0_greatestGauge (a0 : Int) (h : pH) {Q : Option pV → pH → Prop} (hp : P_X0_greatestGauge a0 h) (kk : Q (some (0, F_X0_greatestGauge a0 h)) (h)) : WP 5 (0, [(2, a0), pU, pU], [], h) Q := by
  unfold P_X0_greatestGauge at hp
  obtain ⟨o1, o6⟩ := hp
  refine WP.aload_n rfl rfl ⟨by decide, by decide⟩ ?_
  refine WP.iconst rfl ?_
  refine WP.callF (c_X0_gauge a0 0 h o1) rfl rfl (pm_cok rfl rfl (Or.inr ⟨_, _, rfl⟩) rfl rfl) rfl rfl ?_
  show WP 5 (3, [(2, a0), pU, pU], [(0, s_X0_gauge_1 a0 0 h)], h) Q
  refine WP.istore_n (L' := [(2, a0), (0, s_X0_gauge_1 a0 0 h), pU]) rfl rfl ?_
  refine WP.iconst rfl ?_
  refine WP.istore_n (L' := [(2, a0), (0, s_X0_gauge_1 a0 0 h), (0, 1)]) rfl rfl ?_
  refine lp_X0_greatestGauge_6 a0 h (s_X0_gauge_1 a0 0 h) 1 o6 (fun us7 => ?_) []
  show WP 5 (17, [(2, a0), (0, s_X0_greatestGauge_1 a0 h), (0, s_X0_greatestGauge_2 a0 h)], [], h) Q
  refine WP.iload_n rfl rfl ?_
  refine WP.reti rfl ?_; exact kk
theorem c_X0_greatestGauge (a0 : Int) (h : pH) (hp : P_X0_greatestGauge a0 h) : CP 5 [(2, a0)] h (fun r h1 => r = some (0, F_X0_greatestGauge a0 h) ∧ h1 = h) := w_X0_greatestGauge a0 h hp ⟨rfl, rfl⟩
noncomputable def s_X0_moveAims_1 (a0 : Int) (a1 : Int) (x2 : Int) (h : pH) : pH := pm_upd h (a0 + 3) x2 (fx_max 0 (fx_min ((h (a0 + 3) x2) + a1) 5000))
def C_X0_moveAims_2 (a0 : Int) (a1 : Int) (x2 : Int) (h : pH) : Prop := x2 < 12
noncomputable def B_X0_moveAims_2 (a0 : Int) (a1 : Int) (x2 : Int) (h : pH) : Int × pH := (x2 + 1, s_X0_moveAims_1 a0 a1 x2 h)
noncomputable def P_X0_moveAims_2 (a0 : Int) (a1 : Int) (x2 : Int) (h : pH) : Prop := ((x2 < 12) → (0 ≤ x2 ∧ x2 < 12) ∧ (fx_i ((h (a0 + 3) x2) + a1)) ∧ (fx_i (x2 + 1)))
noncomputable def L_X0_moveAims_2 (a0 : Int) (a1 : Int) (x2 : Int) (h : pH) : Int × pH := fx_wh (σ := Int × pH) (fun s => C_X0_moveAims_2 a0 a1 s.1 s.2) (fun s => B_X0_moveAims_2 a0 a1 s.1 s.2) (x2, h)
def O_X0_moveAims_2 (a0 : Int) (a1 : Int) (x2 : Int) (h : pH) : Prop := fx_ok (σ := Int × pH) (fun s => C_X0_moveAims_2 a0 a1 s.1 s.2) (fun s => B_X0_moveAims_2 a0 a1 s.1 s.2) (fun s => P_X0_moveAims_2 a0 a1 s.1 s.2) (x2, h)
set_option maxHeartbeats 4000000 in
theorem lp_X0_moveAims_2 (a0 : Int) (a1 : Int) (x2 : Int) (h : pH) {Q : Option pV → pH → Prop} (hp : O_X0_moveAims_2 a0 a1 x2 h) (kk : ∀ us : List pV, WP 7 (19, [(2, a0), (0, a1), (0, (L_X0_moveAims_2 a0 a1 x2 h).1)], [], (L_X0_moveAims_2 a0 a1 x2 h).2) Q) : ∀ us : List pV, WP 7 (2, [(2, a0), (0, a1), (0, x2)], [], h) Q := by
  refine WP.wh (σ := Int × pH) (fun s => C_X0_moveAims_2 a0 a1 s.1 s.2) (fun s => B_X0_moveAims_2 a0 a1 s.1 s.2) (fun s => P_X0_moveAims_2 a0 a1 s.1 s.2) (fun s us => (2, [(2, a0), (0, a1), (0, s.1)], [], s.2)) (x2, h) hp ?_ ?_
  · intro s us hP hc kk
    obtain ⟨x2, h⟩ := s
    change P_X0_moveAims_2 a0 a1 x2 h at hP
    change x2 < 12 at hc
    replace kk : ∀ (us' : List pV) (s' : Int × pH), s' = B_X0_moveAims_2 a0 a1 x2 h → WP 7 (2, [(2, a0), (0, a1), (0, s'.1)], [], s'.2) Q := fun us' s' e => by subst e; exact kk us'
    unfold P_X0_moveAims_2 at hP
    obtain ⟨o3, o4, o5⟩ := hP hc
    show WP 7 (2, [(2, a0), (0, a1), (0, x2)], [], h) Q
    refine WP.iload_n rfl rfl ?_
    refine WP.bipush rfl ?_
    refine WP.ni_ge rfl (fun c2 => ?_) (fun c2 => ?_)
    · exact absurd hc (Int.not_lt.mpr c2)
    · refine WP.aload_n rfl rfl ⟨by decide, by decide⟩ ?_
      refine WP.getR rfl rfl ?_
      refine WP.iload_n rfl rfl ?_
      refine WP.aload_n rfl rfl ⟨by decide, by decide⟩ ?_
      refine WP.getR rfl rfl ?_
      refine WP.iload_n rfl rfl ?_
      refine WP.iaload rfl ⟨by decide, by decide, by decide⟩ o3 ?_
      refine WP.iload_n rfl rfl ?_
      refine WP.iaddE rfl o4 ?_
      refine WP.sipush rfl ?_
      refine WP.callF (c_X11_brought ((h (a0 + 3) x2) + a1) 5000 h) rfl rfl (pm_cok rfl rfl (Or.inl rfl) rfl rfl) rfl rfl ?_
      show WP 7 (16, [(2, a0), (0, a1), (0, x2)], [(0, fx_max 0 (fx_min ((h (a0 + 3) x2) + a1) 5000)), (0, x2), (1048, a0 + 3)], h) Q
      refine WP.iastore rfl ⟨by decide, by decide, by decide⟩ o3 ?_
      show WP 7 (17, [(2, a0), (0, a1), (0, x2)], [], s_X0_moveAims_1 a0 a1 x2 h) Q
      refine WP.iincE (L' := [(2, a0), (0, a1), (0, x2 + 1)]) rfl rfl o5 rfl ?_
      refine WP.goto rfl ?_
      exact kk [] (x2 + 1, s_X0_moveAims_1 a0 a1 x2 h) (rfl)
  · intro hP hc
    generalize hs : (L_X0_moveAims_2 a0 a1 x2 h : Int × pH) = s at kk
    change P_X0_moveAims_2 a0 a1 (L_X0_moveAims_2 a0 a1 x2 h).1 (L_X0_moveAims_2 a0 a1 x2 h).2 at hP
    change ¬ C_X0_moveAims_2 a0 a1 (L_X0_moveAims_2 a0 a1 x2 h).1 (L_X0_moveAims_2 a0 a1 x2 h).2 at hc
    intro us
    show WP 7 (2, [(2, a0), (0, a1), (0, (L_X0_moveAims_2 a0 a1 x2 h).1)], [], (L_X0_moveAims_2 a0 a1 x2 h).2) Q
    rw [hs] at hP hc ⊢
    obtain ⟨x2, h⟩ := s
    change P_X0_moveAims_2 a0 a1 x2 h at hP
    change ¬ (x2 < 12) at hc
    unfold P_X0_moveAims_2 at hP
    show WP 7 (2, [(2, a0), (0, a1), (0, x2)], [], h) Q
    refine WP.iload_n rfl rfl ?_
    refine WP.bipush rfl ?_
    refine WP.ni_ge rfl (fun c1 => ?_) (fun c1 => ?_)
    · exact kk []
    · exact absurd (show x2 < 12 from c1) hc
noncomputable def H_X0_moveAims (a0 : Int) (a1 : Int) (h : pH) : pH := (L_X0_moveAims_2 a0 a1 0 h).2
noncomputable def P_X0_moveAims (a0 : Int) (a1 : Int) (h : pH) : Prop := O_X0_moveAims_2 a0 a1 0 h
set_option maxHeartbeats 4000000 in
theorem w_X0_moveAims (a0 : Int) (a1 : Int) (h : pH) {Q : Option pV → pH → Prop} (hp : P_X0_moveAims a0 a1 h) (kk : Q (none) (H_X0_moveAims a0 a1 h)) : WP 7 (0, [(2, a0), (0, a1), pU], [], h) Q := by
  unfold P_X0_moveAims at hp
  have o6 := hp
  refine WP.iconst rfl ?_
  refine WP.istore_n (L' := [(2, a0), (0, a1), (0, 0)]) rfl rfl ?_
  refine lp_X0_moveAims_2 a0 a1 0 h o6 (fun us7 => ?_) []
  show WP 7 (19, [(2, a0), (0, a1), (0, (L_X0_moveAims_2 a0 a1 0 h).1)], [], (L_X0_moveAims_2 a0 a1 0 h).2) Q
  refine WP.retv rfl ?_; exact kk
theorem c_X0_moveAims (a0 : Int) (a1 : Int) (h : pH) (hp : P_X0_moveAims a0 a1 h) : CP 7 [(2, a0), (0, a1)] h (fun r h1 => r = none ∧ h1 = H_X0_moveAims a0 a1 h) := w_X0_moveAims a0 a1 h hp ⟨rfl, rfl⟩
noncomputable def s_X0_exchange_1 (a0 : Int) (a1 : Int) (a2 : Int) (h : pH) : pH := pm_upd h (a0 + 5) a1 ((h (a0 + 5) a1) - (Int.tdiv (((h (a0 + 1) a1) - (h (a0 + 1) a2)) * (h a0 7)) 1000))
noncomputable def s_X0_exchange_2 (a0 : Int) (a1 : Int) (a2 : Int) (h : pH) : pH := pm_upd (s_X0_exchange_1 a0 a1 a2 h) (a0 + 5) a2 (((s_X0_exchange_1 a0 a1 a2 h) (a0 + 5) a2) + (Int.tdiv (((h (a0 + 1) a1) - (h (a0 + 1) a2)) * (h a0 7)) 1000))
noncomputable def H_X0_exchange (a0 : Int) (a1 : Int) (a2 : Int) (h : pH) : pH := s_X0_exchange_2 a0 a1 a2 h
noncomputable def P_X0_exchange (a0 : Int) (a1 : Int) (a2 : Int) (h : pH) : Prop := (0 ≤ a1 ∧ a1 < 12) ∧ (0 ≤ a2 ∧ a2 < 12) ∧ (fx_i ((h (a0 + 1) a1) - (h (a0 + 1) a2))) ∧ (P_X0_part ((h (a0 + 1) a1) - (h (a0 + 1) a2)) (h a0 7) h) ∧ (fx_i ((h (a0 + 5) a1) - (Int.tdiv (((h (a0 + 1) a1) - (h (a0 + 1) a2)) * (h a0 7)) 1000))) ∧ (fx_i (((s_X0_exchange_1 a0 a1 a2 h) (a0 + 5) a2) + (Int.tdiv (((h (a0 + 1) a1) - (h (a0 + 1) a2)) * (h a0 7)) 1000)))
set_option maxHeartbeats 4000000 in
theorem w_X0_exchange (a0 : Int) (a1 : Int) (a2 : Int) (h : pH) {Q : Option pV → pH → Prop} (hp : P_X0_exchange a0 a1 a2 h) (kk : Q (none) (H_X0_exchange a0 a1 a2 h)) : WP 10 (0, [(2, a0), (0, a1), (0, a2), pU], [], h) Q := by
  unfold P_X0_exchange at hp
  obtain ⟨o1, o2, o3, o4, o5, o6⟩ := hp
  refine WP.aload_n rfl rfl ⟨by decide, by decide⟩ ?_
  refine WP.getR rfl rfl ?_
  refine WP.iload_n rfl rfl ?_
  refine WP.iaload rfl ⟨by decide, by decide, by decide⟩ o1 ?_
  refine WP.aload_n rfl rfl ⟨by decide, by decide⟩ ?_
  refine WP.getR rfl rfl ?_
  refine WP.iload_n rfl rfl ?_
  refine WP.iaload rfl ⟨by decide, by decide, by decide⟩ o2 ?_
  refine WP.isubE rfl o3 ?_
  refine WP.aload_n rfl rfl ⟨by decide, by decide⟩ ?_
  refine WP.getI rfl rfl ?_
  refine WP.callF (c_X0_part ((h (a0 + 1) a1) - (h (a0 + 1) a2)) (h a0 7) h o4) rfl rfl (pm_cok rfl rfl (Or.inl rfl) rfl rfl) rfl rfl ?_
  show WP 10 (12, [(2, a0), (0, a1), (0, a2), pU], [(0, Int.tdiv (((h (a0 + 1) a1) - (h (a0 + 1) a2)) * (h a0 7)) 1000)], h) Q
  refine WP.istore_n (L' := [(2, a0), (0, a1), (0, a2), (0, Int.tdiv (((h (a0 + 1) a1) - (h (a0 + 1) a2)) * (h a0 7)) 1000)]) rfl rfl ?_
  refine WP.aload_n rfl rfl ⟨by decide, by decide⟩ ?_
  refine WP.getR rfl rfl ?_
  refine WP.iload_n rfl rfl ?_
  refine WP.dup2 rfl (by decide) (by decide) ?_
  refine WP.iaload rfl ⟨by decide, by decide, by decide⟩ o1 ?_
  refine WP.iload_n rfl rfl ?_
  refine WP.isubE rfl o5 ?_
  refine WP.iastore rfl ⟨by decide, by decide, by decide⟩ o1 ?_
  show WP 10 (21, [(2, a0), (0, a1), (0, a2), (0, Int.tdiv (((h (a0 + 1) a1) - (h (a0 + 1) a2)) * (h a0 7)) 1000)], [], s_X0_exchange_1 a0 a1 a2 h) Q
  refine WP.aload_n rfl rfl ⟨by decide, by decide⟩ ?_
  refine WP.getR rfl rfl ?_
  refine WP.iload_n rfl rfl ?_
  refine WP.dup2 rfl (by decide) (by decide) ?_
  refine WP.iaload rfl ⟨by decide, by decide, by decide⟩ o2 ?_
  refine WP.iload_n rfl rfl ?_
  refine WP.iaddE rfl o6 ?_
  refine WP.iastore rfl ⟨by decide, by decide, by decide⟩ o2 ?_
  show WP 10 (29, [(2, a0), (0, a1), (0, a2), (0, Int.tdiv (((h (a0 + 1) a1) - (h (a0 + 1) a2)) * (h a0 7)) 1000)], [], s_X0_exchange_2 a0 a1 a2 h) Q
  refine WP.retv rfl ?_; exact kk
theorem c_X0_exchange (a0 : Int) (a1 : Int) (a2 : Int) (h : pH) (hp : P_X0_exchange a0 a1 a2 h) : CP 10 [(2, a0), (0, a1), (0, a2)] h (fun r h1 => r = none ∧ h1 = H_X0_exchange a0 a1 a2 h) := w_X0_exchange a0 a1 a2 h hp ⟨rfl, rfl⟩
noncomputable def s_X3_multiplyAll_1 (h : pH) : pH := pm_upd (fx_fill h (h 153 1) 13 0) ((fx_fill h (h 153 1) 13 0) 153 1) 0 1
def C_X3_multiplyAll_25 (a1 : Int) (a2 : Int) (a3 : Int) (x4 : Int) (y5 : Int) (x6 : Int) (h : pH) : Prop := x6 < h (a1 + 1) x4
noncomputable def B_X3_multiplyAll_25 (a1 : Int) (a2 : Int) (a3 : Int) (x4 : Int) (y5 : Int) (x6 : Int) (h : pH) : Int × pH := (x6 + 1, H_X3_multiply y5 h)
noncomputable def P_X3_multiplyAll_25 (a1 : Int) (a2 : Int) (a3 : Int) (x4 : Int) (y5 : Int) (x6 : Int) (h : pH) : Prop := ((0 ≤ x4 ∧ x4 < 10)) ∧ ((x6 < h (a1 + 1) x4) → (P_X3_multiply y5 h ∧ (fx_i (x6 + 1))))
noncomputable def L_X3_multiplyAll_25 (a1 : Int) (a2 : Int) (a3 : Int) (x4 : Int) (y5 : Int) (x6 : Int) (h : pH) : Int × pH := fx_wh (σ := Int × pH) (fun s => C_X3_multiplyAll_25 a1 a2 a3 x4 y5 s.1 s.2) (fun s => B_X3_multiplyAll_25 a1 a2 a3 x4 y5 s.1 s.2) (x6, h)
def O_X3_multiplyAll_25 (a1 : Int) (a2 : Int) (a3 : Int) (x4 : Int) (y5 : Int) (x6 : Int) (h : pH) : Prop := fx_ok (σ := Int × pH) (fun s => C_X3_multiplyAll_25 a1 a2 a3 x4 y5 s.1 s.2) (fun s => B_X3_multiplyAll_25 a1 a2 a3 x4 y5 s.1 s.2) (fun s => P_X3_multiplyAll_25 a1 a2 a3 x4 y5 s.1 s.2) (x6, h)
set_option maxHeartbeats 4000000 in
theorem lp_X3_multiplyAll_25 (a1 : Int) (a2 : Int) (a3 : Int) (x4 : Int) (y5 : Int) (x6 : Int) (h : pH) {Q : Option pV → pH → Prop} (hp : O_X3_multiplyAll_25 a1 a2 a3 x4 y5 x6 h) (kk : ∀ us : List pV, WP 15 (36, [(5, 153), (7, a1), (0, a2), (0, a3), (0, x4), (0, y5), (0, (L_X3_multiplyAll_25 a1 a2 a3 x4 y5 x6 h).1)], [], (L_X3_multiplyAll_25 a1 a2 a3 x4 y5 x6 h).2) Q) : ∀ us : List pV, WP 15 (25, [(5, 153), (7, a1), (0, a2), (0, a3), (0, x4), (0, y5), (0, x6)], [], h) Q := by
  refine WP.wh (σ := Int × pH) (fun s => C_X3_multiplyAll_25 a1 a2 a3 x4 y5 s.1 s.2) (fun s => B_X3_multiplyAll_25 a1 a2 a3 x4 y5 s.1 s.2) (fun s => P_X3_multiplyAll_25 a1 a2 a3 x4 y5 s.1 s.2) (fun s us => (25, [(5, 153), (7, a1), (0, a2), (0, a3), (0, x4), (0, y5), (0, s.1)], [], s.2)) (x6, h) hp ?_ ?_
  · intro s us hP hc kk
    obtain ⟨x6, h⟩ := s
    change P_X3_multiplyAll_25 a1 a2 a3 x4 y5 x6 h at hP
    change x6 < h (a1 + 1) x4 at hc
    replace kk : ∀ (us' : List pV) (s' : Int × pH), s' = B_X3_multiplyAll_25 a1 a2 a3 x4 y5 x6 h → WP 15 (25, [(5, 153), (7, a1), (0, a2), (0, a3), (0, x4), (0, y5), (0, s'.1)], [], s'.2) Q := fun us' s' e => by subst e; exact kk us'
    unfold P_X3_multiplyAll_25 at hP
    obtain ⟨hPc, hPb⟩ := hP
    have o5 := hPc
    obtain ⟨o8, o9⟩ := hPb hc
    show WP 15 (25, [(5, 153), (7, a1), (0, a2), (0, a3), (0, x4), (0, y5), (0, x6)], [], h) Q
    refine WP.iload rfl rfl ?_
    refine WP.aload_n rfl rfl ⟨by decide, by decide⟩ ?_
    refine WP.getR rfl rfl ?_
    refine WP.iload rfl rfl ?_
    refine WP.iaload rfl ⟨by decide, by decide, by decide⟩ o5 ?_
    refine WP.ni_ge rfl (fun c7 => ?_) (fun c7 => ?_)
    · exact absurd hc (Int.not_lt.mpr c7)
    · refine WP.aload_n rfl rfl ⟨by decide, by decide⟩ ?_
      refine WP.iload rfl rfl ?_
      refine WP.callF (c_X3_multiply y5 h o8) rfl rfl (pm_cok rfl rfl (Or.inr ⟨_, _, rfl⟩) rfl rfl) rfl rfl ?_
      show WP 15 (34, [(5, 153), (7, a1), (0, a2), (0, a3), (0, x4), (0, y5), (0, x6)], [], H_X3_multiply y5 h) Q
      refine WP.iincE (L' := [(5, 153), (7, a1), (0, a2), (0, a3), (0, x4), (0, y5), (0, x6 + 1)]) rfl rfl o9 rfl ?_
      refine WP.goto rfl ?_
      exact kk [] (x6 + 1, H_X3_multiply y5 h) (rfl)
  · intro hP hc
    generalize hs : (L_X3_multiplyAll_25 a1 a2 a3 x4 y5 x6 h : Int × pH) = s at kk
    change P_X3_multiplyAll_25 a1 a2 a3 x4 y5 (L_X3_multiplyAll_25 a1 a2 a3 x4 y5 x6 h).1 (L_X3_multiplyAll_25 a1 a2 a3 x4 y5 x6 h).2 at hP
    change ¬ C_X3_multiplyAll_25 a1 a2 a3 x4 y5 (L_X3_multiplyAll_25 a1 a2 a3 x4 y5 x6 h).1 (L_X3_multiplyAll_25 a1 a2 a3 x4 y5 x6 h).2 at hc
    intro us
    show WP 15 (25, [(5, 153), (7, a1), (0, a2), (0, a3), (0, x4), (0, y5), (0, (L_X3_multiplyAll_25 a1 a2 a3 x4 y5 x6 h).1)], [], (L_X3_multiplyAll_25 a1 a2 a3 x4 y5 x6 h).2) Q
    rw [hs] at hP hc ⊢
    obtain ⟨x6, h⟩ := s
    change P_X3_multiplyAll_25 a1 a2 a3 x4 y5 x6 h at hP
    change ¬ (x6 < h (a1 + 1) x4) at hc
    unfold P_X3_multiplyAll_25 at hP
    have o5 := hP.1
    show WP 15 (25, [(5, 153), (7, a1), (0, a2), (0, a3), (0, x4), (0, y5), (0, x6)], [], h) Q
    refine WP.iload rfl rfl ?_
    refine WP.aload_n rfl rfl ⟨by decide, by decide⟩ ?_
    refine WP.getR rfl rfl ?_
    refine WP.iload rfl rfl ?_
    refine WP.iaload rfl ⟨by decide, by decide, by decide⟩ o5 ?_
    refine WP.ni_ge rfl (fun c6 => ?_) (fun c6 => ?_)
    · exact kk []
    · exact absurd (show x6 < h (a1 + 1) x4 from c6) hc
noncomputable def s_X3_multiplyAll_2 (a1 : Int) (a2 : Int) (a3 : Int) (x4 : Int) (h : pH) : Int := (L_X3_multiplyAll_25 a1 a2 a3 x4 (a2 + (a3 * x4)) 0 h).1
noncomputable def s_X3_multiplyAll_3 (a1 : Int) (a2 : Int) (a3 : Int) (x4 : Int) (h : pH) : pH := (L_X3_multiplyAll_25 a1 a2 a3 x4 (a2 + (a3 * x4)) 0 h).2
def C_X3_multiplyAll_38 (a1 : Int) (a2 : Int) (a3 : Int) (x4 : Int) (y5 : Int) (x6 : Int) (h : pH) : Prop := x6 < h (a1 + 2) x4
noncomputable def B_X3_multiplyAll_38 (a1 : Int) (a2 : Int) (a3 : Int) (x4 : Int) (y5 : Int) (x6 : Int) (h : pH) : Int × pH := (x6 + 1, H_X3_multiply (1000 - y5) h)
noncomputable def P_X3_multiplyAll_38 (a1 : Int) (a2 : Int) (a3 : Int) (x4 : Int) (y5 : Int) (x6 : Int) (h : pH) : Prop := ((0 ≤ x4 ∧ x4 < 10)) ∧ ((x6 < h (a1 + 2) x4) → ((fx_i (1000 - y5)) ∧ (P_X3_multiply (1000 - y5) h) ∧ (fx_i (x6 + 1))))
noncomputable def L_X3_multiplyAll_38 (a1 : Int) (a2 : Int) (a3 : Int) (x4 : Int) (y5 : Int) (x6 : Int) (h : pH) : Int × pH := fx_wh (σ := Int × pH) (fun s => C_X3_multiplyAll_38 a1 a2 a3 x4 y5 s.1 s.2) (fun s => B_X3_multiplyAll_38 a1 a2 a3 x4 y5 s.1 s.2) (x6, h)
def O_X3_multiplyAll_38 (a1 : Int) (a2 : Int) (a3 : Int) (x4 : Int) (y5 : Int) (x6 : Int) (h : pH) : Prop := fx_ok (σ := Int × pH) (fun s => C_X3_multiplyAll_38 a1 a2 a3 x4 y5 s.1 s.2) (fun s => B_X3_multiplyAll_38 a1 a2 a3 x4 y5 s.1 s.2) (fun s => P_X3_multiplyAll_38 a1 a2 a3 x4 y5 s.1 s.2) (x6, h)
set_option maxHeartbeats 4000000 in
theorem lp_X3_multiplyAll_38 (a1 : Int) (a2 : Int) (a3 : Int) (x4 : Int) (y5 : Int) (x6 : Int) (h : pH) {Q : Option pV → pH → Prop} (hp : O_X3_multiplyAll_38 a1 a2 a3 x4 y5 x6 h) (kk : ∀ us : List pV, WP 15 (51, [(5, 153), (7, a1), (0, a2), (0, a3), (0, x4), (0, y5), (0, (L_X3_multiplyAll_38 a1 a2 a3 x4 y5 x6 h).1)], [], (L_X3_multiplyAll_38 a1 a2 a3 x4 y5 x6 h).2) Q) : ∀ us : List pV, WP 15 (38, [(5, 153), (7, a1), (0, a2), (0, a3), (0, x4), (0, y5), (0, x6)], [], h) Q := by
  refine WP.wh (σ := Int × pH) (fun s => C_X3_multiplyAll_38 a1 a2 a3 x4 y5 s.1 s.2) (fun s => B_X3_multiplyAll_38 a1 a2 a3 x4 y5 s.1 s.2) (fun s => P_X3_multiplyAll_38 a1 a2 a3 x4 y5 s.1 s.2) (fun s us => (38, [(5, 153), (7, a1), (0, a2), (0, a3), (0, x4), (0, y5), (0, s.1)], [], s.2)) (x6, h) hp ?_ ?_
  · intro s us hP hc kk
    obtain ⟨x6, h⟩ := s
    change P_X3_multiplyAll_38 a1 a2 a3 x4 y5 x6 h at hP
    change x6 < h (a1 + 2) x4 at hc
    replace kk : ∀ (us' : List pV) (s' : Int × pH), s' = B_X3_multiplyAll_38 a1 a2 a3 x4 y5 x6 h → WP 15 (38, [(5, 153), (7, a1), (0, a2), (0, a3), (0, x4), (0, y5), (0, s'.1)], [], s'.2) Q := fun us' s' e => by subst e; exact kk us'
    unfold P_X3_multiplyAll_38 at hP
    obtain ⟨hPc, hPb⟩ := hP
    have o12 := hPc
    obtain ⟨o15, o16, o17⟩ := hPb hc
    show WP 15 (38, [(5, 153), (7, a1), (0, a2), (0, a3), (0, x4), (0, y5), (0, x6)], [], h) Q
    refine WP.iload rfl rfl ?_
    refine WP.aload_n rfl rfl ⟨by decide, by decide⟩ ?_
    refine WP.getR rfl rfl ?_
    refine WP.iload rfl rfl ?_
    refine WP.iaload rfl ⟨by decide, by decide, by decide⟩ o12 ?_
    refine WP.ni_ge rfl (fun c14 => ?_) (fun c14 => ?_)
    · exact absurd hc (Int.not_lt.mpr c14)
    · refine WP.aload_n rfl rfl ⟨by decide, by decide⟩ ?_
      refine WP.sipush rfl ?_
      refine WP.iload rfl rfl ?_
      refine WP.isubE rfl o15 ?_
      refine WP.callF (c_X3_multiply (1000 - y5) h o16) rfl rfl (pm_cok rfl rfl (Or.inr ⟨_, _, rfl⟩) rfl rfl) rfl rfl ?_
      show WP 15 (49, [(5, 153), (7, a1), (0, a2), (0, a3), (0, x4), (0, y5), (0, x6)], [], H_X3_multiply (1000 - y5) h) Q
      refine WP.iincE (L' := [(5, 153), (7, a1), (0, a2), (0, a3), (0, x4), (0, y5), (0, x6 + 1)]) rfl rfl o17 rfl ?_
      refine WP.goto rfl ?_
      exact kk [] (x6 + 1, H_X3_multiply (1000 - y5) h) (rfl)
  · intro hP hc
    generalize hs : (L_X3_multiplyAll_38 a1 a2 a3 x4 y5 x6 h : Int × pH) = s at kk
    change P_X3_multiplyAll_38 a1 a2 a3 x4 y5 (L_X3_multiplyAll_38 a1 a2 a3 x4 y5 x6 h).1 (L_X3_multiplyAll_38 a1 a2 a3 x4 y5 x6 h).2 at hP
    change ¬ C_X3_multiplyAll_38 a1 a2 a3 x4 y5 (L_X3_multiplyAll_38 a1 a2 a3 x4 y5 x6 h).1 (L_X3_multiplyAll_38 a1 a2 a3 x4 y5 x6 h).2 at hc
    intro us
    show WP 15 (38, [(5, 153), (7, a1), (0, a2), (0, a3), (0, x4), (0, y5), (0, (L_X3_multiplyAll_38 a1 a2 a3 x4 y5 x6 h).1)], [], (L_X3_multiplyAll_38 a1 a2 a3 x4 y5 x6 h).2) Q
    rw [hs] at hP hc ⊢
    obtain ⟨x6, h⟩ := s
    change P_X3_multiplyAll_38 a1 a2 a3 x4 y5 x6 h at hP
    change ¬ (x6 < h (a1 + 2) x4) at hc
    unfold P_X3_multiplyAll_38 at hP
    have o12 := hP.1
    show WP 15 (38, [(5, 153), (7, a1), (0, a2), (0, a3), (0, x4), (0, y5), (0, x6)], [], h) Q
    refine WP.iload rfl rfl ?_
    refine WP.aload_n rfl rfl ⟨by decide, by decide⟩ ?_
    refine WP.getR rfl rfl ?_
    refine WP.iload rfl rfl ?_
    refine WP.iaload rfl ⟨by decide, by decide, by decide⟩ o12 ?_
    refine WP.ni_ge rfl (fun c13 => ?_) (fun c13 => ?_)
    · exact kk []
    · exact absurd (show x6 < h (a1 + 2) x4 from c13) hc
noncomputable def s_X3_multiplyAll_4 (a1 : Int) (a2 : Int) (a3 : Int) (x4 : Int) (h : pH) : Int := (L_X3_multiplyAll_38 a1 a2 a3 x4 (a2 + (a3 * x4)) 0 (s_X3_multiplyAll_3 a1 a2 a3 x4 h)).1
noncomputable def s_X3_multiplyAll_5 (a1 : Int) (a2 : Int) (a3 : Int) (x4 : Int) (h : pH) : pH := (L_X3_multiplyAll_38 a1 a2 a3 x4 (a2 + (a3 * x4)) 0 (s_X3_multiplyAll_3 a1 a2 a3 x4 h)).2
def C_X3_multiplyAll_14 (a1 : Int) (a2 : Int) (a3 : Int) (x4 : Int) (h : pH) : Prop := x4 < 10
noncomputable def B_X3_multiplyAll_14 (a1 : Int) (a2 : Int) (a3 : Int) (x4 : Int) (h : pH) : Int × pH := (x4 + 1, s_X3_multiplyAll_5 a1 a2 a3 x4 h)
noncomputable def P_X3_multiplyAll_14 (a1 : Int) (a2 : Int) (a3 : Int) (x4 : Int) (h : pH) : Prop := ((x4 < 10) → (fx_i (a3 * x4)) ∧ (fx_i (a2 + (a3 * x4))) ∧ (O_X3_multiplyAll_25 a1 a2 a3 x4 (a2 + (a3 * x4)) 0 h) ∧ (O_X3_multiplyAll_38 a1 a2 a3 x4 (a2 + (a3 * x4)) 0 (s_X3_multiplyAll_3 a1 a2 a3 x4 h)) ∧ (fx_i (x4 + 1)))
noncomputable def L_X3_multiplyAll_14 (a1 : Int) (a2 : Int) (a3 : Int) (x4 : Int) (h : pH) : Int × pH := fx_wh (σ := Int × pH) (fun s => C_X3_multiplyAll_14 a1 a2 a3 s.1 s.2) (fun s => B_X3_multiplyAll_14 a1 a2 a3 s.1 s.2) (x4, h)
def O_X3_multiplyAll_14 (a1 : Int) (a2 : Int) (a3 : Int) (x4 : Int) (h : pH) : Prop := fx_ok (σ := Int × pH) (fun s => C_X3_multiplyAll_14 a1 a2 a3 s.1 s.2) (fun s => B_X3_multiplyAll_14 a1 a2 a3 s.1 s.2) (fun s => P_X3_multiplyAll_14 a1 a2 a3 s.1 s.2) (x4, h)
set_option maxHeartbeats 4000000 in
theorem lp_X3_multiplyAll_14 (a1 : Int) (a2 : Int) (a3 : Int) (x4 : Int) (h : pH) {Q : Option pV → pH → Prop} (hp : O_X3_multiplyAll_14 a1 a2 a3 x4 h) (kk : ∀ us : List pV, WP 15 (53, [(5, 153), (7, a1), (0, a2), (0, a3), (0, (L_X3_multiplyAll_14 a1 a2 a3 x4 h).1), us.getD 0 pU, us.getD 1 pU], [], (L_X3_multiplyAll_14 a1 a2 a3 x4 h).2) Q) : ∀ us : List pV, WP 15 (14, [(5, 153), (7, a1), (0, a2), (0, a3), (0, x4), us.getD 0 pU, us.getD 1 pU], [], h) Q := by
  refine WP.wh (σ := Int × pH) (fun s => C_X3_multiplyAll_14 a1 a2 a3 s.1 s.2) (fun s => B_X3_multiplyAll_14 a1 a2 a3 s.1 s.2) (fun s => P_X3_multiplyAll_14 a1 a2 a3 s.1 s.2) (fun s us => (14, [(5, 153), (7, a1), (0, a2), (0, a3), (0, s.1), us.getD 0 pU, us.getD 1 pU], [], s.2)) (x4, h) hp ?_ ?_
  · intro s us hP hc kk
    obtain ⟨x4, h⟩ := s
    change P_X3_multiplyAll_14 a1 a2 a3 x4 h at hP
    change x4 < 10 at hc
    replace kk : ∀ (us' : List pV) (s' : Int × pH), s' = B_X3_multiplyAll_14 a1 a2 a3 x4 h → WP 15 (14, [(5, 153), (7, a1), (0, a2), (0, a3), (0, s'.1), us'.getD 0 pU, us'.getD 1 pU], [], s'.2) Q := fun us' s' e => by subst e; exact kk us'
    unfold P_X3_multiplyAll_14 at hP
    obtain ⟨o3, o4, o10, o18, o20⟩ := hP hc
    show WP 15 (14, [(5, 153), (7, a1), (0, a2), (0, a3), (0, x4), us.getD 0 pU, us.getD 1 pU], [], h) Q
    refine WP.iload rfl rfl ?_
    refine WP.bipush rfl ?_
    refine WP.ni_ge rfl (fun c2 => ?_) (fun c2 => ?_)
    · exact absurd hc (Int.not_lt.mpr c2)
    · refine WP.iload_n rfl rfl ?_
      refine WP.iload_n rfl rfl ?_
      refine WP.iload rfl rfl ?_
      refine WP.imulE rfl o3 ?_
      refine WP.iaddE rfl o4 ?_
      refine WP.istore (L' := [(5, 153), (7, a1), (0, a2), (0, a3), (0, x4), (0, a2 + (a3 * x4)), us.getD 1 pU]) rfl rfl ?_
      refine WP.iconst rfl ?_
      refine WP.istore (L' := [(5, 153), (7, a1), (0, a2), (0, a3), (0, x4), (0, a2 + (a3 * x4)), (0, 0)]) rfl rfl ?_
      refine lp_X3_multiplyAll_25 a1 a2 a3 x4 (a2 + (a3 * x4)) 0 h o10 (fun us11 => ?_) []
      show WP 15 (36, [(5, 153), (7, a1), (0, a2), (0, a3), (0, x4), (0, a2 + (a3 * x4)), (0, s_X3_multiplyAll_2 a1 a2 a3 x4 h)], [], s_X3_multiplyAll_3 a1 a2 a3 x4 h) Q
      refine WP.iconst rfl ?_
      refine WP.istore (L' := [(5, 153), (7, a1), (0, a2), (0, a3), (0, x4), (0, a2 + (a3 * x4)), (0, 0)]) rfl rfl ?_
      refine lp_X3_multiplyAll_38 a1 a2 a3 x4 (a2 + (a3 * x4)) 0 (s_X3_multiplyAll_3 a1 a2 a3 x4 h) o18 (fun us19 => ?_) []
      show WP 15 (51, [(5, 153), (7, a1), (0, a2), (0, a3), (0, x4), (0, a2 + (a3 * x4)), (0, s_X3_multiplyAll_4 a1 a2 a3 x4 h)], [], s_X3_multiplyAll_5 a1 a2 a3 x4 h) Q
      refine WP.iincE (L' := [(5, 153), (7, a1), (0, a2), (0, a3), (0, x4 + 1), (0, a2 + (a3 * x4)), (0, s_X3_multiplyAll_4 a1 a2 a3 x4 h)]) rfl rfl o20 rfl ?_
      refine WP.goto rfl ?_
      exact kk [(0, a2 + (a3 * x4)), (0, s_X3_multiplyAll_4 a1 a2 a3 x4 h)] (x4 + 1, s_X3_multiplyAll_5 a1 a2 a3 x4 h) (rfl)
  · intro hP hc
    generalize hs : (L_X3_multiplyAll_14 a1 a2 a3 x4 h : Int × pH) = s at kk
    change P_X3_multiplyAll_14 a1 a2 a3 (L_X3_multiplyAll_14 a1 a2 a3 x4 h).1 (L_X3_multiplyAll_14 a1 a2 a3 x4 h).2 at hP
    change ¬ C_X3_multiplyAll_14 a1 a2 a3 (L_X3_multiplyAll_14 a1 a2 a3 x4 h).1 (L_X3_multiplyAll_14 a1 a2 a3 x4 h).2 at hc
    intro us
    show WP 15 (14, [(5, 153), (7, a1), (0, a2), (0, a3), (0, (L_X3_multiplyAll_14 a1 a2 a3 x4 h).1), us.getD 0 pU, us.getD 1 pU], [], (L_X3_multiplyAll_14 a1 a2 a3 x4 h).2) Q
    rw [hs] at hP hc ⊢
    obtain ⟨x4, h⟩ := s
    change P_X3_multiplyAll_14 a1 a2 a3 x4 h at hP
    change ¬ (x4 < 10) at hc
    unfold P_X3_multiplyAll_14 at hP
    show WP 15 (14, [(5, 153), (7, a1), (0, a2), (0, a3), (0, x4), us.getD 0 pU, us.getD 1 pU], [], h) Q
    refine WP.iload rfl rfl ?_
    refine WP.bipush rfl ?_
    refine WP.ni_ge rfl (fun c1 => ?_) (fun c1 => ?_)
    · exact kk [us.getD 0 pU, us.getD 1 pU]
    · exact absurd (show x4 < 10 from c1) hc
noncomputable def s_X3_multiplyAll_6 (a1 : Int) (a2 : Int) (a3 : Int) (h : pH) : Int := (L_X3_multiplyAll_14 a1 a2 a3 0 (pm_upd (s_X3_multiplyAll_1 h) 153 2 1)).1
noncomputable def s_X3_multiplyAll_7 (a1 : Int) (a2 : Int) (a3 : Int) (h : pH) : pH := (L_X3_multiplyAll_14 a1 a2 a3 0 (pm_upd (s_X3_multiplyAll_1 h) 153 2 1)).2
noncomputable def H_X3_multiplyAll (a1 : Int) (a2 : Int) (a3 : Int) (h : pH) : pH := s_X3_multiplyAll_7 a1 a2 a3 h
noncomputable def P_X3_multiplyAll (a1 : Int) (a2 : Int) (a3 : Int) (h : pH) : Prop := (O_X3_multiplyAll_14 a1 a2 a3 0 (pm_upd (s_X3_multiplyAll_1 h) 153 2 1))
set_option maxHeartbeats 4000000 in
theorem w_X3_multiplyAll (a1 : Int) (a2 : Int) (a3 : Int) (h : pH) {Q : Option pV → pH → Prop} (hp : P_X3_multiplyAll a1 a2 a3 h) (kk : Q (none) (H_X3_multiplyAll a1 a2 a3 h)) : WP 15 (0, [(5, 153), (7, a1), (0, a2), (0, a3), pU, pU, pU], [], h) Q := by
  unfold P_X3_multiplyAll at hp
  have o21 := hp
  refine WP.aload_n rfl rfl ⟨by decide, by decide⟩ ?_
  refine WP.getD rfl rfl ?_
  refine WP.lconst rfl ?_
  refine WP.callF (c_J7_fill_J 1053 (h 153 1) 0 _ ⟨by decide, by decide, by decide⟩ rfl (by decide)) rfl rfl (pm_cok rfl rfl (Or.inl rfl) rfl rfl) rfl rfl ?_
  show WP 15 (4, [(5, 153), (7, a1), (0, a2), (0, a3), pU, pU, pU], [], fx_fill h (h 153 1) 13 0) Q
  refine WP.aload_n rfl rfl ⟨by decide, by decide⟩ ?_
  refine WP.getD rfl rfl ?_
  refine WP.iconst rfl ?_
  refine WP.lconst rfl ?_
  refine WP.lastore rfl ⟨by decide, by decide, by decide⟩ (by decide) ?_
  show WP 15 (9, [(5, 153), (7, a1), (0, a2), (0, a3), pU, pU, pU], [], s_X3_multiplyAll_1 h) Q
  refine WP.aload_n rfl rfl ⟨by decide, by decide⟩ ?_
  refine WP.iconst rfl ?_
  refine WP.putI rfl rfl ?_
  refine WP.iconst rfl ?_
  refine WP.istore (L' := [(5, 153), (7, a1), (0, a2), (0, a3), (0, 0), pU, pU]) rfl rfl ?_
  refine lp_X3_multiplyAll_14 a1 a2 a3 0 (pm_upd (s_X3_multiplyAll_1 h) 153 2 1) o21 (fun us22 => ?_) [pU, pU]
  show WP 15 (53, [(5, 153), (7, a1), (0, a2), (0, a3), (0, s_X3_multiplyAll_6 a1 a2 a3 h), us22.getD 0 pU, us22.getD 1 pU], [], s_X3_multiplyAll_7 a1 a2 a3 h) Q
  refine WP.retv rfl ?_; exact kk
theorem c_X3_multiplyAll (a1 : Int) (a2 : Int) (a3 : Int) (h : pH) (hp : P_X3_multiplyAll a1 a2 a3 h) : CP 15 [(5, 153), (7, a1), (0, a2), (0, a3)] h (fun r h1 => r = none ∧ h1 = H_X3_multiplyAll a1 a2 a3 h) := w_X3_multiplyAll a1 a2 a3 h hp ⟨rfl, rfl⟩
noncomputable def s_X4_copyFrom_1 (a0 : Int) (a1 : Int) (h : pH) : pH := H_X6_copyFrom (a0 + 7) (a1 + 7) (H_X0_copyFrom (a0 + 1) (a1 + 1) h)
noncomputable def s_X4_copyFrom_2 (a0 : Int) (a1 : Int) (h : pH) : pH := H_X10_copyFrom (a0 + 21) (a1 + 21) (H_X8_copyFrom (a0 + 18) (a1 + 18) (s_X4_copyFrom_1 a0 a1 h))
noncomputable def s_X4_copyFrom_3 (a0 : Int) (a1 : Int) (h : pH) : pH := H_X5_copyFrom (a0 + 42) (a1 + 42) (H_X9_copyFrom (a0 + 37) (a1 + 37) (s_X4_copyFrom_2 a0 a1 h))
noncomputable def s_X4_copyFrom_4 (a0 : Int) (a1 : Int) (h : pH) : pH := pm_upd (s_X4_copyFrom_3 a0 a1 h) a0 7 ((s_X4_copyFrom_3 a0 a1 h) a1 7)
noncomputable def s_X4_copyFrom_5 (a0 : Int) (a1 : Int) (h : pH) : pH := pm_upd (s_X4_copyFrom_4 a0 a1 h) a0 8 ((s_X4_copyFrom_4 a0 a1 h) a1 8)
noncomputable def H_X4_copyFrom (a0 : Int) (a1 : Int) (h : pH) : pH := s_X4_copyFrom_5 a0 a1 h
set_option maxHeartbeats 4000000 in
theorem w_X4_copyFrom (a0 : Int) (a1 : Int) (h : pH) {Q : Option pV → pH → Prop} (kk : Q (none) (H_X4_copyFrom a0 a1 h)) : WP 18 (0, [(6, a0), (6, a1)], [], h) Q := by
  refine WP.aload_n rfl rfl ⟨by decide, by decide⟩ ?_
  refine WP.getR rfl rfl ?_
  refine WP.aload_n rfl rfl ⟨by decide, by decide⟩ ?_
  refine WP.getR rfl rfl ?_
  refine WP.callF (c_X0_copyFrom (a0 + 1) (a1 + 1) h) rfl rfl (pm_cok rfl rfl (Or.inr ⟨_, _, rfl⟩) rfl rfl) rfl rfl ?_
  show WP 18 (5, [(6, a0), (6, a1)], [], H_X0_copyFrom (a0 + 1) (a1 + 1) h) Q
  refine WP.aload_n rfl rfl ⟨by decide, by decide⟩ ?_
  refine WP.getR rfl rfl ?_
  refine WP.aload_n rfl rfl ⟨by decide, by decide⟩ ?_
  refine WP.getR rfl rfl ?_
  refine WP.callF (c_X6_copyFrom (a0 + 7) (a1 + 7) (H_X0_copyFrom (a0 + 1) (a1 + 1) h)) rfl rfl (pm_cok rfl rfl (Or.inr ⟨_, _, rfl⟩) rfl rfl) rfl rfl ?_
  show WP 18 (10, [(6, a0), (6, a1)], [], s_X4_copyFrom_1 a0 a1 h) Q
  refine WP.aload_n rfl rfl ⟨by decide, by decide⟩ ?_
  refine WP.getR rfl rfl ?_
  refine WP.aload_n rfl rfl ⟨by decide, by decide⟩ ?_
  refine WP.getR rfl rfl ?_
  refine WP.callF (c_X8_copyFrom (a0 + 18) (a1 + 18) (s_X4_copyFrom_1 a0 a1 h)) rfl rfl (pm_cok rfl rfl (Or.inr ⟨_, _, rfl⟩) rfl rfl) rfl rfl ?_
  show WP 18 (15, [(6, a0), (6, a1)], [], H_X8_copyFrom (a0 + 18) (a1 + 18) (s_X4_copyFrom_1 a0 a1 h)) Q
  refine WP.aload_n rfl rfl ⟨by decide, by decide⟩ ?_
  refine WP.getR rfl rfl ?_
  refine WP.aload_n rfl rfl ⟨by decide, by decide⟩ ?_
  refine WP.getR rfl rfl ?_
  refine WP.callF (c_X10_copyFrom (a0 + 21) (a1 + 21) (H_X8_copyFrom (a0 + 18) (a1 + 18) (s_X4_copyFrom_1 a0 a1 h))) rfl rfl (pm_cok rfl rfl (Or.inr ⟨_, _, rfl⟩) rfl rfl) rfl rfl ?_
  show WP 18 (20, [(6, a0), (6, a1)], [], s_X4_copyFrom_2 a0 a1 h) Q
  refine WP.aload_n rfl rfl ⟨by decide, by decide⟩ ?_
  refine WP.getR rfl rfl ?_
  refine WP.aload_n rfl rfl ⟨by decide, by decide⟩ ?_
  refine WP.getR rfl rfl ?_
  refine WP.callF (c_X9_copyFrom (a0 + 37) (a1 + 37) (s_X4_copyFrom_2 a0 a1 h)) rfl rfl (pm_cok rfl rfl (Or.inr ⟨_, _, rfl⟩) rfl rfl) rfl rfl ?_
  show WP 18 (25, [(6, a0), (6, a1)], [], H_X9_copyFrom (a0 + 37) (a1 + 37) (s_X4_copyFrom_2 a0 a1 h)) Q
  refine WP.aload_n rfl rfl ⟨by decide, by decide⟩ ?_
  refine WP.getR rfl rfl ?_
  refine WP.aload_n rfl rfl ⟨by decide, by decide⟩ ?_
  refine WP.getR rfl rfl ?_
  refine WP.callF (c_X5_copyFrom (a0 + 42) (a1 + 42) (H_X9_copyFrom (a0 + 37) (a1 + 37) (s_X4_copyFrom_2 a0 a1 h))) rfl rfl (pm_cok rfl rfl (Or.inr ⟨_, _, rfl⟩) rfl rfl) rfl rfl ?_
  show WP 18 (30, [(6, a0), (6, a1)], [], s_X4_copyFrom_3 a0 a1 h) Q
  refine WP.aload_n rfl rfl ⟨by decide, by decide⟩ ?_
  refine WP.aload_n rfl rfl ⟨by decide, by decide⟩ ?_
  refine WP.getI rfl rfl ?_
  refine WP.putI rfl rfl ?_
  show WP 18 (34, [(6, a0), (6, a1)], [], s_X4_copyFrom_4 a0 a1 h) Q
  refine WP.aload_n rfl rfl ⟨by decide, by decide⟩ ?_
  refine WP.aload_n rfl rfl ⟨by decide, by decide⟩ ?_
  refine WP.getI rfl rfl ?_
  refine WP.putI rfl rfl ?_
  show WP 18 (38, [(6, a0), (6, a1)], [], s_X4_copyFrom_5 a0 a1 h) Q
  refine WP.retv rfl ?_; exact kk
theorem c_X4_copyFrom (a0 : Int) (a1 : Int) (h : pH) : CP 18 [(6, a0), (6, a1)] h (fun r h1 => r = none ∧ h1 = H_X4_copyFrom a0 a1 h) := w_X4_copyFrom a0 a1 h ⟨rfl, rfl⟩
noncomputable def s_X4_readGauges_1 (a0 : Int) (x1 : Int) (h : pH) : pH := pm_upd h (a0 + 17) x1 (s_X0_gauge_1 (a0 + 1) (h (a0 + 8) x1) h)
def C_X4_readGauges_2 (a0 : Int) (x1 : Int) (h : pH) : Prop := x1 < h (a0 + 7) 10
noncomputable def B_X4_readGauges_2 (a0 : Int) (x1 : Int) (h : pH) : Int × pH := (x1 + 1, s_X4_readGauges_1 a0 x1 h)
noncomputable def P_X4_readGauges_2 (a0 : Int) (x1 : Int) (h : pH) : Prop := ((x1 < h (a0 + 7) 10) → (0 ≤ x1 ∧ x1 < 10) ∧ (P_X0_gauge (a0 + 1) (h (a0 + 8) x1) h) ∧ (fx_i (x1 + 1)))
noncomputable def L_X4_readGauges_2 (a0 : Int) (x1 : Int) (h : pH) : Int × pH := fx_wh (σ := Int × pH) (fun s => C_X4_readGauges_2 a0 s.1 s.2) (fun s => B_X4_readGauges_2 a0 s.1 s.2) (x1, h)
def O_X4_readGauges_2 (a0 : Int) (x1 : Int) (h : pH) : Prop := fx_ok (σ := Int × pH) (fun s => C_X4_readGauges_2 a0 s.1 s.2) (fun s => B_X4_readGauges_2 a0 s.1 s.2) (fun s => P_X4_readGauges_2 a0 s.1 s.2) (x1, h)
set_option maxHeartbeats 4000000 in
theorem lp_X4_readGauges_2 (a0 : Int) (x1 : Int) (h : pH) {Q : Option pV → pH → Prop} (hp : O_X4_readGauges_2 a0 x1 h) (kk : ∀ us : List pV, WP 22 (22, [(6, a0), (0, (L_X4_readGauges_2 a0 x1 h).1)], [], (L_X4_readGauges_2 a0 x1 h).2) Q) : ∀ us : List pV, WP 22 (2, [(6, a0), (0, x1)], [], h) Q := by
  refine WP.wh (σ := Int × pH) (fun s => C_X4_readGauges_2 a0 s.1 s.2) (fun s => B_X4_readGauges_2 a0 s.1 s.2) (fun s => P_X4_readGauges_2 a0 s.1 s.2) (fun s us => (2, [(6, a0), (0, s.1)], [], s.2)) (x1, h) hp ?_ ?_
  · intro s us hP hc kk
    obtain ⟨x1, h⟩ := s
    change P_X4_readGauges_2 a0 x1 h at hP
    change x1 < h (a0 + 7) 10 at hc
    replace kk : ∀ (us' : List pV) (s' : Int × pH), s' = B_X4_readGauges_2 a0 x1 h → WP 22 (2, [(6, a0), (0, s'.1)], [], s'.2) Q := fun us' s' e => by subst e; exact kk us'
    unfold P_X4_readGauges_2 at hP
    obtain ⟨o3, o4, o5⟩ := hP hc
    show WP 22 (2, [(6, a0), (0, x1)], [], h) Q
    refine WP.iload_n rfl rfl ?_
    refine WP.aload_n rfl rfl ⟨by decide, by decide⟩ ?_
    refine WP.getR rfl rfl ?_
    refine WP.getI rfl rfl ?_
    refine WP.ni_ge rfl (fun c2 => ?_) (fun c2 => ?_)
    · exact absurd hc (Int.not_lt.mpr c2)
    · refine WP.aload_n rfl rfl ⟨by decide, by decide⟩ ?_
      refine WP.getR rfl rfl ?_
      refine WP.getRF (b := a0 + 17) rfl rfl (fx_ad rfl) ?_
      refine WP.iload_n rfl rfl ?_
      refine WP.aload_n rfl rfl ⟨by decide, by decide⟩ ?_
      refine WP.getR rfl rfl ?_
      refine WP.aload_n rfl rfl ⟨by decide, by decide⟩ ?_
      refine WP.getR rfl rfl ?_
      refine WP.getRF (b := a0 + 8) rfl rfl (fx_ad rfl) ?_
      refine WP.iload_n rfl rfl ?_
      refine WP.iaload rfl ⟨by decide, by decide, by decide⟩ o3 ?_
      refine WP.callF (c_X0_gauge (a0 + 1) (h (a0 + 8) x1) h o4) rfl rfl (pm_cok rfl rfl (Or.inr ⟨_, _, rfl⟩) rfl rfl) rfl rfl ?_
      show WP 22 (19, [(6, a0), (0, x1)], [(0, s_X0_gauge_1 (a0 + 1) (h (a0 + 8) x1) h), (0, x1), (1040, a0 + 17)], h) Q
      refine WP.iastore rfl ⟨by decide, by decide, by decide⟩ o3 ?_
      show WP 22 (20, [(6, a0), (0, x1)], [], s_X4_readGauges_1 a0 x1 h) Q
      refine WP.iincE (L' := [(6, a0), (0, x1 + 1)]) rfl rfl o5 rfl ?_
      refine WP.goto rfl ?_
      exact kk [] (x1 + 1, s_X4_readGauges_1 a0 x1 h) (rfl)
  · intro hP hc
    generalize hs : (L_X4_readGauges_2 a0 x1 h : Int × pH) = s at kk
    change P_X4_readGauges_2 a0 (L_X4_readGauges_2 a0 x1 h).1 (L_X4_readGauges_2 a0 x1 h).2 at hP
    change ¬ C_X4_readGauges_2 a0 (L_X4_readGauges_2 a0 x1 h).1 (L_X4_readGauges_2 a0 x1 h).2 at hc
    intro us
    show WP 22 (2, [(6, a0), (0, (L_X4_readGauges_2 a0 x1 h).1)], [], (L_X4_readGauges_2 a0 x1 h).2) Q
    rw [hs] at hP hc ⊢
    obtain ⟨x1, h⟩ := s
    change P_X4_readGauges_2 a0 x1 h at hP
    change ¬ (x1 < h (a0 + 7) 10) at hc
    unfold P_X4_readGauges_2 at hP
    show WP 22 (2, [(6, a0), (0, x1)], [], h) Q
    refine WP.iload_n rfl rfl ?_
    refine WP.aload_n rfl rfl ⟨by decide, by decide⟩ ?_
    refine WP.getR rfl rfl ?_
    refine WP.getI rfl rfl ?_
    refine WP.ni_ge rfl (fun c1 => ?_) (fun c1 => ?_)
    · exact kk []
    · exact absurd (show x1 < h (a0 + 7) 10 from c1) hc
noncomputable def H_X4_readGauges (a0 : Int) (h : pH) : pH := (L_X4_readGauges_2 a0 0 h).2
noncomputable def P_X4_readGauges (a0 : Int) (h : pH) : Prop := O_X4_readGauges_2 a0 0 h
set_option maxHeartbeats 4000000 in
theorem w_X4_readGauges (a0 : Int) (h : pH) {Q : Option pV → pH → Prop} (hp : P_X4_readGauges a0 h) (kk : Q (none) (H_X4_readGauges a0 h)) : WP 22 (0, [(6, a0), pU], [], h) Q := by
  unfold P_X4_readGauges at hp
  have o6 := hp
  refine WP.iconst rfl ?_
  refine WP.istore_n (L' := [(6, a0), (0, 0)]) rfl rfl ?_
  refine lp_X4_readGauges_2 a0 0 h o6 (fun us7 => ?_) []
  show WP 22 (22, [(6, a0), (0, (L_X4_readGauges_2 a0 0 h).1)], [], (L_X4_readGauges_2 a0 0 h).2) Q
  refine WP.retv rfl ?_; exact kk
theorem c_X4_readGauges (a0 : Int) (h : pH) (hp : P_X4_readGauges a0 h) : CP 22 [(6, a0)] h (fun r h1 => r = none ∧ h1 = H_X4_readGauges a0 h) := w_X4_readGauges a0 h hp ⟨rfl, rfl⟩
noncomputable def s_X4_placeWork_1 (a0 : Int) (a1 : Int) (x2 : Int) (x3 : Int) (h : pH) : Int := if h (a0 + 15) x3 = (-1) ∧ ((¬ F_X6_isFit (a0 + 7) x3 h = 0) ∧ (¬ F_X10_mayHave (a0 + 21) a1 x3 h = 0)) then if x2 = (-1) then x3 else if h (a0 + 17) x2 ≤ h (a0 + 17) x3 then x2 else x3 else x2
def C_X4_placeWork_4 (a0 : Int) (a1 : Int) (h : pH) (x2 : Int) (x3 : Int) : Prop := x3 < h (a0 + 7) 10
noncomputable def B_X4_placeWork_4 (a0 : Int) (a1 : Int) (h : pH) (x2 : Int) (x3 : Int) : Int × Int := (s_X4_placeWork_1 a0 a1 x2 x3 h, x3 + 1)
noncomputable def P_X4_placeWork_4 (a0 : Int) (a1 : Int) (h : pH) (x2 : Int) (x3 : Int) : Prop := ((x3 < h (a0 + 7) 10) → (0 ≤ x3 ∧ x3 < 10) ∧ (((h (a0 + 15) x3 = (-1)) → ((P_X6_isFit (a0 + 7) x3 h) ∧ ((¬ F_X6_isFit (a0 + 7) x3 h = 0) → ((P_X10_mayHave (a0 + 21) a1 x3 h)))))) ∧ (((h (a0 + 15) x3 = (-1) ∧ ((¬ F_X6_isFit (a0 + 7) x3 h = 0) ∧ (¬ F_X10_mayHave (a0 + 21) a1 x3 h = 0))) → (((¬ x2 = (-1)) → ((0 ≤ x2 ∧ x2 < 10)))))) ∧ (fx_i (x3 + 1)))
noncomputable def L_X4_placeWork_4 (a0 : Int) (a1 : Int) (h : pH) (x2 : Int) (x3 : Int) : Int × Int := fx_wh (σ := Int × Int) (fun s => C_X4_placeWork_4 a0 a1 h s.1 s.2) (fun s => B_X4_placeWork_4 a0 a1 h s.1 s.2) (x2, x3)
def O_X4_placeWork_4 (a0 : Int) (a1 : Int) (h : pH) (x2 : Int) (x3 : Int) : Prop := fx_ok (σ := Int × Int) (fun s => C_X4_placeWork_4 a0 a1 h s.1 s.2) (fun s => B_X4_placeWork_4 a0 a1 h s.1 s.2) (fun s => P_X4_placeWork_4 a0 a1 h s.1 s.2) (x2, x3)
set_option maxHeartbeats 4000000 in
theorem lp_X4_placeWork_4 (a0 : Int) (a1 : Int) (h : pH) (x2 : Int) (x3 : Int) {Q : Option pV → pH → Prop} (hp : O_X4_placeWork_4 a0 a1 h x2 x3) (kk : ∀ us : List pV, WP 24 (51, [(6, a0), (0, a1), (0, (L_X4_placeWork_4 a0 a1 h x2 x3).1), (0, (L_X4_placeWork_4 a0 a1 h x2 x3).2), us.getD 0 pU], [], h) Q) : ∀ us : List pV, WP 24 (4, [(6, a0), (0, a1), (0, x2), (0, x3), us.getD 0 pU], [], h) Q := by
  refine WP.wh (σ := Int × Int) (fun s => C_X4_placeWork_4 a0 a1 h s.1 s.2) (fun s => B_X4_placeWork_4 a0 a1 h s.1 s.2) (fun s => P_X4_placeWork_4 a0 a1 h s.1 s.2) (fun s us => (4, [(6, a0), (0, a1), (0, s.1), (0, s.2), us.getD 0 pU], [], h)) (x2, x3) hp ?_ ?_
  · intro s us hP hc kk
    obtain ⟨x2, x3⟩ := s
    change P_X4_placeWork_4 a0 a1 h x2 x3 at hP
    change x3 < h (a0 + 7) 10 at hc
    replace kk : ∀ (us' : List pV) (s' : Int × Int), s' = B_X4_placeWork_4 a0 a1 h x2 x3 → WP 24 (4, [(6, a0), (0, a1), (0, s'.1), (0, s'.2), us'.getD 0 pU], [], h) Q := fun us' s' e => by subst e; exact kk us'
    unfold P_X4_placeWork_4 at hP
    obtain ⟨o3, q13, q22, o23⟩ := hP hc
    show WP 24 (4, [(6, a0), (0, a1), (0, x2), (0, x3), us.getD 0 pU], [], h) Q
    refine WP.iload_n rfl rfl ?_
    refine WP.aload_n rfl rfl ⟨by decide, by decide⟩ ?_
    refine WP.getR rfl rfl ?_
    refine WP.getI rfl rfl ?_
    refine WP.ni_ge rfl (fun c2 => ?_) (fun c2 => ?_)
    · exact absurd hc (Int.not_lt.mpr c2)
    · refine WP.aload_n rfl rfl ⟨by decide, by decide⟩ ?_
      refine WP.getR rfl rfl ?_
      refine WP.getRF (b := a0 + 15) rfl rfl (fx_ad rfl) ?_
      refine WP.iload_n rfl rfl ?_
      refine WP.iaload rfl ⟨by decide, by decide, by decide⟩ o3 ?_
      refine WP.iconst rfl ?_
      have k4 : ∀ Q' : Option pV → pH → Prop, (WP 24 (30, [(6, a0), (0, a1), (0, x2), (0, x3), us.getD 0 pU], [(0, if h (a0 + 15) x3 = (-1) ∧ ((¬ F_X6_isFit (a0 + 7) x3 h = 0) ∧ (¬ F_X10_mayHave (a0 + 21) a1 x3 h = 0)) then 1 else 0)], h) Q') → WP 24 (15, [(6, a0), (0, a1), (0, x2), (0, x3), us.getD 0 pU], [(0, (-1)), (0, h (a0 + 15) x3)], h) Q' := fun Q' kk => by
        have q11 := q13
        refine WP.ni_ne rfl (fun c5 => ?_) (fun c5 => ?_)
        · refine WP.iconst rfl ?_
          have e := kk; simp only [if_neg (c5), if_neg (show ¬ (h (a0 + 15) x3 = (-1) ∧ ((¬ F_X6_isFit (a0 + 7) x3 h = 0) ∧ (¬ F_X10_mayHave (a0 + 21) a1 x3 h = 0))) from fun q => (c5) q.1)] at e ⊢; exact e
        · obtain ⟨o6, q10⟩ := q11 c5
          refine WP.aload_n rfl rfl ⟨by decide, by decide⟩ ?_
          refine WP.getR rfl rfl ?_
          refine WP.iload_n rfl rfl ?_
          refine WP.callF (c_X6_isFit (a0 + 7) x3 h o6) rfl rfl (pm_cok rfl rfl (Or.inr ⟨_, _, rfl⟩) rfl rfl) rfl rfl ?_
          show WP 24 (20, [(6, a0), (0, a1), (0, x2), (0, x3), us.getD 0 pU], [(0, F_X6_isFit (a0 + 7) x3 h)], h) Q'
          refine WP.nz_eq rfl (fun c7 => ?_) (fun c7 => ?_)
          · refine WP.iconst rfl ?_
            have e := kk; simp only [if_pos c5, if_pos c7, if_neg (show ¬ (h (a0 + 15) x3 = (-1) ∧ ((¬ F_X6_isFit (a0 + 7) x3 h = 0) ∧ (¬ F_X10_mayHave (a0 + 21) a1 x3 h = 0))) from fun q => (fun q => (fun q => q c7) q.1) q.2)] at e ⊢; exact e
          · have o8 := q10 c7
            refine WP.aload_n rfl rfl ⟨by decide, by decide⟩ ?_
            refine WP.getR rfl rfl ?_
            refine WP.iload_n rfl rfl ?_
            refine WP.iload_n rfl rfl ?_
            refine WP.callF (c_X10_mayHave (a0 + 21) a1 x3 h o8) rfl rfl (pm_cok rfl rfl (Or.inr ⟨_, _, rfl⟩) rfl rfl) rfl rfl ?_
            show WP 24 (26, [(6, a0), (0, a1), (0, x2), (0, x3), us.getD 0 pU], [(0, F_X10_mayHave (a0 + 21) a1 x3 h)], h) Q'
            refine WP.nz_eq rfl (fun c9 => ?_) (fun c9 => ?_)
            · refine WP.iconst rfl ?_
              have e := kk; simp only [if_pos c5, if_neg (c7), if_pos c9, if_neg (show ¬ (h (a0 + 15) x3 = (-1) ∧ ((¬ F_X6_isFit (a0 + 7) x3 h = 0) ∧ (¬ F_X10_mayHave (a0 + 21) a1 x3 h = 0))) from fun q => (fun q => (fun q => q c9) q.2) q.2)] at e ⊢; exact e
            · refine WP.iconst rfl ?_
              refine WP.goto rfl ?_
              have e := kk; simp only [if_pos c5, if_neg (c7), if_neg (c9), if_pos (show h (a0 + 15) x3 = (-1) ∧ ((¬ F_X6_isFit (a0 + 7) x3 h = 0) ∧ (¬ F_X10_mayHave (a0 + 21) a1 x3 h = 0)) from ⟨c5, ⟨c7, c9⟩⟩)] at e ⊢; exact e
      refine k4 _ ?_
      refine WP.istore (L' := [(6, a0), (0, a1), (0, x2), (0, x3), (0, if h (a0 + 15) x3 = (-1) ∧ ((¬ F_X6_isFit (a0 + 7) x3 h = 0) ∧ (¬ F_X10_mayHave (a0 + 21) a1 x3 h = 0)) then 1 else 0)]) rfl rfl ?_
      refine WP.iload rfl rfl ?_
      have k14 : ∀ Q' : Option pV → pH → Prop, (WP 24 (49, [(6, a0), (0, a1), (0, s_X4_placeWork_1 a0 a1 x2 x3 h), (0, x3), (0, if h (a0 + 15) x3 = (-1) ∧ ((¬ F_X6_isFit (a0 + 7) x3 h = 0) ∧ (¬ F_X10_mayHave (a0 + 21) a1 x3 h = 0)) then 1 else 0)], [], h) Q') → WP 24 (32, [(6, a0), (0, a1), (0, x2), (0, x3), (0, if h (a0 + 15) x3 = (-1) ∧ ((¬ F_X6_isFit (a0 + 7) x3 h = 0) ∧ (¬ F_X10_mayHave (a0 + 21) a1 x3 h = 0)) then 1 else 0)], [(0, if h (a0 + 15) x3 = (-1) ∧ ((¬ F_X6_isFit (a0 + 7) x3 h = 0) ∧ (¬ F_X10_mayHave (a0 + 21) a1 x3 h = 0)) then 1 else 0)], h) Q' := fun Q' kk => by
        have q20 := q22
        refine WP.nb_eq rfl (fun c15 => ?_) (fun c15 => ?_)
        · have e := kk; simp only [s_X4_placeWork_1, if_neg (c15)] at e ⊢; exact e
        · have q19 := q20 c15
          refine WP.iload_n rfl rfl ?_
          refine WP.iconst rfl ?_
          refine WP.ni_eq rfl (fun c16 => ?_) (fun c16 => ?_)
          · refine WP.iload_n rfl rfl ?_
            refine WP.istore_n (L' := [(6, a0), (0, a1), (0, x3), (0, x3), (0, if h (a0 + 15) x3 = (-1) ∧ ((¬ F_X6_isFit (a0 + 7) x3 h = 0) ∧ (¬ F_X10_mayHave (a0 + 21) a1 x3 h = 0)) then 1 else 0)]) rfl rfl ?_
            have e := kk; simp only [s_X4_placeWork_1, if_pos c15, if_pos c16] at e ⊢; exact e
          · have o17 := q19 c16
            refine WP.aload_n rfl rfl ⟨by decide, by decide⟩ ?_
            refine WP.getR rfl rfl ?_
            refine WP.getRF (b := a0 + 17) rfl rfl (fx_ad rfl) ?_
            refine WP.iload_n rfl rfl ?_
            refine WP.iaload rfl ⟨by decide, by decide, by decide⟩ o3 ?_
            refine WP.aload_n rfl rfl ⟨by decide, by decide⟩ ?_
            refine WP.getR rfl rfl ?_
            refine WP.getRF (b := a0 + 17) rfl rfl (fx_ad rfl) ?_
            refine WP.iload_n rfl rfl ?_
            refine WP.iaload rfl ⟨by decide, by decide, by decide⟩ o17 ?_
            refine WP.ni_ge rfl (fun c18 => ?_) (fun c18 => ?_)
            · have e := kk; simp only [s_X4_placeWork_1, if_pos c15, if_neg (c16), if_pos c18] at e ⊢; exact e
            · refine WP.iload_n rfl rfl ?_
              refine WP.istore_n (L' := [(6, a0), (0, a1), (0, x3), (0, x3), (0, if h (a0 + 15) x3 = (-1) ∧ ((¬ F_X6_isFit (a0 + 7) x3 h = 0) ∧ (¬ F_X10_mayHave (a0 + 21) a1 x3 h = 0)) then 1 else 0)]) rfl rfl ?_
              have e := kk; simp only [s_X4_placeWork_1, if_pos c15, if_neg (c16), if_neg (Int.not_le.mpr c18)] at e ⊢; exact e
      refine k14 _ ?_
      refine WP.iincE (L' := [(6, a0), (0, a1), (0, s_X4_placeWork_1 a0 a1 x2 x3 h), (0, x3 + 1), (0, if h (a0 + 15) x3 = (-1) ∧ ((¬ F_X6_isFit (a0 + 7) x3 h = 0) ∧ (¬ F_X10_mayHave (a0 + 21) a1 x3 h = 0)) then 1 else 0)]) rfl rfl o23 rfl ?_
      refine WP.goto rfl ?_
      exact kk [(0, if h (a0 + 15) x3 = (-1) ∧ ((¬ F_X6_isFit (a0 + 7) x3 h = 0) ∧ (¬ F_X10_mayHave (a0 + 21) a1 x3 h = 0)) then 1 else 0)] (s_X4_placeWork_1 a0 a1 x2 x3 h, x3 + 1) (rfl)
  · intro hP hc
    generalize hs : (L_X4_placeWork_4 a0 a1 h x2 x3 : Int × Int) = s at kk
    change P_X4_placeWork_4 a0 a1 h (L_X4_placeWork_4 a0 a1 h x2 x3).1 (L_X4_placeWork_4 a0 a1 h x2 x3).2 at hP
    change ¬ C_X4_placeWork_4 a0 a1 h (L_X4_placeWork_4 a0 a1 h x2 x3).1 (L_X4_placeWork_4 a0 a1 h x2 x3).2 at hc
    intro us
    show WP 24 (4, [(6, a0), (0, a1), (0, (L_X4_placeWork_4 a0 a1 h x2 x3).1), (0, (L_X4_placeWork_4 a0 a1 h x2 x3).2), us.getD 0 pU], [], h) Q
    rw [hs] at hP hc ⊢
    obtain ⟨x2, x3⟩ := s
    change P_X4_placeWork_4 a0 a1 h x2 x3 at hP
    change ¬ (x3 < h (a0 + 7) 10) at hc
    unfold P_X4_placeWork_4 at hP
    show WP 24 (4, [(6, a0), (0, a1), (0, x2), (0, x3), us.getD 0 pU], [], h) Q
    refine WP.iload_n rfl rfl ?_
    refine WP.aload_n rfl rfl ⟨by decide, by decide⟩ ?_
    refine WP.getR rfl rfl ?_
    refine WP.getI rfl rfl ?_
    refine WP.ni_ge rfl (fun c1 => ?_) (fun c1 => ?_)
    · exact kk [us.getD 0 pU]
    · exact absurd (show x3 < h (a0 + 7) 10 from c1) hc
noncomputable def s_X4_placeWork_2 (a0 : Int) (a1 : Int) (h : pH) : Int := (L_X4_placeWork_4 a0 a1 h (-1) 0).1
noncomputable def s_X4_placeWork_3 (a0 : Int) (a1 : Int) (h : pH) : Int := (L_X4_placeWork_4 a0 a1 h (-1) 0).2
noncomputable def s_X4_placeWork_4 (a0 : Int) (a1 : Int) (h : pH) : pH := pm_upd (pm_upd h (a0 + 35) a1 (s_X4_placeWork_2 a0 a1 h)) (a0 + 15) (s_X4_placeWork_2 a0 a1 h) a1
noncomputable def s_X4_placeWork_5 (a0 : Int) (a1 : Int) (h : pH) : pH := if s_X4_placeWork_2 a0 a1 h = (-1) then pm_upd h (a0 + 34) a1 1 else s_X4_placeWork_4 a0 a1 h
noncomputable def H_X4_placeWork (a0 : Int) (a1 : Int) (h : pH) : pH := s_X4_placeWork_5 a0 a1 h
noncomputable def P_X4_placeWork (a0 : Int) (a1 : Int) (h : pH) : Prop := (O_X4_placeWork_4 a0 a1 h (-1) 0) ∧ ((((s_X4_placeWork_2 a0 a1 h = (-1)) → ((0 ≤ a1 ∧ a1 < 16))) ∧ ((¬ s_X4_placeWork_2 a0 a1 h = (-1)) → ((0 ≤ a1 ∧ a1 < 16) ∧ (0 ≤ s_X4_placeWork_2 a0 a1 h ∧ s_X4_placeWork_2 a0 a1 h < 10)))))
set_option maxHeartbeats 4000000 in
theorem w_X4_placeWork (a0 : Int) (a1 : Int) (h : pH) {Q : Option pV → pH → Prop} (hp : P_X4_placeWork a0 a1 h) (kk : Q (none) (H_X4_placeWork a0 a1 h)) : WP 24 (0, [(6, a0), (0, a1), pU, pU, pU], [], h) Q := by
  unfold P_X4_placeWork at hp
  obtain ⟨o24, q33⟩ := hp
  refine WP.iconst rfl ?_
  refine WP.istore_n (L' := [(6, a0), (0, a1), (0, (-1)), pU, pU]) rfl rfl ?_
  refine WP.iconst rfl ?_
  refine WP.istore_n (L' := [(6, a0), (0, a1), (0, (-1)), (0, 0), pU]) rfl rfl ?_
  refine lp_X4_placeWork_4 a0 a1 h (-1) 0 o24 (fun us25 => ?_) [pU]
  show WP 24 (51, [(6, a0), (0, a1), (0, s_X4_placeWork_2 a0 a1 h), (0, s_X4_placeWork_3 a0 a1 h), us25.getD 0 pU], [], h) Q
  refine WP.iload_n rfl rfl ?_
  refine WP.iconst rfl ?_
  have k26 : ∀ Q' : Option pV → pH → Prop, (WP 24 (73, [(6, a0), (0, a1), (0, s_X4_placeWork_2 a0 a1 h), (0, s_X4_placeWork_3 a0 a1 h), us25.getD 0 pU], [], s_X4_placeWork_5 a0 a1 h) Q') → WP 24 (53, [(6, a0), (0, a1), (0, s_X4_placeWork_2 a0 a1 h), (0, s_X4_placeWork_3 a0 a1 h), us25.getD 0 pU], [(0, (-1)), (0, s_X4_placeWork_2 a0 a1 h)], h) Q' := fun Q' kk => by
    have q31 := q33
    refine WP.ni_ne rfl (fun c27 => ?_) (fun c27 => ?_)
    · obtain ⟨o29, o30⟩ := q31.2 c27
      refine WP.aload_n rfl rfl ⟨by decide, by decide⟩ ?_
      refine WP.getR rfl rfl ?_
      refine WP.getRF (b := a0 + 35) rfl rfl (fx_ad rfl) ?_
      refine WP.iload_n rfl rfl ?_
      refine WP.iload_n rfl rfl ?_
      refine WP.iastore rfl ⟨by decide, by decide, by decide⟩ o29 ?_
      refine WP.aload_n rfl rfl ⟨by decide, by decide⟩ ?_
      refine WP.getR rfl rfl ?_
      refine WP.getRF (b := a0 + 15) rfl rfl (fx_ad rfl) ?_
      refine WP.iload_n rfl rfl ?_
      refine WP.iload_n rfl rfl ?_
      refine WP.iastore rfl ⟨by decide, by decide, by decide⟩ o30 ?_
      show WP 24 (73, [(6, a0), (0, a1), (0, s_X4_placeWork_2 a0 a1 h), (0, s_X4_placeWork_3 a0 a1 h), us25.getD 0 pU], [], s_X4_placeWork_4 a0 a1 h) Q'
      have e := kk; simp only [s_X4_placeWork_5, if_neg (c27)] at e ⊢; exact e
    · have o28 := q31.1 c27
      refine WP.aload_n rfl rfl ⟨by decide, by decide⟩ ?_
      refine WP.getR rfl rfl ?_
      refine WP.getRF (b := a0 + 34) rfl rfl (fx_ad rfl) ?_
      refine WP.iload_n rfl rfl ?_
      refine WP.iconst rfl ?_
      refine WP.iastore rfl ⟨by decide, by decide, by decide⟩ o28 ?_
      refine WP.goto rfl ?_
      have e := kk; simp only [s_X4_placeWork_5, if_pos c27] at e ⊢; exact e
  refine k26 _ ?_
  refine WP.retv rfl ?_; exact kk
theorem c_X4_placeWork (a0 : Int) (a1 : Int) (h : pH) (hp : P_X4_placeWork a0 a1 h) : CP 24 [(6, a0), (0, a1)] h (fun r h1 => r = none ∧ h1 = H_X4_placeWork a0 a1 h) := w_X4_placeWork a0 a1 h hp ⟨rfl, rfl⟩
noncomputable def s_X4_setSpeeds_1 (a0 : Int) (x1 : Int) (h : pH) : Int := if h (a0 + 17) x1 ≤ h (a0 + 11) x1 then 3 else 1
noncomputable def s_X4_setSpeeds_2 (a0 : Int) (x1 : Int) (h : pH) : pH := pm_upd h (a0 + 16) x1 (fx_min (fx_min (h a0 8) (s_X4_setSpeeds_1 a0 x1 h)) (s_X10_mostSpeed_1 (a0 + 21) (h (a0 + 15) x1) h))
noncomputable def s_X4_setSpeeds_3 (a0 : Int) (x1 : Int) (h : pH) : pH := if h (a0 + 15) x1 = (-1) then h else if (s_X4_setSpeeds_2 a0 x1 h) (a0 + 16) x1 = 0 then H_X4_stop a0 x1 2 (s_X4_setSpeeds_2 a0 x1 h) else s_X4_setSpeeds_2 a0 x1 h
def C_X4_setSpeeds_2 (a0 : Int) (x1 : Int) (h : pH) : Prop := x1 < h (a0 + 7) 10
noncomputable def B_X4_setSpeeds_2 (a0 : Int) (x1 : Int) (h : pH) : Int × pH := (x1 + 1, s_X4_setSpeeds_3 a0 x1 h)
noncomputable def P_X4_setSpeeds_2 (a0 : Int) (x1 : Int) (h : pH) : Prop := ((x1 < h (a0 + 7) 10) → (0 ≤ x1 ∧ x1 < 10) ∧ (((¬ h (a0 + 15) x1 = (-1)) → ((P_X10_mostSpeed (a0 + 21) (h (a0 + 15) x1) h) ∧ (((s_X4_setSpeeds_2 a0 x1 h) (a0 + 16) x1 = 0) → ((P_X4_stop a0 x1 2 (s_X4_setSpeeds_2 a0 x1 h))))))) ∧ (fx_i (x1 + 1)))
noncomputable def L_X4_setSpeeds_2 (a0 : Int) (x1 : Int) (h : pH) : Int × pH := fx_wh (σ := Int × pH) (fun s => C_X4_setSpeeds_2 a0 s.1 s.2) (fun s => B_X4_setSpeeds_2 a0 s.1 s.2) (x1, h)
def O_X4_setSpeeds_2 (a0 : Int) (x1 : Int) (h : pH) : Prop := fx_ok (σ := Int × pH) (fun s => C_X4_setSpeeds_2 a0 s.1 s.2) (fun s => B_X4_setSpeeds_2 a0 s.1 s.2) (fun s => P_X4_setSpeeds_2 a0 s.1 s.2) (x1, h)
set_option maxHeartbeats 4000000 in
theorem lp_X4_setSpeeds_2 (a0 : Int) (x1 : Int) (h : pH) {Q : Option pV → pH → Prop} (hp : O_X4_setSpeeds_2 a0 x1 h) (kk : ∀ us : List pV, WP 25 (57, [(6, a0), (0, (L_X4_setSpeeds_2 a0 x1 h).1), us.getD 0 pU, us.getD 1 pU], [], (L_X4_setSpeeds_2 a0 x1 h).2) Q) : ∀ us : List pV, WP 25 (2, [(6, a0), (0, x1), us.getD 0 pU, us.getD 1 pU], [], h) Q := by
  refine WP.wh (σ := Int × pH) (fun s => C_X4_setSpeeds_2 a0 s.1 s.2) (fun s => B_X4_setSpeeds_2 a0 s.1 s.2) (fun s => P_X4_setSpeeds_2 a0 s.1 s.2) (fun s us => (2, [(6, a0), (0, s.1), us.getD 0 pU, us.getD 1 pU], [], s.2)) (x1, h) hp ?_ ?_
  · intro s us hP hc kk
    obtain ⟨x1, h⟩ := s
    change P_X4_setSpeeds_2 a0 x1 h at hP
    change x1 < h (a0 + 7) 10 at hc
    replace kk : ∀ (us' : List pV) (s' : Int × pH), s' = B_X4_setSpeeds_2 a0 x1 h → WP 25 (2, [(6, a0), (0, s'.1), us'.getD 0 pU, us'.getD 1 pU], [], s'.2) Q := fun us' s' e => by subst e; exact kk us'
    unfold P_X4_setSpeeds_2 at hP
    obtain ⟨o3, q15, o16⟩ := hP hc
    show WP 25 (2, [(6, a0), (0, x1), us.getD 0 pU, us.getD 1 pU], [], h) Q
    refine WP.iload_n rfl rfl ?_
    refine WP.aload_n rfl rfl ⟨by decide, by decide⟩ ?_
    refine WP.getR rfl rfl ?_
    refine WP.getI rfl rfl ?_
    refine WP.ni_ge rfl (fun c2 => ?_) (fun c2 => ?_)
    · exact absurd hc (Int.not_lt.mpr c2)
    · refine WP.aload_n rfl rfl ⟨by decide, by decide⟩ ?_
      refine WP.getR rfl rfl ?_
      refine WP.getRF (b := a0 + 15) rfl rfl (fx_ad rfl) ?_
      refine WP.iload_n rfl rfl ?_
      refine WP.iaload rfl ⟨by decide, by decide, by decide⟩ o3 ?_
      refine WP.istore_n (L' := [(6, a0), (0, x1), (0, h (a0 + 15) x1), us.getD 1 pU]) rfl rfl ?_
      refine WP.iload_n rfl rfl ?_
      refine WP.iconst rfl ?_
      have k4 : ∀ Q' : Option pV → pH → Prop, (∀ us14 : List pV, WP 25 (55, [(6, a0), (0, x1), (0, h (a0 + 15) x1), us14.getD 0 pU], [], s_X4_setSpeeds_3 a0 x1 h) Q') → WP 25 (15, [(6, a0), (0, x1), (0, h (a0 + 15) x1), us.getD 1 pU], [(0, (-1)), (0, h (a0 + 15) x1)], h) Q' := fun Q' kk => by
        have q13 := q15
        refine WP.ni_eq rfl (fun c5 => ?_) (fun c5 => ?_)
        · have e := kk [us.getD 1 pU]; simp only [s_X4_setSpeeds_3, if_pos c5] at e ⊢; exact e
        · obtain ⟨o9, q12⟩ := q13 c5
          refine WP.aload_n rfl rfl ⟨by decide, by decide⟩ ?_
          refine WP.getR rfl rfl ?_
          refine WP.getRF (b := a0 + 17) rfl rfl (fx_ad rfl) ?_
          refine WP.iload_n rfl rfl ?_
          refine WP.iaload rfl ⟨by decide, by decide, by decide⟩ o3 ?_
          refine WP.aload_n rfl rfl ⟨by decide, by decide⟩ ?_
          refine WP.getR rfl rfl ?_
          refine WP.getRF (b := a0 + 11) rfl rfl (fx_ad rfl) ?_
          refine WP.iload_n rfl rfl ?_
          refine WP.iaload rfl ⟨by decide, by decide, by decide⟩ o3 ?_
          have k6 : ∀ Q' : Option pV → pH → Prop, (WP 25 (30, [(6, a0), (0, x1), (0, h (a0 + 15) x1), us.getD 1 pU], [(0, s_X4_setSpeeds_1 a0 x1 h)], h) Q') → WP 25 (26, [(6, a0), (0, x1), (0, h (a0 + 15) x1), us.getD 1 pU], [(0, h (a0 + 11) x1), (0, h (a0 + 17) x1)], h) Q' := fun Q' kk => by
            refine WP.ni_le rfl (fun c7 => ?_) (fun c7 => ?_)
            · refine WP.iconst rfl ?_
              have e := kk; simp only [s_X4_setSpeeds_1, if_pos c7] at e ⊢; exact e
            · refine WP.iconst rfl ?_
              refine WP.goto rfl ?_
              have e := kk; simp only [s_X4_setSpeeds_1, if_neg (Int.not_le.mpr c7)] at e ⊢; exact e
          refine k6 _ ?_
          refine WP.istore_n (L' := [(6, a0), (0, x1), (0, h (a0 + 15) x1), (0, s_X4_setSpeeds_1 a0 x1 h)]) rfl rfl ?_
          refine WP.aload_n rfl rfl ⟨by decide, by decide⟩ ?_
          refine WP.getR rfl rfl ?_
          refine WP.getRF (b := a0 + 16) rfl rfl (fx_ad rfl) ?_
          refine WP.iload_n rfl rfl ?_
          refine WP.aload_n rfl rfl ⟨by decide, by decide⟩ ?_
          refine WP.getI rfl rfl ?_
          refine WP.iload_n rfl rfl ?_
          refine WP.minIF rfl rfl ?_
          refine WP.aload_n rfl rfl ⟨by decide, by decide⟩ ?_
          refine WP.getR rfl rfl ?_
          refine WP.iload_n rfl rfl ?_
          refine WP.callF (c_X10_mostSpeed (a0 + 21) (h (a0 + 15) x1) h o9) rfl rfl (pm_cok rfl rfl (Or.inr ⟨_, _, rfl⟩) rfl rfl) rfl rfl ?_
          show WP 25 (43, [(6, a0), (0, x1), (0, h (a0 + 15) x1), (0, s_X4_setSpeeds_1 a0 x1 h)], [(0, s_X10_mostSpeed_1 (a0 + 21) (h (a0 + 15) x1) h), (0, fx_min (h a0 8) (s_X4_setSpeeds_1 a0 x1 h)), (0, x1), (1040, a0 + 16)], h) Q'
          refine WP.minIF rfl rfl ?_
          refine WP.iastore rfl ⟨by decide, by decide, by decide⟩ o3 ?_
          show WP 25 (45, [(6, a0), (0, x1), (0, h (a0 + 15) x1), (0, s_X4_setSpeeds_1 a0 x1 h)], [], s_X4_setSpeeds_2 a0 x1 h) Q'
          refine WP.aload_n rfl rfl ⟨by decide, by decide⟩ ?_
          refine WP.getR rfl rfl ?_
          refine WP.getRF (b := a0 + 16) rfl rfl (fx_ad rfl) ?_
          refine WP.iload_n rfl rfl ?_
          refine WP.iaload rfl ⟨by decide, by decide, by decide⟩ o3 ?_
          refine WP.nz_ne rfl (fun c10 => ?_) (fun c10 => ?_)
          · have e := kk [(0, s_X4_setSpeeds_1 a0 x1 h)]; simp only [s_X4_setSpeeds_3, if_neg (c5), if_neg (c10)] at e ⊢; exact e
          · have o11 := q12 c10
            refine WP.aload_n rfl rfl ⟨by decide, by decide⟩ ?_
            refine WP.iload_n rfl rfl ?_
            refine WP.iconst rfl ?_
            refine WP.callF (c_X4_stop a0 x1 2 (s_X4_setSpeeds_2 a0 x1 h) o11) rfl rfl (pm_cok rfl rfl (Or.inr ⟨_, _, rfl⟩) rfl rfl) rfl rfl ?_
            show WP 25 (55, [(6, a0), (0, x1), (0, h (a0 + 15) x1), (0, s_X4_setSpeeds_1 a0 x1 h)], [], H_X4_stop a0 x1 2 (s_X4_setSpeeds_2 a0 x1 h)) Q'
            have e := kk [(0, s_X4_setSpeeds_1 a0 x1 h)]; simp only [s_X4_setSpeeds_3, if_neg (c5), if_pos c10] at e ⊢; exact e
      refine k4 _ (fun us14 => ?_)
      refine WP.iincE (L' := [(6, a0), (0, x1 + 1), (0, h (a0 + 15) x1), us14.getD 0 pU]) rfl rfl o16 rfl ?_
      refine WP.goto rfl ?_
      exact kk [(0, h (a0 + 15) x1), us14.getD 0 pU] (x1 + 1, s_X4_setSpeeds_3 a0 x1 h) (rfl)
  · intro hP hc
    generalize hs : (L_X4_setSpeeds_2 a0 x1 h : Int × pH) = s at kk
    change P_X4_setSpeeds_2 a0 (L_X4_setSpeeds_2 a0 x1 h).1 (L_X4_setSpeeds_2 a0 x1 h).2 at hP
    change ¬ C_X4_setSpeeds_2 a0 (L_X4_setSpeeds_2 a0 x1 h).1 (L_X4_setSpeeds_2 a0 x1 h).2 at hc
    intro us
    show WP 25 (2, [(6, a0), (0, (L_X4_setSpeeds_2 a0 x1 h).1), us.getD 0 pU, us.getD 1 pU], [], (L_X4_setSpeeds_2 a0 x1 h).2) Q
    rw [hs] at hP hc ⊢
    obtain ⟨x1, h⟩ := s
    change P_X4_setSpeeds_2 a0 x1 h at hP
    change ¬ (x1 < h (a0 + 7) 10) at hc
    unfold P_X4_setSpeeds_2 at hP
    show WP 25 (2, [(6, a0), (0, x1), us.getD 0 pU, us.getD 1 pU], [], h) Q
    refine WP.iload_n rfl rfl ?_
    refine WP.aload_n rfl rfl ⟨by decide, by decide⟩ ?_
    refine WP.getR rfl rfl ?_
    refine WP.getI rfl rfl ?_
    refine WP.ni_ge rfl (fun c1 => ?_) (fun c1 => ?_)
    · exact kk [us.getD 0 pU, us.getD 1 pU]
    · exact absurd (show x1 < h (a0 + 7) 10 from c1) hc
noncomputable def H_X4_setSpeeds (a0 : Int) (h : pH) : pH := (L_X4_setSpeeds_2 a0 0 h).2
noncomputable def P_X4_setSpeeds (a0 : Int) (h : pH) : Prop := O_X4_setSpeeds_2 a0 0 h
set_option maxHeartbeats 4000000 in
theorem w_X4_setSpeeds (a0 : Int) (h : pH) {Q : Option pV → pH → Prop} (hp : P_X4_setSpeeds a0 h) (kk : Q (none) (H_X4_setSpeeds a0 h)) : WP 25 (0, [(6, a0), pU, pU, pU], [], h) Q := by
  unfold P_X4_setSpeeds at hp
  have o17 := hp
  refine WP.iconst rfl ?_
  refine WP.istore_n (L' := [(6, a0), (0, 0), pU, pU]) rfl rfl ?_
  refine lp_X4_setSpeeds_2 a0 0 h o17 (fun us18 => ?_) [pU, pU]
  show WP 25 (57, [(6, a0), (0, (L_X4_setSpeeds_2 a0 0 h).1), us18.getD 0 pU, us18.getD 1 pU], [], (L_X4_setSpeeds_2 a0 0 h).2) Q
  refine WP.retv rfl ?_; exact kk
theorem c_X4_setSpeeds (a0 : Int) (h : pH) (hp : P_X4_setSpeeds a0 h) : CP 25 [(6, a0)] h (fun r h1 => r = none ∧ h1 = H_X4_setSpeeds a0 h) := w_X4_setSpeeds a0 h hp ⟨rfl, rfl⟩
noncomputable def s_X5_draw_1 (a0 : Int) (h : pH) : pH := pm_upd h a0 2 (pm_w ((pm_w ((h a0 2) * 1103515245)) + 12345))
noncomputable def s_X5_draw_2 (a0 : Int) (a1 : Int) (h : pH) : pH := pm_upd (s_X5_draw_1 a0 h) (if Int.tmod (pm_ushr ((s_X5_draw_1 a0 h) a0 2) 16) 1000 < ((s_X5_draw_1 a0 h) a0 0) + (((s_X5_draw_1 a0 h) a0 1) * (Int.tdiv a1 100)) then a0 + 1 else a0 + 2) (fx_max 0 (fx_min (Int.tdiv a1 100) 9)) (((s_X5_draw_1 a0 h) (if Int.tmod (pm_ushr ((s_X5_draw_1 a0 h) a0 2) 16) 1000 < ((s_X5_draw_1 a0 h) a0 0) + (((s_X5_draw_1 a0 h) a0 1) * (Int.tdiv a1 100)) then a0 + 1 else a0 + 2) (fx_max 0 (fx_min (Int.tdiv a1 100) 9))) + 1)
noncomputable def s_X5_draw_3 (a0 : Int) (a1 : Int) (h : pH) : pH := pm_upd (s_X5_draw_2 a0 a1 h) a0 3 (((s_X5_draw_2 a0 a1 h) a0 3) + 1)
noncomputable def s_X5_draw_4 (a0 : Int) (a1 : Int) (h : pH) : pH := if 60 ≤ (s_X5_draw_1 a0 h) a0 3 then s_X5_draw_1 a0 h else s_X5_draw_3 a0 a1 h
noncomputable def F_X5_draw (a0 : Int) (a1 : Int) (h : pH) : Int := if Int.tmod (pm_ushr ((s_X5_draw_1 a0 h) a0 2) 16) 1000 < ((s_X5_draw_1 a0 h) a0 0) + (((s_X5_draw_1 a0 h) a0 1) * (Int.tdiv a1 100)) then 1 else 0
noncomputable def H_X5_draw (a0 : Int) (a1 : Int) (h : pH) : pH := s_X5_draw_4 a0 a1 h
noncomputable def P_X5_draw (a0 : Int) (a1 : Int) (h : pH) : Prop := (fx_i (Int.tdiv a1 100)) ∧ (fx_i (((s_X5_draw_1 a0 h) a0 1) * (Int.tdiv a1 100))) ∧ (fx_i (((s_X5_draw_1 a0 h) a0 0) + (((s_X5_draw_1 a0 h) a0 1) * (Int.tdiv a1 100)))) ∧ ((((s_X5_draw_1 a0 h) a0 3 < 60) → ((0 ≤ fx_max 0 (fx_min (Int.tdiv a1 100) 9) ∧ fx_max 0 (fx_min (Int.tdiv a1 100) 9) < 10) ∧ (fx_i (((s_X5_draw_1 a0 h) (if Int.tmod (pm_ushr ((s_X5_draw_1 a0 h) a0 2) 16) 1000 < ((s_X5_draw_1 a0 h) a0 0) + (((s_X5_draw_1 a0 h) a0 1) * (Int.tdiv a1 100)) then a0 + 1 else a0 + 2) (fx_max 0 (fx_min (Int.tdiv a1 100) 9))) + 1)) ∧ (fx_i (((s_X5_draw_2 a0 a1 h) a0 3) + 1)))))
set_option maxHeartbeats 4000000 in
theorem w_X5_draw (a0 : Int) (a1 : Int) (h : pH) {Q : Option pV → pH → Prop} (hp : P_X5_draw a0 a1 h) (kk : Q (some (0, F_X5_draw a0 a1 h)) (H_X5_draw a0 a1 h)) : WP 33 (0, [(7, a0), (0, a1), pU, pU, pU], [], h) Q := by
  unfold P_X5_draw at hp
  obtain ⟨o1, o2, o3, q17⟩ := hp
  refine WP.iload_n rfl rfl ?_
  refine WP.bipush rfl ?_
  refine WP.idivE rfl (show (100 : Int) ≠ 0 by decide) o1 ?_
  refine WP.istore_n (L' := [(7, a0), (0, a1), (0, Int.tdiv a1 100), pU, pU]) rfl rfl ?_
  refine WP.aload_n rfl rfl ⟨by decide, by decide⟩ ?_
  refine WP.aload_n rfl rfl ⟨by decide, by decide⟩ ?_
  refine WP.getI rfl rfl ?_
  refine WP.ldc rfl ?_
  refine WP.imul rfl ?_
  refine WP.sipush rfl ?_
  refine WP.iadd rfl ?_
  refine WP.putI rfl rfl ?_
  show WP 33 (12, [(7, a0), (0, a1), (0, Int.tdiv a1 100), pU, pU], [], s_X5_draw_1 a0 h) Q
  refine WP.aload_n rfl rfl ⟨by decide, by decide⟩ ?_
  refine WP.getI rfl rfl ?_
  refine WP.bipush rfl ?_
  refine WP.iushr rfl ?_
  refine WP.sipush rfl ?_
  refine WP.irem rfl (show (1000 : Int) ≠ 0 by decide) ?_
  refine WP.aload_n rfl rfl ⟨by decide, by decide⟩ ?_
  refine WP.getI rfl rfl ?_
  refine WP.aload_n rfl rfl ⟨by decide, by decide⟩ ?_
  refine WP.getI rfl rfl ?_
  refine WP.iload_n rfl rfl ?_
  refine WP.imulE rfl o2 ?_
  refine WP.iaddE rfl o3 ?_
  have k4 : ∀ Q' : Option pV → pH → Prop, (WP 33 (29, [(7, a0), (0, a1), (0, Int.tdiv a1 100), pU, pU], [(0, if Int.tmod (pm_ushr ((s_X5_draw_1 a0 h) a0 2) 16) 1000 < ((s_X5_draw_1 a0 h) a0 0) + (((s_X5_draw_1 a0 h) a0 1) * (Int.tdiv a1 100)) then 1 else 0)], s_X5_draw_1 a0 h) Q') → WP 33 (25, [(7, a0), (0, a1), (0, Int.tdiv a1 100), pU, pU], [(0, ((s_X5_draw_1 a0 h) a0 0) + (((s_X5_draw_1 a0 h) a0 1) * (Int.tdiv a1 100))), (0, Int.tmod (pm_ushr ((s_X5_draw_1 a0 h) a0 2) 16) 1000)], s_X5_draw_1 a0 h) Q' := fun Q' kk => by
    refine WP.ni_ge rfl (fun c5 => ?_) (fun c5 => ?_)
    · refine WP.iconst rfl ?_
      have e := kk; simp only [if_pos c5, if_neg (show ¬ (Int.tmod (pm_ushr ((s_X5_draw_1 a0 h) a0 2) 16) 1000 < ((s_X5_draw_1 a0 h) a0 0) + (((s_X5_draw_1 a0 h) a0 1) * (Int.tdiv a1 100))) from Int.not_lt.mpr c5)] at e ⊢; exact e
    · refine WP.iconst rfl ?_
      refine WP.goto rfl ?_
      have e := kk; simp only [if_neg (Int.not_le.mpr c5), if_pos (show Int.tmod (pm_ushr ((s_X5_draw_1 a0 h) a0 2) 16) 1000 < ((s_X5_draw_1 a0 h) a0 0) + (((s_X5_draw_1 a0 h) a0 1) * (Int.tdiv a1 100)) from c5)] at e ⊢; exact e
  refine k4 _ ?_
  refine WP.istore_n (L' := [(7, a0), (0, a1), (0, Int.tdiv a1 100), (0, if Int.tmod (pm_ushr ((s_X5_draw_1 a0 h) a0 2) 16) 1000 < ((s_X5_draw_1 a0 h) a0 0) + (((s_X5_draw_1 a0 h) a0 1) * (Int.tdiv a1 100)) then 1 else 0), pU]) rfl rfl ?_
  refine WP.aload_n rfl rfl ⟨by decide, by decide⟩ ?_
  refine WP.getI rfl rfl ?_
  refine WP.bipush rfl ?_
  have k7 : ∀ Q' : Option pV → pH → Prop, (∀ us16 : List pV, WP 33 (57, [(7, a0), (0, a1), (0, Int.tdiv a1 100), (0, if Int.tmod (pm_ushr ((s_X5_draw_1 a0 h) a0 2) 16) 1000 < ((s_X5_draw_1 a0 h) a0 0) + (((s_X5_draw_1 a0 h) a0 1) * (Int.tdiv a1 100)) then 1 else 0), us16.getD 0 pU], [], s_X5_draw_4 a0 a1 h) Q') → WP 33 (33, [(7, a0), (0, a1), (0, Int.tdiv a1 100), (0, if Int.tmod (pm_ushr ((s_X5_draw_1 a0 h) a0 2) 16) 1000 < ((s_X5_draw_1 a0 h) a0 0) + (((s_X5_draw_1 a0 h) a0 1) * (Int.tdiv a1 100)) then 1 else 0), pU], [(0, 60), (0, (s_X5_draw_1 a0 h) a0 3)], s_X5_draw_1 a0 h) Q' := fun Q' kk => by
    have q15 := q17
    refine WP.ni_ge rfl (fun c8 => ?_) (fun c8 => ?_)
    · have e := kk [pU]; simp only [s_X5_draw_4, if_pos c8] at e ⊢; exact e
    · obtain ⟨o12, o13, o14⟩ := q15 c8
      refine WP.iload_n rfl rfl ?_
      have k9 : ∀ Q' : Option pV → pH → Prop, (WP 33 (41, [(7, a0), (0, a1), (0, Int.tdiv a1 100), (0, if Int.tmod (pm_ushr ((s_X5_draw_1 a0 h) a0 2) 16) 1000 < ((s_X5_draw_1 a0 h) a0 0) + (((s_X5_draw_1 a0 h) a0 1) * (Int.tdiv a1 100)) then 1 else 0), pU], [(1040, (if Int.tmod (pm_ushr ((s_X5_draw_1 a0 h) a0 2) 16) 1000 < ((s_X5_draw_1 a0 h) a0 0) + (((s_X5_draw_1 a0 h) a0 1) * (Int.tdiv a1 100)) then a0 + 1 else a0 + 2))], s_X5_draw_1 a0 h) Q') → WP 33 (35, [(7, a0), (0, a1), (0, Int.tdiv a1 100), (0, if Int.tmod (pm_ushr ((s_X5_draw_1 a0 h) a0 2) 16) 1000 < ((s_X5_draw_1 a0 h) a0 0) + (((s_X5_draw_1 a0 h) a0 1) * (Int.tdiv a1 100)) then 1 else 0), pU], [(0, if Int.tmod (pm_ushr ((s_X5_draw_1 a0 h) a0 2) 16) 1000 < ((s_X5_draw_1 a0 h) a0 0) + (((s_X5_draw_1 a0 h) a0 1) * (Int.tdiv a1 100)) then 1 else 0)], s_X5_draw_1 a0 h) Q' := fun Q' kk => by
        refine WP.nb_eq rfl (fun c10 => ?_) (fun c10 => ?_)
        · refine WP.aload_n rfl rfl ⟨by decide, by decide⟩ ?_
          refine WP.getR rfl rfl ?_
          have e := kk; simp only [if_neg (c10)] at e ⊢; exact e
        · refine WP.aload_n rfl rfl ⟨by decide, by decide⟩ ?_
          refine WP.getR rfl rfl ?_
          refine WP.goto rfl ?_
          have e := kk; simp only [if_pos c10] at e ⊢; exact e
      refine k9 _ ?_
      refine WP.astore (L' := [(7, a0), (0, a1), (0, Int.tdiv a1 100), (0, if Int.tmod (pm_ushr ((s_X5_draw_1 a0 h) a0 2) 16) 1000 < ((s_X5_draw_1 a0 h) a0 0) + (((s_X5_draw_1 a0 h) a0 1) * (Int.tdiv a1 100)) then 1 else 0), (1040, (if Int.tmod (pm_ushr ((s_X5_draw_1 a0 h) a0 2) 16) 1000 < ((s_X5_draw_1 a0 h) a0 0) + (((s_X5_draw_1 a0 h) a0 1) * (Int.tdiv a1 100)) then a0 + 1 else a0 + 2))]) rfl ⟨by decide, by decide⟩ rfl ?_
      refine WP.aload rfl rfl ⟨by decide, by decide⟩ ?_
      refine WP.iload_n rfl rfl ?_
      refine WP.bipush rfl ?_
      refine WP.callF (c_X11_brought (Int.tdiv a1 100) 9 (s_X5_draw_1 a0 h)) rfl rfl (pm_cok rfl rfl (Or.inl rfl) rfl rfl) rfl rfl ?_
      show WP 33 (46, [(7, a0), (0, a1), (0, Int.tdiv a1 100), (0, if Int.tmod (pm_ushr ((s_X5_draw_1 a0 h) a0 2) 16) 1000 < ((s_X5_draw_1 a0 h) a0 0) + (((s_X5_draw_1 a0 h) a0 1) * (Int.tdiv a1 100)) then 1 else 0), (1040, (if Int.tmod (pm_ushr ((s_X5_draw_1 a0 h) a0 2) 16) 1000 < ((s_X5_draw_1 a0 h) a0 0) + (((s_X5_draw_1 a0 h) a0 1) * (Int.tdiv a1 100)) then a0 + 1 else a0 + 2))], [(0, fx_max 0 (fx_min (Int.tdiv a1 100) 9)), (1040, (if Int.tmod (pm_ushr ((s_X5_draw_1 a0 h) a0 2) 16) 1000 < ((s_X5_draw_1 a0 h) a0 0) + (((s_X5_draw_1 a0 h) a0 1) * (Int.tdiv a1 100)) then a0 + 1 else a0 + 2))], s_X5_draw_1 a0 h) Q'
      refine WP.dup2 rfl (by decide) (by decide) ?_
      refine WP.iaload rfl ⟨by decide, by decide, by decide⟩ o12 ?_
      refine WP.iconst rfl ?_
      refine WP.iaddE rfl o13 ?_
      refine WP.iastore rfl ⟨by decide, by decide, by decide⟩ o12 ?_
      show WP 33 (51, [(7, a0), (0, a1), (0, Int.tdiv a1 100), (0, if Int.tmod (pm_ushr ((s_X5_draw_1 a0 h) a0 2) 16) 1000 < ((s_X5_draw_1 a0 h) a0 0) + (((s_X5_draw_1 a0 h) a0 1) * (Int.tdiv a1 100)) then 1 else 0), (1040, (if Int.tmod (pm_ushr ((s_X5_draw_1 a0 h) a0 2) 16) 1000 < ((s_X5_draw_1 a0 h) a0 0) + (((s_X5_draw_1 a0 h) a0 1) * (Int.tdiv a1 100)) then a0 + 1 else a0 + 2))], [], s_X5_draw_2 a0 a1 h) Q'
      refine WP.aload_n rfl rfl ⟨by decide, by decide⟩ ?_
      refine WP.dup rfl (by decide) ?_
      refine WP.getI rfl rfl ?_
      refine WP.iconst rfl ?_
      refine WP.iaddE rfl o14 ?_
      refine WP.putI rfl rfl ?_
      show WP 33 (57, [(7, a0), (0, a1), (0, Int.tdiv a1 100), (0, if Int.tmod (pm_ushr ((s_X5_draw_1 a0 h) a0 2) 16) 1000 < ((s_X5_draw_1 a0 h) a0 0) + (((s_X5_draw_1 a0 h) a0 1) * (Int.tdiv a1 100)) then 1 else 0), (1040, (if Int.tmod (pm_ushr ((s_X5_draw_1 a0 h) a0 2) 16) 1000 < ((s_X5_draw_1 a0 h) a0 0) + (((s_X5_draw_1 a0 h) a0 1) * (Int.tdiv a1 100)) then a0 + 1 else a0 + 2))], [], s_X5_draw_3 a0 a1 h) Q'
      have e := kk [(1040, (if Int.tmod (pm_ushr ((s_X5_draw_1 a0 h) a0 2) 16) 1000 < ((s_X5_draw_1 a0 h) a0 0) + (((s_X5_draw_1 a0 h) a0 1) * (Int.tdiv a1 100)) then a0 + 1 else a0 + 2))]; simp only [s_X5_draw_4, if_neg (Int.not_le.mpr c8)] at e ⊢; exact e
  refine k7 _ (fun us16 => ?_)
  refine WP.iload_n rfl rfl ?_
  refine WP.retz rfl (fx_01 _) ?_; exact kk
theorem c_X5_draw (a0 : Int) (a1 : Int) (h : pH) (hp : P_X5_draw a0 a1 h) : CP 33 [(7, a0), (0, a1)] h (fun r h1 => r = some (0, F_X5_draw a0 a1 h) ∧ h1 = H_X5_draw a0 a1 h) := w_X5_draw a0 a1 h hp ⟨rfl, rfl⟩
noncomputable def s_X6_addLikeFirst_1 (a0 : Int) (a1 : Int) (h : pH) : pH := H_X6_add a0 a1 (h (a0 + 2) 0) (h (a0 + 3) 0) (h (a0 + 4) 0) (h (a0 + 5) 0) h
noncomputable def H_X6_addLikeFirst (a0 : Int) (a1 : Int) (h : pH) : pH := s_X6_addLikeFirst_1 a0 a1 h
noncomputable def P_X6_addLikeFirst (a0 : Int) (a1 : Int) (h : pH) : Prop := (P_X6_add a0 a1 (h (a0 + 2) 0) (h (a0 + 3) 0) (h (a0 + 4) 0) (h (a0 + 5) 0) h)
set_option maxHeartbeats 4000000 in
theorem w_X6_addLikeFirst (a0 : Int) (a1 : Int) (h : pH) {Q : Option pV → pH → Prop} (hp : P_X6_addLikeFirst a0 a1 h) (kk : Q (none) (H_X6_addLikeFirst a0 a1 h)) : WP 36 (0, [(8, a0), (0, a1)], [], h) Q := by
  unfold P_X6_addLikeFirst at hp
  have o1 := hp
  refine WP.aload_n rfl rfl ⟨by decide, by decide⟩ ?_
  refine WP.iload_n rfl rfl ?_
  refine WP.aload_n rfl rfl ⟨by decide, by decide⟩ ?_
  refine WP.getR rfl rfl ?_
  refine WP.iconst rfl ?_
  refine WP.iaload rfl ⟨by decide, by decide, by decide⟩ (by decide) ?_
  refine WP.aload_n rfl rfl ⟨by decide, by decide⟩ ?_
  refine WP.getR rfl rfl ?_
  refine WP.iconst rfl ?_
  refine WP.iaload rfl ⟨by decide, by decide, by decide⟩ (by decide) ?_
  refine WP.aload_n rfl rfl ⟨by decide, by decide⟩ ?_
  refine WP.getR rfl rfl ?_
  refine WP.iconst rfl ?_
  refine WP.iaload rfl ⟨by decide, by decide, by decide⟩ (by decide) ?_
  refine WP.aload_n rfl rfl ⟨by decide, by decide⟩ ?_
  refine WP.getR rfl rfl ?_
  refine WP.iconst rfl ?_
  refine WP.iaload rfl ⟨by decide, by decide, by decide⟩ (by decide) ?_
  refine WP.callF (c_X6_add a0 a1 (h (a0 + 2) 0) (h (a0 + 3) 0) (h (a0 + 4) 0) (h (a0 + 5) 0) h o1) rfl rfl (pm_cok rfl rfl (Or.inr ⟨_, _, rfl⟩) rfl rfl) rfl rfl ?_
  show WP 36 (19, [(8, a0), (0, a1)], [(0, F_X6_add a0 a1 (h (a0 + 2) 0) (h (a0 + 3) 0) (h (a0 + 4) 0) (h (a0 + 5) 0) h)], s_X6_addLikeFirst_1 a0 a1 h) Q
  refine WP.pop rfl (by decide) ?_
  refine WP.retv rfl ?_; exact kk
theorem c_X6_addLikeFirst (a0 : Int) (a1 : Int) (h : pH) (hp : P_X6_addLikeFirst a0 a1 h) : CP 36 [(8, a0), (0, a1)] h (fun r h1 => r = none ∧ h1 = H_X6_addLikeFirst a0 a1 h) := w_X6_addLikeFirst a0 a1 h hp ⟨rfl, rfl⟩
noncomputable def F_X6_tell (a0 : Int) (a1 : Int) (a2 : Int) (h : pH) : Int := if 0 ≤ a1 ∧ a1 ≤ ((h a0 10) - 1) then if a2 = 0 then h (a0 + 8) a1 else if a2 = 1 then h (a0 + 9) a1 else if a2 = 2 then h (a0 + 6) a1 else if a2 = 3 then h (a0 + 7) a1 else if a2 = 4 then h (a0 + 1) a1 else (-2) else (-2)
noncomputable def P_X6_tell (a0 : Int) (a1 : Int) (a2 : Int) (h : pH) : Prop := (fx_i ((h a0 10) - 1)) ∧ ((0 ≤ a1 ∧ a1 ≤ ((h a0 10) - 1)) → ((((a2 = 0) → ((0 ≤ a1 ∧ a1 < 10))) ∧ ((¬ a2 = 0) → ((((a2 = 1) → ((0 ≤ a1 ∧ a1 < 10))) ∧ ((¬ a2 = 1) → ((((a2 = 2) → ((0 ≤ a1 ∧ a1 < 10))) ∧ ((¬ a2 = 2) → ((((a2 = 3) → ((0 ≤ a1 ∧ a1 < 10))) ∧ ((¬ a2 = 3) → (((a2 = 4) → ((0 ≤ a1 ∧ a1 < 10)))))))))))))))))
set_option maxHeartbeats 4000000 in
theorem w_X6_tell (a0 : Int) (a1 : Int) (a2 : Int) (h : pH) {Q : Option pV → pH → Prop} (hp : P_X6_tell a0 a1 a2 h) (kk : Q (some (0, F_X6_tell a0 a1 a2 h)) (h)) : WP 37 (0, [(8, a0), (0, a1), (0, a2)], [], h) Q := by
  unfold P_X6_tell at hp
  obtain ⟨o1, q18⟩ := hp
  refine WP.iload_n rfl rfl ?_
  refine WP.iconst rfl ?_
  refine WP.aload_n rfl rfl ⟨by decide, by decide⟩ ?_
  refine WP.getI rfl rfl ?_
  refine WP.iconst rfl ?_
  refine WP.isubE rfl o1 ?_
  refine WP.callF (c_X11_within a1 0 ((h a0 10) - 1) h) rfl rfl (pm_cok rfl rfl (Or.inl rfl) rfl rfl) rfl rfl ?_
  show WP 37 (7, [(8, a0), (0, a1), (0, a2)], [(0, if 0 ≤ a1 ∧ a1 ≤ ((h a0 10) - 1) then 1 else 0)], h) Q
  refine WP.nb_ne rfl (fun c2 => ?_) (fun c2 => ?_)
  · have q17 := q18 c2
    refine WP.iload_n rfl rfl ?_
    refine WP.ntsw rfl rfl ?_
    show WP 37 (fx_sw 0 [12, 17, 22, 27, 32] 37 a2, [(8, a0), (0, a1), (0, a2)], [], h) Q
    refine WP.nsl rfl (fun (c3 : a2 = 0) => ?_) (fun (c3 : ¬ a2 = 0) => ?_)
    · have o4 := q17.1 c3
      show WP 37 (12, [(8, a0), (0, a1), (0, a2)], [], h) Q
      refine WP.aload_n rfl rfl ⟨by decide, by decide⟩ ?_
      refine WP.getR rfl rfl ?_
      refine WP.iload_n rfl rfl ?_
      refine WP.iaload rfl ⟨by decide, by decide, by decide⟩ o4 ?_
      refine WP.reti rfl ?_; have e := kk; simp only [F_X6_tell, if_pos c2, if_pos c3] at e ⊢; exact e
    · have q16 := q17.2 c3
      refine WP.nsl rfl (fun (c5 : a2 = 1) => ?_) (fun (c5 : ¬ a2 = 1) => ?_)
      · have o6 := q16.1 c5
        show WP 37 (17, [(8, a0), (0, a1), (0, a2)], [], h) Q
        refine WP.aload_n rfl rfl ⟨by decide, by decide⟩ ?_
        refine WP.getR rfl rfl ?_
        refine WP.iload_n rfl rfl ?_
        refine WP.iaload rfl ⟨by decide, by decide, by decide⟩ o6 ?_
        refine WP.reti rfl ?_; have e := kk; simp only [F_X6_tell, if_pos c2, if_neg (c3), if_pos c5] at e ⊢; exact e
      · have q15 := q16.2 c5
        refine WP.nsl rfl (fun (c7 : a2 = 2) => ?_) (fun (c7 : ¬ a2 = 2) => ?_)
        · have o8 := q15.1 c7
          show WP 37 (22, [(8, a0), (0, a1), (0, a2)], [], h) Q
          refine WP.aload_n rfl rfl ⟨by decide, by decide⟩ ?_
          refine WP.getR rfl rfl ?_
          refine WP.iload_n rfl rfl ?_
          refine WP.iaload rfl ⟨by decide, by decide, by decide⟩ o8 ?_
          refine WP.reti rfl ?_; have e := kk; simp only [F_X6_tell, if_pos c2, if_neg (c3), if_neg (c5), if_pos c7] at e ⊢; exact e
        · have q14 := q15.2 c7
          refine WP.nsl rfl (fun (c9 : a2 = 3) => ?_) (fun (c9 : ¬ a2 = 3) => ?_)
          · have o10 := q14.1 c9
            show WP 37 (27, [(8, a0), (0, a1), (0, a2)], [], h) Q
            refine WP.aload_n rfl rfl ⟨by decide, by decide⟩ ?_
            refine WP.getR rfl rfl ?_
            refine WP.iload_n rfl rfl ?_
            refine WP.iaload rfl ⟨by decide, by decide, by decide⟩ o10 ?_
            refine WP.reti rfl ?_; have e := kk; simp only [F_X6_tell, if_pos c2, if_neg (c3), if_neg (c5), if_neg (c7), if_pos c9] at e ⊢; exact e
          · have q13 := q14.2 c9
            refine WP.nsl rfl (fun (c11 : a2 = 4) => ?_) (fun (c11 : ¬ a2 = 4) => ?_)
            · have o12 := q13 c11
              show WP 37 (32, [(8, a0), (0, a1), (0, a2)], [], h) Q
              refine WP.aload_n rfl rfl ⟨by decide, by decide⟩ ?_
              refine WP.getR rfl rfl ?_
              refine WP.iload_n rfl rfl ?_
              refine WP.iaload rfl ⟨by decide, by decide, by decide⟩ o12 ?_
              refine WP.reti rfl ?_; have e := kk; simp only [F_X6_tell, if_pos c2, if_neg (c3), if_neg (c5), if_neg (c7), if_neg (c9), if_pos c11] at e ⊢; exact e
            · show WP 37 (37, [(8, a0), (0, a1), (0, a2)], [], h) Q
              refine WP.bipush rfl ?_
              refine WP.reti rfl ?_; have e := kk; simp only [F_X6_tell, if_pos c2, if_neg (c3), if_neg (c5), if_neg (c7), if_neg (c9), if_neg (c11)] at e ⊢; exact e
  · refine WP.bipush rfl ?_
    refine WP.reti rfl ?_; have e := kk; simp only [F_X6_tell, if_neg (c2)] at e ⊢; exact e
theorem c_X6_tell (a0 : Int) (a1 : Int) (a2 : Int) (h : pH) (hp : P_X6_tell a0 a1 a2 h) : CP 37 [(8, a0), (0, a1), (0, a2)] h (fun r h1 => r = some (0, F_X6_tell a0 a1 a2 h) ∧ h1 = h) := w_X6_tell a0 a1 a2 h hp ⟨rfl, rfl⟩
noncomputable def H_X6_clear (a0 : Int) (h : pH) : pH := fx_fill (fx_fill h (a0 + 8) 10 (-1)) (a0 + 9) 10 0
set_option maxHeartbeats 4000000 in
theorem w_X6_clear (a0 : Int) (h : pH) {Q : Option pV → pH → Prop} (kk : Q (none) (H_X6_clear a0 h)) : WP 40 (0, [(8, a0)], [], h) Q := by
  refine WP.aload_n rfl rfl ⟨by decide, by decide⟩ ?_
  refine WP.getR rfl rfl ?_
  refine WP.iconst rfl ?_
  refine WP.callF (c_J7_fill_I 1040 (a0 + 8) (-1) _ ⟨by decide, by decide, by decide⟩ rfl (by decide)) rfl rfl (pm_cok rfl rfl (Or.inl rfl) rfl rfl) rfl rfl ?_
  show WP 40 (4, [(8, a0)], [], fx_fill h (a0 + 8) 10 (-1)) Q
  refine WP.aload_n rfl rfl ⟨by decide, by decide⟩ ?_
  refine WP.getR rfl rfl ?_
  refine WP.iconst rfl ?_
  refine WP.callF (c_J7_fill_I 1040 (a0 + 9) 0 _ ⟨by decide, by decide, by decide⟩ rfl (by decide)) rfl rfl (pm_cok rfl rfl (Or.inl rfl) rfl rfl) rfl rfl ?_
  show WP 40 (8, [(8, a0)], [], fx_fill (fx_fill h (a0 + 8) 10 (-1)) (a0 + 9) 10 0) Q
  refine WP.retv rfl ?_; exact kk
theorem c_X6_clear (a0 : Int) (h : pH) : CP 40 [(8, a0)] h (fun r h1 => r = none ∧ h1 = H_X6_clear a0 h) := w_X6_clear a0 h ⟨rfl, rfl⟩
noncomputable def s_X6_drawnFrom_1 (a0 : Int) (a1 : Int) (x2 : Int) (x3 : Int) (h : pH) : Int := if h (a0 + 5) x3 = a1 then x2 + ((h (a0 + 9) x3) * (h (a0 + 3) x3)) else x2
def C_X6_drawnFrom_4 (a0 : Int) (a1 : Int) (h : pH) (x2 : Int) (x3 : Int) : Prop := x3 < h a0 10
noncomputable def B_X6_drawnFrom_4 (a0 : Int) (a1 : Int) (h : pH) (x2 : Int) (x3 : Int) : Int × Int := (s_X6_drawnFrom_1 a0 a1 x2 x3 h, x3 + 1)
noncomputable def P_X6_drawnFrom_4 (a0 : Int) (a1 : Int) (h : pH) (x2 : Int) (x3 : Int) : Prop := ((x3 < h a0 10) → (0 ≤ x3 ∧ x3 < 10) ∧ (((h (a0 + 5) x3 = a1) → (P_X6_drawOf a0 x3 h ∧ (fx_i (x2 + ((h (a0 + 9) x3) * (h (a0 + 3) x3))))))) ∧ (fx_i (x3 + 1)))
noncomputable def L_X6_drawnFrom_4 (a0 : Int) (a1 : Int) (h : pH) (x2 : Int) (x3 : Int) : Int × Int := fx_wh (σ := Int × Int) (fun s => C_X6_drawnFrom_4 a0 a1 h s.1 s.2) (fun s => B_X6_drawnFrom_4 a0 a1 h s.1 s.2) (x2, x3)
def O_X6_drawnFrom_4 (a0 : Int) (a1 : Int) (h : pH) (x2 : Int) (x3 : Int) : Prop := fx_ok (σ := Int × Int) (fun s => C_X6_drawnFrom_4 a0 a1 h s.1 s.2) (fun s => B_X6_drawnFrom_4 a0 a1 h s.1 s.2) (fun s => P_X6_drawnFrom_4 a0 a1 h s.1 s.2) (x2, x3)
set_option maxHeartbeats 4000000 in
theorem lp_X6_drawnFrom_4 (a0 : Int) (a1 : Int) (h : pH) (x2 : Int) (x3 : Int) {Q : Option pV → pH → Prop} (hp : O_X6_drawnFrom_4 a0 a1 h x2 x3) (kk : ∀ us : List pV, WP 42 (22, [(8, a0), (0, a1), (0, (L_X6_drawnFrom_4 a0 a1 h x2 x3).1), (0, (L_X6_drawnFrom_4 a0 a1 h x2 x3).2)], [], h) Q) : ∀ us : List pV, WP 42 (4, [(8, a0), (0, a1), (0, x2), (0, x3)], [], h) Q := by
  refine WP.wh (σ := Int × Int) (fun s => C_X6_drawnFrom_4 a0 a1 h s.1 s.2) (fun s => B_X6_drawnFrom_4 a0 a1 h s.1 s.2) (fun s => P_X6_drawnFrom_4 a0 a1 h s.1 s.2) (fun s us => (4, [(8, a0), (0, a1), (0, s.1), (0, s.2)], [], h)) (x2, x3) hp ?_ ?_
  · intro s us hP hc kk
    obtain ⟨x2, x3⟩ := s
    change P_X6_drawnFrom_4 a0 a1 h x2 x3 at hP
    change x3 < h a0 10 at hc
    replace kk : ∀ (us' : List pV) (s' : Int × Int), s' = B_X6_drawnFrom_4 a0 a1 h x2 x3 → WP 42 (4, [(8, a0), (0, a1), (0, s'.1), (0, s'.2)], [], h) Q := fun us' s' e => by subst e; exact kk us'
    unfold P_X6_drawnFrom_4 at hP
    obtain ⟨o3, q10, o11⟩ := hP hc
    show WP 42 (4, [(8, a0), (0, a1), (0, x2), (0, x3)], [], h) Q
    refine WP.iload_n rfl rfl ?_
    refine WP.aload_n rfl rfl ⟨by decide, by decide⟩ ?_
    refine WP.getI rfl rfl ?_
    refine WP.ni_ge rfl (fun c2 => ?_) (fun c2 => ?_)
    · exact absurd hc (Int.not_lt.mpr c2)
    · refine WP.aload_n rfl rfl ⟨by decide, by decide⟩ ?_
      refine WP.getR rfl rfl ?_
      refine WP.iload_n rfl rfl ?_
      refine WP.iaload rfl ⟨by decide, by decide, by decide⟩ o3 ?_
      refine WP.iload_n rfl rfl ?_
      have k4 : ∀ Q' : Option pV → pH → Prop, (WP 42 (20, [(8, a0), (0, a1), (0, s_X6_drawnFrom_1 a0 a1 x2 x3 h), (0, x3)], [], h) Q') → WP 42 (13, [(8, a0), (0, a1), (0, x2), (0, x3)], [(0, a1), (0, h (a0 + 5) x3)], h) Q' := fun Q' kk => by
        have q8 := q10
        refine WP.ni_ne rfl (fun c5 => ?_) (fun c5 => ?_)
        · have e := kk; simp only [s_X6_drawnFrom_1, if_neg (c5)] at e ⊢; exact e
        · obtain ⟨o6, o7⟩ := q8 c5
          refine WP.iload_n rfl rfl ?_
          refine WP.aload_n rfl rfl ⟨by decide, by decide⟩ ?_
          refine WP.iload_n rfl rfl ?_
          refine WP.callF (c_X6_drawOf a0 x3 h o6) rfl rfl (pm_cok rfl rfl (Or.inr ⟨_, _, rfl⟩) rfl rfl) rfl rfl ?_
          show WP 42 (18, [(8, a0), (0, a1), (0, x2), (0, x3)], [(0, (h (a0 + 9) x3) * (h (a0 + 3) x3)), (0, x2)], h) Q'
          refine WP.iaddE rfl o7 ?_
          refine WP.istore_n (L' := [(8, a0), (0, a1), (0, x2 + ((h (a0 + 9) x3) * (h (a0 + 3) x3))), (0, x3)]) rfl rfl ?_
          have e := kk; simp only [s_X6_drawnFrom_1, if_pos c5] at e ⊢; exact e
      refine k4 _ ?_
      refine WP.iincE (L' := [(8, a0), (0, a1), (0, s_X6_drawnFrom_1 a0 a1 x2 x3 h), (0, x3 + 1)]) rfl rfl o11 rfl ?_
      refine WP.goto rfl ?_
      exact kk [] (s_X6_drawnFrom_1 a0 a1 x2 x3 h, x3 + 1) (rfl)
  · intro hP hc
    generalize hs : (L_X6_drawnFrom_4 a0 a1 h x2 x3 : Int × Int) = s at kk
    change P_X6_drawnFrom_4 a0 a1 h (L_X6_drawnFrom_4 a0 a1 h x2 x3).1 (L_X6_drawnFrom_4 a0 a1 h x2 x3).2 at hP
    change ¬ C_X6_drawnFrom_4 a0 a1 h (L_X6_drawnFrom_4 a0 a1 h x2 x3).1 (L_X6_drawnFrom_4 a0 a1 h x2 x3).2 at hc
    intro us
    show WP 42 (4, [(8, a0), (0, a1), (0, (L_X6_drawnFrom_4 a0 a1 h x2 x3).1), (0, (L_X6_drawnFrom_4 a0 a1 h x2 x3).2)], [], h) Q
    rw [hs] at hP hc ⊢
    obtain ⟨x2, x3⟩ := s
    change P_X6_drawnFrom_4 a0 a1 h x2 x3 at hP
    change ¬ (x3 < h a0 10) at hc
    unfold P_X6_drawnFrom_4 at hP
    show WP 42 (4, [(8, a0), (0, a1), (0, x2), (0, x3)], [], h) Q
    refine WP.iload_n rfl rfl ?_
    refine WP.aload_n rfl rfl ⟨by decide, by decide⟩ ?_
    refine WP.getI rfl rfl ?_
    refine WP.ni_ge rfl (fun c1 => ?_) (fun c1 => ?_)
    · exact kk []
    · exact absurd (show x3 < h a0 10 from c1) hc
noncomputable def s_X6_drawnFrom_2 (a0 : Int) (a1 : Int) (h : pH) : Int := (L_X6_drawnFrom_4 a0 a1 h 0 0).1
noncomputable def s_X6_drawnFrom_3 (a0 : Int) (a1 : Int) (h : pH) : Int := (L_X6_drawnFrom_4 a0 a1 h 0 0).2
noncomputable def F_X6_drawnFrom (a0 : Int) (a1 : Int) (h : pH) : Int := s_X6_drawnFrom_2 a0 a1 h
noncomputable def P_X6_drawnFrom (a0 : Int) (a1 : Int) (h : pH) : Prop := O_X6_drawnFrom_4 a0 a1 h 0 0
set_option maxHeartbeats 4000000 in
theorem w_X6_drawnFrom (a0 : Int) (a1 : Int) (h : pH) {Q : Option pV → pH → Prop} (hp : P_X6_drawnFrom a0 a1 h) (kk : Q (some (0, F_X6_drawnFrom a0 a1 h)) (h)) : WP 42 (0, [(8, a0), (0, a1), pU, pU], [], h) Q := by
  unfold P_X6_drawnFrom at hp
  have o12 := hp
  refine WP.iconst rfl ?_
  refine WP.istore_n (L' := [(8, a0), (0, a1), (0, 0), pU]) rfl rfl ?_
  refine WP.iconst rfl ?_
  refine WP.istore_n (L' := [(8, a0), (0, a1), (0, 0), (0, 0)]) rfl rfl ?_
  refine lp_X6_drawnFrom_4 a0 a1 h 0 0 o12 (fun us13 => ?_) []
  show WP 42 (22, [(8, a0), (0, a1), (0, s_X6_drawnFrom_2 a0 a1 h), (0, s_X6_drawnFrom_3 a0 a1 h)], [], h) Q
  refine WP.iload_n rfl rfl ?_
  refine WP.reti rfl ?_; exact kk
theorem c_X6_drawnFrom (a0 : Int) (a1 : Int) (h : pH) (hp : P_X6_drawnFrom a0 a1 h) : CP 42 [(8, a0), (0, a1)] h (fun r h1 => r = some (0, F_X6_drawnFrom a0 a1 h) ∧ h1 = h) := w_X6_drawnFrom a0 a1 h hp ⟨rfl, rfl⟩
def C_X6_drawn_4 (a0 : Int) (h : pH) (x1 : Int) (x2 : Int) : Prop := x2 < h a0 10
noncomputable def B_X6_drawn_4 (a0 : Int) (h : pH) (x1 : Int) (x2 : Int) : Int × Int := (x1 + ((h (a0 + 9) x2) * (h (a0 + 3) x2)), x2 + 1)
noncomputable def P_X6_drawn_4 (a0 : Int) (h : pH) (x1 : Int) (x2 : Int) : Prop := ((x2 < h a0 10) → P_X6_drawOf a0 x2 h ∧ (fx_i (x1 + ((h (a0 + 9) x2) * (h (a0 + 3) x2)))) ∧ (fx_i (x2 + 1)))
noncomputable def L_X6_drawn_4 (a0 : Int) (h : pH) (x1 : Int) (x2 : Int) : Int × Int := fx_wh (σ := Int × Int) (fun s => C_X6_drawn_4 a0 h s.1 s.2) (fun s => B_X6_drawn_4 a0 h s.1 s.2) (x1, x2)
def O_X6_drawn_4 (a0 : Int) (h : pH) (x1 : Int) (x2 : Int) : Prop := fx_ok (σ := Int × Int) (fun s => C_X6_drawn_4 a0 h s.1 s.2) (fun s => B_X6_drawn_4 a0 h s.1 s.2) (fun s => P_X6_drawn_4 a0 h s.1 s.2) (x1, x2)
set_option maxHeartbeats 4000000 in
theorem lp_X6_drawn_4 (a0 : Int) (h : pH) (x1 : Int) (x2 : Int) {Q : Option pV → pH → Prop} (hp : O_X6_drawn_4 a0 h x1 x2) (kk : ∀ us : List pV, WP 43 (16, [(8, a0), (0, (L_X6_drawn_4 a0 h x1 x2).1), (0, (L_X6_drawn_4 a0 h x1 x2).2)], [], h) Q) : ∀ us : List pV, WP 43 (4, [(8, a0), (0, x1), (0, x2)], [], h) Q := by
  refine WP.wh (σ := Int × Int) (fun s => C_X6_drawn_4 a0 h s.1 s.2) (fun s => B_X6_drawn_4 a0 h s.1 s.2) (fun s => P_X6_drawn_4 a0 h s.1 s.2) (fun s us => (4, [(8, a0), (0, s.1), (0, s.2)], [], h)) (x1, x2) hp ?_ ?_
  · intro s us hP hc kk
    obtain ⟨x1, x2⟩ := s
    change P_X6_drawn_4 a0 h x1 x2 at hP
    change x2 < h a0 10 at hc
    replace kk : ∀ (us' : List pV) (s' : Int × Int), s' = B_X6_drawn_4 a0 h x1 x2 → WP 43 (4, [(8, a0), (0, s'.1), (0, s'.2)], [], h) Q := fun us' s' e => by subst e; exact kk us'
    unfold P_X6_drawn_4 at hP
    obtain ⟨o3, o4, o5⟩ := hP hc
    show WP 43 (4, [(8, a0), (0, x1), (0, x2)], [], h) Q
    refine WP.iload_n rfl rfl ?_
    refine WP.aload_n rfl rfl ⟨by decide, by decide⟩ ?_
    refine WP.getI rfl rfl ?_
    refine WP.ni_ge rfl (fun c2 => ?_) (fun c2 => ?_)
    · exact absurd hc (Int.not_lt.mpr c2)
    · refine WP.iload_n rfl rfl ?_
      refine WP.aload_n rfl rfl ⟨by decide, by decide⟩ ?_
      refine WP.iload_n rfl rfl ?_
      refine WP.callF (c_X6_drawOf a0 x2 h o3) rfl rfl (pm_cok rfl rfl (Or.inr ⟨_, _, rfl⟩) rfl rfl) rfl rfl ?_
      show WP 43 (12, [(8, a0), (0, x1), (0, x2)], [(0, (h (a0 + 9) x2) * (h (a0 + 3) x2)), (0, x1)], h) Q
      refine WP.iaddE rfl o4 ?_
      refine WP.istore_n (L' := [(8, a0), (0, x1 + ((h (a0 + 9) x2) * (h (a0 + 3) x2))), (0, x2)]) rfl rfl ?_
      refine WP.iincE (L' := [(8, a0), (0, x1 + ((h (a0 + 9) x2) * (h (a0 + 3) x2))), (0, x2 + 1)]) rfl rfl o5 rfl ?_
      refine WP.goto rfl ?_
      exact kk [] (x1 + ((h (a0 + 9) x2) * (h (a0 + 3) x2)), x2 + 1) (rfl)
  · intro hP hc
    generalize hs : (L_X6_drawn_4 a0 h x1 x2 : Int × Int) = s at kk
    change P_X6_drawn_4 a0 h (L_X6_drawn_4 a0 h x1 x2).1 (L_X6_drawn_4 a0 h x1 x2).2 at hP
    change ¬ C_X6_drawn_4 a0 h (L_X6_drawn_4 a0 h x1 x2).1 (L_X6_drawn_4 a0 h x1 x2).2 at hc
    intro us
    show WP 43 (4, [(8, a0), (0, (L_X6_drawn_4 a0 h x1 x2).1), (0, (L_X6_drawn_4 a0 h x1 x2).2)], [], h) Q
    rw [hs] at hP hc ⊢
    obtain ⟨x1, x2⟩ := s
    change P_X6_drawn_4 a0 h x1 x2 at hP
    change ¬ (x2 < h a0 10) at hc
    unfold P_X6_drawn_4 at hP
    show WP 43 (4, [(8, a0), (0, x1), (0, x2)], [], h) Q
    refine WP.iload_n rfl rfl ?_
    refine WP.aload_n rfl rfl ⟨by decide, by decide⟩ ?_
    refine WP.getI rfl rfl ?_
    refine WP.ni_ge rfl (fun c1 => ?_) (fun c1 => ?_)
    · exact kk []
    · exact absurd (show x2 < h a0 10 from c1) hc
noncomputable def F_X6_drawn (a0 : Int) (h : pH) : Int := (L_X6_drawn_4 a0 h 0 0).1
noncomputable def P_X6_drawn (a0 : Int) (h : pH) : Prop := O_X6_drawn_4 a0 h 0 0
set_option maxHeartbeats 4000000 in
theorem w_X6_drawn (a0 : Int) (h : pH) {Q : Option pV → pH → Prop} (hp : P_X6_drawn a0 h) (kk : Q (some (0, F_X6_drawn a0 h)) (h)) : WP 43 (0, [(8, a0), pU, pU], [], h) Q := by
  unfold P_X6_drawn at hp
  have o6 := hp
  refine WP.iconst rfl ?_
  refine WP.istore_n (L' := [(8, a0), (0, 0), pU]) rfl rfl ?_
  refine WP.iconst rfl ?_
  refine WP.istore_n (L' := [(8, a0), (0, 0), (0, 0)]) rfl rfl ?_
  refine lp_X6_drawn_4 a0 h 0 0 o6 (fun us7 => ?_) []
  show WP 43 (16, [(8, a0), (0, (L_X6_drawn_4 a0 h 0 0).1), (0, (L_X6_drawn_4 a0 h 0 0).2)], [], h) Q
  refine WP.iload_n rfl rfl ?_
  refine WP.reti rfl ?_; exact kk
theorem c_X6_drawn (a0 : Int) (h : pH) (hp : P_X6_drawn a0 h) : CP 43 [(8, a0)] h (fun r h1 => r = some (0, F_X6_drawn a0 h) ∧ h1 = h) := w_X6_drawn a0 h hp ⟨rfl, rfl⟩
def C_X7_takeMachines_27 (a1 : Int) (x2 : Int) (x3 : Int) (x4 : Int) (h : pH) : Prop := 0 < x4 ∧ h 151 x3 < h 151 (h 152 (x4 - 1))
noncomputable def B_X7_takeMachines_27 (a1 : Int) (x2 : Int) (x3 : Int) (x4 : Int) (h : pH) : Int × pH := (x4 + (-1), pm_upd h 152 x4 (h 152 (x4 - 1)))
noncomputable def P_X7_takeMachines_27 (a1 : Int) (x2 : Int) (x3 : Int) (x4 : Int) (h : pH) : Prop := (((0 < x4) → ((fx_i (x4 - 1)) ∧ (0 ≤ x4 - 1 ∧ x4 - 1 < 10) ∧ (0 ≤ h 152 (x4 - 1) ∧ h 152 (x4 - 1) < 10) ∧ (0 ≤ x3 ∧ x3 < 10)))) ∧ ((0 < x4 ∧ h 151 x3 < h 151 (h 152 (x4 - 1))) → ((fx_i (x4 - 1)) ∧ (0 ≤ x4 - 1 ∧ x4 - 1 < 10) ∧ (0 ≤ h 152 (x4 - 1) ∧ h 152 (x4 - 1) < 10) ∧ (0 ≤ x3 ∧ x3 < 10) ∧ (0 ≤ x4 ∧ x4 < 10) ∧ (fx_i (x4 + (-1)))))
noncomputable def L_X7_takeMachines_27 (a1 : Int) (x2 : Int) (x3 : Int) (x4 : Int) (h : pH) : Int × pH := fx_wh (σ := Int × pH) (fun s => C_X7_takeMachines_27 a1 x2 x3 s.1 s.2) (fun s => B_X7_takeMachines_27 a1 x2 x3 s.1 s.2) (x4, h)
def O_X7_takeMachines_27 (a1 : Int) (x2 : Int) (x3 : Int) (x4 : Int) (h : pH) : Prop := fx_ok (σ := Int × pH) (fun s => C_X7_takeMachines_27 a1 x2 x3 s.1 s.2) (fun s => B_X7_takeMachines_27 a1 x2 x3 s.1 s.2) (fun s => P_X7_takeMachines_27 a1 x2 x3 s.1 s.2) (x4, h)
set_option maxHeartbeats 4000000 in
theorem lp_X7_takeMachines_27 (a1 : Int) (x2 : Int) (x3 : Int) (x4 : Int) (h : pH) {Q : Option pV → pH → Prop} (hp : O_X7_takeMachines_27 a1 x2 x3 x4 h) (kk : ∀ us : List pV, WP 48 (55, [(9, 147), (6, a1), (0, x2), (0, x3), (0, (L_X7_takeMachines_27 a1 x2 x3 x4 h).1)], [], (L_X7_takeMachines_27 a1 x2 x3 x4 h).2) Q) : ∀ us : List pV, WP 48 (27, [(9, 147), (6, a1), (0, x2), (0, x3), (0, x4)], [], h) Q := by
  refine WP.wh (σ := Int × pH) (fun s => C_X7_takeMachines_27 a1 x2 x3 s.1 s.2) (fun s => B_X7_takeMachines_27 a1 x2 x3 s.1 s.2) (fun s => P_X7_takeMachines_27 a1 x2 x3 s.1 s.2) (fun s us => (27, [(9, 147), (6, a1), (0, x2), (0, x3), (0, s.1)], [], s.2)) (x4, h) hp ?_ ?_
  · intro s us hP hc kk
    obtain ⟨x4, h⟩ := s
    change P_X7_takeMachines_27 a1 x2 x3 x4 h at hP
    change 0 < x4 ∧ h 151 x3 < h 151 (h 152 (x4 - 1)) at hc
    replace kk : ∀ (us' : List pV) (s' : Int × pH), s' = B_X7_takeMachines_27 a1 x2 x3 x4 h → WP 48 (27, [(9, 147), (6, a1), (0, x2), (0, x3), (0, s'.1)], [], s'.2) Q := fun us' s' e => by subst e; exact kk us'
    unfold P_X7_takeMachines_27 at hP
    obtain ⟨hPc, hPb⟩ := hP
    have q11 := hPc
    obtain ⟨o13, o14, o15, o16, o18, o19⟩ := hPb hc
    show WP 48 (27, [(9, 147), (6, a1), (0, x2), (0, x3), (0, x4)], [], h) Q
    refine WP.iload rfl rfl ?_
    refine WP.nz_le rfl (fun c12 => ?_) (fun c12 => ?_)
    · exact absurd hc (fun q => (Int.not_lt.mpr c12) q.1)
    · refine WP.aload_n rfl rfl ⟨by decide, by decide⟩ ?_
      refine WP.getRF (b := 151) rfl rfl rfl ?_
      refine WP.aload_n rfl rfl ⟨by decide, by decide⟩ ?_
      refine WP.getRF (b := 152) rfl rfl rfl ?_
      refine WP.iload rfl rfl ?_
      refine WP.iconst rfl ?_
      refine WP.isubE rfl o13 ?_
      refine WP.iaload rfl ⟨by decide, by decide, by decide⟩ o14 ?_
      refine WP.iaload rfl ⟨by decide, by decide, by decide⟩ o15 ?_
      refine WP.aload_n rfl rfl ⟨by decide, by decide⟩ ?_
      refine WP.getRF (b := 151) rfl rfl rfl ?_
      refine WP.iload_n rfl rfl ?_
      refine WP.iaload rfl ⟨by decide, by decide, by decide⟩ o16 ?_
      refine WP.ni_le rfl (fun c17 => ?_) (fun c17 => ?_)
      · exact absurd hc (fun q => (Int.not_lt.mpr c17) q.2)
      · refine WP.aload_n rfl rfl ⟨by decide, by decide⟩ ?_
        refine WP.getRF (b := 152) rfl rfl rfl ?_
        refine WP.iload rfl rfl ?_
        refine WP.aload_n rfl rfl ⟨by decide, by decide⟩ ?_
        refine WP.getRF (b := 152) rfl rfl rfl ?_
        refine WP.iload rfl rfl ?_
        refine WP.iconst rfl ?_
        refine WP.isubE rfl o13 ?_
        refine WP.iaload rfl ⟨by decide, by decide, by decide⟩ o14 ?_
        refine WP.iastore rfl ⟨by decide, by decide, by decide⟩ o18 ?_
        refine WP.iincE (L' := [(9, 147), (6, a1), (0, x2), (0, x3), (0, x4 + (-1))]) rfl rfl o19 rfl ?_
        refine WP.goto rfl ?_
        exact kk [] (x4 + (-1), pm_upd h 152 x4 (h 152 (x4 - 1))) (rfl)
  · intro hP hc
    generalize hs : (L_X7_takeMachines_27 a1 x2 x3 x4 h : Int × pH) = s at kk
    change P_X7_takeMachines_27 a1 x2 x3 (L_X7_takeMachines_27 a1 x2 x3 x4 h).1 (L_X7_takeMachines_27 a1 x2 x3 x4 h).2 at hP
    change ¬ C_X7_takeMachines_27 a1 x2 x3 (L_X7_takeMachines_27 a1 x2 x3 x4 h).1 (L_X7_takeMachines_27 a1 x2 x3 x4 h).2 at hc
    intro us
    show WP 48 (27, [(9, 147), (6, a1), (0, x2), (0, x3), (0, (L_X7_takeMachines_27 a1 x2 x3 x4 h).1)], [], (L_X7_takeMachines_27 a1 x2 x3 x4 h).2) Q
    rw [hs] at hP hc ⊢
    obtain ⟨x4, h⟩ := s
    change P_X7_takeMachines_27 a1 x2 x3 x4 h at hP
    change ¬ (0 < x4 ∧ h 151 x3 < h 151 (h 152 (x4 - 1))) at hc
    unfold P_X7_takeMachines_27 at hP
    have q11 := hP.1
    show WP 48 (27, [(9, 147), (6, a1), (0, x2), (0, x3), (0, x4)], [], h) Q
    refine WP.iload rfl rfl ?_
    refine WP.nz_le rfl (fun c5 => ?_) (fun c5 => ?_)
    · exact kk []
    · obtain ⟨o6, o7, o8, o9⟩ := q11 c5
      refine WP.aload_n rfl rfl ⟨by decide, by decide⟩ ?_
      refine WP.getRF (b := 151) rfl rfl rfl ?_
      refine WP.aload_n rfl rfl ⟨by decide, by decide⟩ ?_
      refine WP.getRF (b := 152) rfl rfl rfl ?_
      refine WP.iload rfl rfl ?_
      refine WP.iconst rfl ?_
      refine WP.isubE rfl o6 ?_
      refine WP.iaload rfl ⟨by decide, by decide, by decide⟩ o7 ?_
      refine WP.iaload rfl ⟨by decide, by decide, by decide⟩ o8 ?_
      refine WP.aload_n rfl rfl ⟨by decide, by decide⟩ ?_
      refine WP.getRF (b := 151) rfl rfl rfl ?_
      refine WP.iload_n rfl rfl ?_
      refine WP.iaload rfl ⟨by decide, by decide, by decide⟩ o9 ?_
      refine WP.ni_le rfl (fun c10 => ?_) (fun c10 => ?_)
      · exact kk []
      · exact absurd (show 0 < x4 ∧ h 151 x3 < h 151 (h 152 (x4 - 1)) from ⟨c5, c10⟩) hc
noncomputable def s_X7_takeMachines_1 (a1 : Int) (x2 : Int) (x3 : Int) (h : pH) : Int := (L_X7_takeMachines_27 a1 x2 x3 x3 (pm_upd h 151 x3 (s_X0_gauge_1 (a1 + 1) (h (a1 + 8) x3) h))).1
noncomputable def s_X7_takeMachines_2 (a1 : Int) (x2 : Int) (x3 : Int) (h : pH) : pH := (L_X7_takeMachines_27 a1 x2 x3 x3 (pm_upd h 151 x3 (s_X0_gauge_1 (a1 + 1) (h (a1 + 8) x3) h))).2
noncomputable def s_X7_takeMachines_3 (a1 : Int) (x2 : Int) (x3 : Int) (h : pH) : pH := pm_upd (s_X7_takeMachines_2 a1 x2 x3 h) 152 (s_X7_takeMachines_1 a1 x2 x3 h) x3
noncomputable def s_X7_takeMachines_4 (a1 : Int) (x2 : Int) (x3 : Int) (h : pH) : Int := if F_X6_isFit (a1 + 7) x3 (s_X7_takeMachines_3 a1 x2 x3 h) = 0 then x2 else pm_or x2 (pm_shl 1 x3)
def C_X7_takeMachines_9 (a1 : Int) (x2 : Int) (x3 : Int) (h : pH) : Prop := x3 < h 147 6
noncomputable def B_X7_takeMachines_9 (a1 : Int) (x2 : Int) (x3 : Int) (h : pH) : Int × Int × pH := (s_X7_takeMachines_4 a1 x2 x3 h, x3 + 1, s_X7_takeMachines_3 a1 x2 x3 h)
noncomputable def P_X7_takeMachines_9 (a1 : Int) (x2 : Int) (x3 : Int) (h : pH) : Prop := ((x3 < h 147 6) → (0 ≤ x3 ∧ x3 < 10) ∧ (P_X0_gauge (a1 + 1) (h (a1 + 8) x3) h) ∧ (O_X7_takeMachines_27 a1 x2 x3 x3 (pm_upd h 151 x3 (s_X0_gauge_1 (a1 + 1) (h (a1 + 8) x3) h))) ∧ (0 ≤ s_X7_takeMachines_1 a1 x2 x3 h ∧ s_X7_takeMachines_1 a1 x2 x3 h < 10) ∧ (P_X6_isFit (a1 + 7) x3 (s_X7_takeMachines_3 a1 x2 x3 h)) ∧ (fx_i (x3 + 1)))
noncomputable def L_X7_takeMachines_9 (a1 : Int) (x2 : Int) (x3 : Int) (h : pH) : Int × Int × pH := fx_wh (σ := Int × Int × pH) (fun s => C_X7_takeMachines_9 a1 s.1 s.2.1 s.2.2) (fun s => B_X7_takeMachines_9 a1 s.1 s.2.1 s.2.2) (x2, x3, h)
def O_X7_takeMachines_9 (a1 : Int) (x2 : Int) (x3 : Int) (h : pH) : Prop := fx_ok (σ := Int × Int × pH) (fun s => C_X7_takeMachines_9 a1 s.1 s.2.1 s.2.2) (fun s => B_X7_takeMachines_9 a1 s.1 s.2.1 s.2.2) (fun s => P_X7_takeMachines_9 a1 s.1 s.2.1 s.2.2) (x2, x3, h)
set_option maxHeartbeats 4000000 in
theorem lp_X7_takeMachines_9 (a1 : Int) (x2 : Int) (x3 : Int) (h : pH) {Q : Option pV → pH → Prop} (hp : O_X7_takeMachines_9 a1 x2 x3 h) (kk : ∀ us : List pV, WP 48 (73, [(9, 147), (6, a1), (0, (L_X7_takeMachines_9 a1 x2 x3 h).1), (0, (L_X7_takeMachines_9 a1 x2 x3 h).2.1), us.getD 0 pU], [], (L_X7_takeMachines_9 a1 x2 x3 h).2.2) Q) : ∀ us : List pV, WP 48 (9, [(9, 147), (6, a1), (0, x2), (0, x3), us.getD 0 pU], [], h) Q := by
  refine WP.wh (σ := Int × Int × pH) (fun s => C_X7_takeMachines_9 a1 s.1 s.2.1 s.2.2) (fun s => B_X7_takeMachines_9 a1 s.1 s.2.1 s.2.2) (fun s => P_X7_takeMachines_9 a1 s.1 s.2.1 s.2.2) (fun s us => (9, [(9, 147), (6, a1), (0, s.1), (0, s.2.1), us.getD 0 pU], [], s.2.2)) (x2, x3, h) hp ?_ ?_
  · intro s us hP hc kk
    obtain ⟨x2, x3, h⟩ := s
    change P_X7_takeMachines_9 a1 x2 x3 h at hP
    change x3 < h 147 6 at hc
    replace kk : ∀ (us' : List pV) (s' : Int × Int × pH), s' = B_X7_takeMachines_9 a1 x2 x3 h → WP 48 (9, [(9, 147), (6, a1), (0, s'.1), (0, s'.2.1), us'.getD 0 pU], [], s'.2.2) Q := fun us' s' e => by subst e; exact kk us'
    unfold P_X7_takeMachines_9 at hP
    obtain ⟨o3, o4, o20, o22, o23, o27⟩ := hP hc
    show WP 48 (9, [(9, 147), (6, a1), (0, x2), (0, x3), us.getD 0 pU], [], h) Q
    refine WP.iload_n rfl rfl ?_
    refine WP.aload_n rfl rfl ⟨by decide, by decide⟩ ?_
    refine WP.getI rfl rfl ?_
    refine WP.ni_ge rfl (fun c2 => ?_) (fun c2 => ?_)
    · exact absurd hc (Int.not_lt.mpr c2)
    · refine WP.aload_n rfl rfl ⟨by decide, by decide⟩ ?_
      refine WP.getRF (b := 151) rfl rfl rfl ?_
      refine WP.iload_n rfl rfl ?_
      refine WP.aload_n rfl rfl ⟨by decide, by decide⟩ ?_
      refine WP.getR rfl rfl ?_
      refine WP.aload_n rfl rfl ⟨by decide, by decide⟩ ?_
      refine WP.getR rfl rfl ?_
      refine WP.getRF (b := a1 + 8) rfl rfl (fx_ad rfl) ?_
      refine WP.iload_n rfl rfl ?_
      refine WP.iaload rfl ⟨by decide, by decide, by decide⟩ o3 ?_
      refine WP.callF (c_X0_gauge (a1 + 1) (h (a1 + 8) x3) h o4) rfl rfl (pm_cok rfl rfl (Or.inr ⟨_, _, rfl⟩) rfl rfl) rfl rfl ?_
      show WP 48 (24, [(9, 147), (6, a1), (0, x2), (0, x3), us.getD 0 pU], [(0, s_X0_gauge_1 (a1 + 1) (h (a1 + 8) x3) h), (0, x3), (1040, 151)], h) Q
      refine WP.iastore rfl ⟨by decide, by decide, by decide⟩ o3 ?_
      refine WP.iload_n rfl rfl ?_
      refine WP.istore (L' := [(9, 147), (6, a1), (0, x2), (0, x3), (0, x3)]) rfl rfl ?_
      refine lp_X7_takeMachines_27 a1 x2 x3 x3 (pm_upd h 151 x3 (s_X0_gauge_1 (a1 + 1) (h (a1 + 8) x3) h)) o20 (fun us21 => ?_) []
      show WP 48 (55, [(9, 147), (6, a1), (0, x2), (0, x3), (0, s_X7_takeMachines_1 a1 x2 x3 h)], [], s_X7_takeMachines_2 a1 x2 x3 h) Q
      refine WP.aload_n rfl rfl ⟨by decide, by decide⟩ ?_
      refine WP.getRF (b := 152) rfl rfl rfl ?_
      refine WP.iload rfl rfl ?_
      refine WP.iload_n rfl rfl ?_
      refine WP.iastore rfl ⟨by decide, by decide, by decide⟩ o22 ?_
      show WP 48 (60, [(9, 147), (6, a1), (0, x2), (0, x3), (0, s_X7_takeMachines_1 a1 x2 x3 h)], [], s_X7_takeMachines_3 a1 x2 x3 h) Q
      refine WP.aload_n rfl rfl ⟨by decide, by decide⟩ ?_
      refine WP.getR rfl rfl ?_
      refine WP.iload_n rfl rfl ?_
      refine WP.callF (c_X6_isFit (a1 + 7) x3 (s_X7_takeMachines_3 a1 x2 x3 h) o23) rfl rfl (pm_cok rfl rfl (Or.inr ⟨_, _, rfl⟩) rfl rfl) rfl rfl ?_
      show WP 48 (64, [(9, 147), (6, a1), (0, x2), (0, x3), (0, s_X7_takeMachines_1 a1 x2 x3 h)], [(0, F_X6_isFit (a1 + 7) x3 (s_X7_takeMachines_3 a1 x2 x3 h))], s_X7_takeMachines_3 a1 x2 x3 h) Q
      have k24 : ∀ Q' : Option pV → pH → Prop, (WP 48 (71, [(9, 147), (6, a1), (0, s_X7_takeMachines_4 a1 x2 x3 h), (0, x3), (0, s_X7_takeMachines_1 a1 x2 x3 h)], [], s_X7_takeMachines_3 a1 x2 x3 h) Q') → WP 48 (64, [(9, 147), (6, a1), (0, x2), (0, x3), (0, s_X7_takeMachines_1 a1 x2 x3 h)], [(0, F_X6_isFit (a1 + 7) x3 (s_X7_takeMachines_3 a1 x2 x3 h))], s_X7_takeMachines_3 a1 x2 x3 h) Q' := fun Q' kk => by
        refine WP.nz_eq rfl (fun c25 => ?_) (fun c25 => ?_)
        · have e := kk; simp only [s_X7_takeMachines_4, if_pos c25] at e ⊢; exact e
        · refine WP.iload_n rfl rfl ?_
          refine WP.iconst rfl ?_
          refine WP.iload_n rfl rfl ?_
          refine WP.ishl rfl ?_
          refine WP.ior rfl ?_
          refine WP.istore_n (L' := [(9, 147), (6, a1), (0, pm_or x2 (pm_shl 1 x3)), (0, x3), (0, s_X7_takeMachines_1 a1 x2 x3 h)]) rfl rfl ?_
          have e := kk; simp only [s_X7_takeMachines_4, if_neg (c25)] at e ⊢; exact e
      refine k24 _ ?_
      refine WP.iincE (L' := [(9, 147), (6, a1), (0, s_X7_takeMachines_4 a1 x2 x3 h), (0, x3 + 1), (0, s_X7_takeMachines_1 a1 x2 x3 h)]) rfl rfl o27 rfl ?_
      refine WP.goto rfl ?_
      exact kk [(0, s_X7_takeMachines_1 a1 x2 x3 h)] (s_X7_takeMachines_4 a1 x2 x3 h, x3 + 1, s_X7_takeMachines_3 a1 x2 x3 h) (rfl)
  · intro hP hc
    generalize hs : (L_X7_takeMachines_9 a1 x2 x3 h : Int × Int × pH) = s at kk
    change P_X7_takeMachines_9 a1 (L_X7_takeMachines_9 a1 x2 x3 h).1 (L_X7_takeMachines_9 a1 x2 x3 h).2.1 (L_X7_takeMachines_9 a1 x2 x3 h).2.2 at hP
    change ¬ C_X7_takeMachines_9 a1 (L_X7_takeMachines_9 a1 x2 x3 h).1 (L_X7_takeMachines_9 a1 x2 x3 h).2.1 (L_X7_takeMachines_9 a1 x2 x3 h).2.2 at hc
    intro us
    show WP 48 (9, [(9, 147), (6, a1), (0, (L_X7_takeMachines_9 a1 x2 x3 h).1), (0, (L_X7_takeMachines_9 a1 x2 x3 h).2.1), us.getD 0 pU], [], (L_X7_takeMachines_9 a1 x2 x3 h).2.2) Q
    rw [hs] at hP hc ⊢
    obtain ⟨x2, x3, h⟩ := s
    change P_X7_takeMachines_9 a1 x2 x3 h at hP
    change ¬ (x3 < h 147 6) at hc
    unfold P_X7_takeMachines_9 at hP
    show WP 48 (9, [(9, 147), (6, a1), (0, x2), (0, x3), us.getD 0 pU], [], h) Q
    refine WP.iload_n rfl rfl ?_
    refine WP.aload_n rfl rfl ⟨by decide, by decide⟩ ?_
    refine WP.getI rfl rfl ?_
    refine WP.ni_ge rfl (fun c1 => ?_) (fun c1 => ?_)
    · exact kk [us.getD 0 pU]
    · exact absurd (show x3 < h 147 6 from c1) hc
noncomputable def s_X7_takeMachines_5 (a1 : Int) (h : pH) : Int := (L_X7_takeMachines_9 a1 0 0 (pm_upd h 147 6 (h (a1 + 7) 10))).1
noncomputable def s_X7_takeMachines_6 (a1 : Int) (h : pH) : Int := (L_X7_takeMachines_9 a1 0 0 (pm_upd h 147 6 (h (a1 + 7) 10))).2.1
noncomputable def s_X7_takeMachines_7 (a1 : Int) (h : pH) : pH := (L_X7_takeMachines_9 a1 0 0 (pm_upd h 147 6 (h (a1 + 7) 10))).2.2
noncomputable def F_X7_takeMachines (a1 : Int) (h : pH) : Int := s_X7_takeMachines_5 a1 h
noncomputable def H_X7_takeMachines (a1 : Int) (h : pH) : pH := s_X7_takeMachines_7 a1 h
noncomputable def P_X7_takeMachines (a1 : Int) (h : pH) : Prop := (O_X7_takeMachines_9 a1 0 0 (pm_upd h 147 6 (h (a1 + 7) 10)))
set_option maxHeartbeats 4000000 in
theorem w_X7_takeMachines (a1 : Int) (h : pH) {Q : Option pV → pH → Prop} (hp : P_X7_takeMachines a1 h) (kk : Q (some (0, F_X7_takeMachines a1 h)) (H_X7_takeMachines a1 h)) : WP 48 (0, [(9, 147), (6, a1), pU, pU, pU], [], h) Q := by
  unfold P_X7_takeMachines at hp
  have o28 := hp
  refine WP.iconst rfl ?_
  refine WP.istore_n (L' := [(9, 147), (6, a1), (0, 0), pU, pU]) rfl rfl ?_
  refine WP.aload_n rfl rfl ⟨by decide, by decide⟩ ?_
  refine WP.aload_n rfl rfl ⟨by decide, by decide⟩ ?_
  refine WP.getR rfl rfl ?_
  refine WP.getI rfl rfl ?_
  refine WP.putI rfl rfl ?_
  refine WP.iconst rfl ?_
  refine WP.istore_n (L' := [(9, 147), (6, a1), (0, 0), (0, 0), pU]) rfl rfl ?_
  refine lp_X7_takeMachines_9 a1 0 0 (pm_upd h 147 6 (h (a1 + 7) 10)) o28 (fun us29 => ?_) [pU]
  show WP 48 (73, [(9, 147), (6, a1), (0, s_X7_takeMachines_5 a1 h), (0, s_X7_takeMachines_6 a1 h), us29.getD 0 pU], [], s_X7_takeMachines_7 a1 h) Q
  refine WP.iload_n rfl rfl ?_
  refine WP.reti rfl ?_; exact kk
theorem c_X7_takeMachines (a1 : Int) (h : pH) (hp : P_X7_takeMachines a1 h) : CP 48 [(9, 147), (6, a1)] h (fun r h1 => r = some (0, F_X7_takeMachines a1 h) ∧ h1 = H_X7_takeMachines a1 h) := w_X7_takeMachines a1 h hp ⟨rfl, rfl⟩
