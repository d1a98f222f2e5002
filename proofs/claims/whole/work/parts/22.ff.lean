noncomputable def s_X12_house_1 (a1 : Int) (a2 : Int) (a3 : Int) (a4 : Int) (h : pH) : pH := pm_upd (pm_upd (pm_upd h 249 (174 + a1) a2) 249 (182 + a1) a3) 249 (190 + a1) a4
noncomputable def F_X12_house (a1 : Int) (a2 : Int) (a3 : Int) (a4 : Int) (h : pH) : Int := if 0 ≤ a1 ∧ a1 ≤ 7 then if 0 ≤ a2 ∧ a2 ≤ 99 then if 0 ≤ a3 ∧ a3 ≤ 1000 then if 0 ≤ a4 ∧ a4 ≤ 1000 then 1 else (-2) else (-2) else (-2) else (-2)
noncomputable def H_X12_house (a1 : Int) (a2 : Int) (a3 : Int) (a4 : Int) (h : pH) : pH := if 0 ≤ a1 ∧ a1 ≤ 7 then if 0 ≤ a2 ∧ a2 ≤ 99 then if 0 ≤ a3 ∧ a3 ≤ 1000 then if 0 ≤ a4 ∧ a4 ≤ 1000 then s_X12_house_1 a1 a2 a3 a4 h else h else h else h else h
noncomputable def P_X12_house (a1 : Int) (a2 : Int) (a3 : Int) (a4 : Int) (h : pH) : Prop := ((0 ≤ a1 ∧ a1 ≤ 7) → (((0 ≤ a2 ∧ a2 ≤ 99) → (((0 ≤ a3 ∧ a3 ≤ 1000) → (((0 ≤ a4 ∧ a4 ≤ 1000) → ((fx_i (174 + a1)) ∧ (0 ≤ 174 + a1 ∧ 174 + a1 < 620) ∧ (fx_i (182 + a1)) ∧ (0 ≤ 182 + a1 ∧ 182 + a1 < 620) ∧ (fx_i (190 + a1)) ∧ (0 ≤ 190 + a1 ∧ 190 + a1 < 620)))))))))
set_option maxHeartbeats 4000000 in
theorem w_X12_house (a1 : Int) (a2 : Int) (a3 : Int) (a4 : Int) (h : pH) {Q : Option pV → pH → Prop} (hp : P_X12_house a1 a2 a3 a4 h) (kk : Q (some (0, F_X12_house a1 a2 a3 a4 h)) (H_X12_house a1 a2 a3 a4 h)) : WP 157 (0, [(14, 248), (0, a1), (0, a2), (0, a3), (0, a4)], [], h) Q := by
  unfold P_X12_house at hp
  have q14 := hp
  refine WP.iload_n rfl rfl ?_
  refine WP.callF (c_X12_isHouse a1 h) rfl rfl (pm_cok rfl rfl (Or.inl rfl) rfl rfl) rfl rfl ?_
  show WP 157 (2, [(14, 248), (0, a1), (0, a2), (0, a3), (0, a4)], [(0, if 0 ≤ a1 ∧ a1 ≤ 7 then 1 else 0)], h) Q
  refine WP.nb_eq rfl (fun c1 => ?_) (fun c1 => ?_)
  · refine WP.bipush rfl ?_
    refine WP.reti rfl ?_; have e := kk; simp only [F_X12_house, H_X12_house, if_neg (c1)] at e ⊢; exact e
  · have q13 := q14 c1
    refine WP.iload_n rfl rfl ?_
    refine WP.i2l rfl ?_
    refine WP.lconst rfl ?_
    refine WP.ldc2_w rfl ?_
    refine WP.callF (c_X12_in a2 0 99 h) rfl rfl (pm_cok rfl rfl (Or.inl rfl) rfl rfl) rfl rfl ?_
    show WP 157 (8, [(14, 248), (0, a1), (0, a2), (0, a3), (0, a4)], [(0, if 0 ≤ a2 ∧ a2 ≤ 99 then 1 else 0)], h) Q
    refine WP.nb_eq rfl (fun c2 => ?_) (fun c2 => ?_)
    · refine WP.bipush rfl ?_
      refine WP.reti rfl ?_; have e := kk; simp only [F_X12_house, H_X12_house, if_pos c1, if_neg (c2)] at e ⊢; exact e
    · have q12 := q13 c2
      refine WP.iload_n rfl rfl ?_
      refine WP.i2l rfl ?_
      refine WP.lconst rfl ?_
      refine WP.ldc2_w rfl ?_
      refine WP.callF (c_X12_in a3 0 1000 h) rfl rfl (pm_cok rfl rfl (Or.inl rfl) rfl rfl) rfl rfl ?_
      show WP 157 (14, [(14, 248), (0, a1), (0, a2), (0, a3), (0, a4)], [(0, if 0 ≤ a3 ∧ a3 ≤ 1000 then 1 else 0)], h) Q
      refine WP.nb_eq rfl (fun c3 => ?_) (fun c3 => ?_)
      · refine WP.bipush rfl ?_
        refine WP.reti rfl ?_; have e := kk; simp only [F_X12_house, H_X12_house, if_pos c1, if_pos c2, if_neg (c3)] at e ⊢; exact e
      · have q11 := q12 c3
        refine WP.iload rfl rfl ?_
        refine WP.i2l rfl ?_
        refine WP.lconst rfl ?_
        refine WP.ldc2_w rfl ?_
        refine WP.callF (c_X12_in a4 0 1000 h) rfl rfl (pm_cok rfl rfl (Or.inl rfl) rfl rfl) rfl rfl ?_
        show WP 157 (20, [(14, 248), (0, a1), (0, a2), (0, a3), (0, a4)], [(0, if 0 ≤ a4 ∧ a4 ≤ 1000 then 1 else 0)], h) Q
        refine WP.nb_ne rfl (fun c4 => ?_) (fun c4 => ?_)
        · obtain ⟨o5, o6, o7, o8, o9, o10⟩ := q11 c4
          refine WP.aload_n rfl rfl ⟨by decide, by decide⟩ ?_
          refine WP.getRF (b := 249) rfl rfl rfl ?_
          refine WP.sipush rfl ?_
          refine WP.iload_n rfl rfl ?_
          refine WP.iaddE rfl o5 ?_
          refine WP.iload_n rfl rfl ?_
          refine WP.i2l rfl ?_
          refine WP.lastore rfl ⟨by decide, by decide, by decide⟩ o6 ?_
          refine WP.aload_n rfl rfl ⟨by decide, by decide⟩ ?_
          refine WP.getRF (b := 249) rfl rfl rfl ?_
          refine WP.sipush rfl ?_
          refine WP.iload_n rfl rfl ?_
          refine WP.iaddE rfl o7 ?_
          refine WP.iload_n rfl rfl ?_
          refine WP.i2l rfl ?_
          refine WP.lastore rfl ⟨by decide, by decide, by decide⟩ o8 ?_
          refine WP.aload_n rfl rfl ⟨by decide, by decide⟩ ?_
          refine WP.getRF (b := 249) rfl rfl rfl ?_
          refine WP.sipush rfl ?_
          refine WP.iload_n rfl rfl ?_
          refine WP.iaddE rfl o9 ?_
          refine WP.iload rfl rfl ?_
          refine WP.i2l rfl ?_
          refine WP.lastore rfl ⟨by decide, by decide, by decide⟩ o10 ?_
          show WP 157 (47, [(14, 248), (0, a1), (0, a2), (0, a3), (0, a4)], [], s_X12_house_1 a1 a2 a3 a4 h) Q
          refine WP.iconst rfl ?_
          refine WP.reti rfl ?_; have e := kk; simp only [F_X12_house, H_X12_house, if_pos c1, if_pos c2, if_pos c3, if_pos c4] at e ⊢; exact e
        · refine WP.bipush rfl ?_
          refine WP.reti rfl ?_; have e := kk; simp only [F_X12_house, H_X12_house, if_pos c1, if_pos c2, if_pos c3, if_neg (c4)] at e ⊢; exact e
theorem c_X12_house (a1 : Int) (a2 : Int) (a3 : Int) (a4 : Int) (h : pH) (hp : P_X12_house a1 a2 a3 a4 h) : CP 157 [(14, 248), (0, a1), (0, a2), (0, a3), (0, a4)] h (fun r h1 => r = some (0, F_X12_house a1 a2 a3 a4 h) ∧ h1 = H_X12_house a1 a2 a3 a4 h) := w_X12_house a1 a2 a3 a4 h hp ⟨rfl, rfl⟩
noncomputable def s_X12_batch_1 (a1 : Int) (a2 : Int) (a3 : Int) (a4 : Int) (h : pH) : pH := if (0 ≤ a1 ∧ a1 ≤ 7) ∧ ((1 ≤ a2 ∧ a2 ≤ 1000) ∧ (((h 249 15) ≤ a3 ∧ a3 ≤ 9999) ∧ ((-1) ≤ a4 ∧ a4 ≤ ((h 249 12) - 1)))) then H_X12_addWork 0 a1 a2 0 a3 a4 h else h
noncomputable def s_X12_batch_2 (a1 : Int) (a2 : Int) (a3 : Int) (a4 : Int) (h : pH) : Int := if (0 ≤ a1 ∧ a1 ≤ 7) ∧ ((1 ≤ a2 ∧ a2 ≤ 1000) ∧ (((h 249 15) ≤ a3 ∧ a3 ≤ 9999) ∧ ((-1) ≤ a4 ∧ a4 ≤ ((h 249 12) - 1)))) then F_X12_addWork 0 a1 a2 0 a3 a4 h else (-2)
noncomputable def F_X12_batch (a1 : Int) (a2 : Int) (a3 : Int) (a4 : Int) (h : pH) : Int := s_X12_batch_2 a1 a2 a3 a4 h
noncomputable def H_X12_batch (a1 : Int) (a2 : Int) (a3 : Int) (a4 : Int) (h : pH) : pH := s_X12_batch_1 a1 a2 a3 a4 h
noncomputable def P_X12_batch (a1 : Int) (a2 : Int) (a3 : Int) (a4 : Int) (h : pH) : Prop := (((0 ≤ a1 ∧ a1 ≤ 7) → (((1 ≤ a2 ∧ a2 ≤ 1000) → ((((h 249 15) ≤ a3 ∧ a3 ≤ 9999) → P_X12_isPin a4 h)))))) ∧ ((((0 ≤ a1 ∧ a1 ≤ 7) ∧ ((1 ≤ a2 ∧ a2 ≤ 1000) ∧ (((h 249 15) ≤ a3 ∧ a3 ≤ 9999) ∧ ((-1) ≤ a4 ∧ a4 ≤ ((h 249 12) - 1))))) → P_X12_addWork 0 a1 a2 0 a3 a4 h))
set_option maxHeartbeats 4000000 in
theorem w_X12_batch (a1 : Int) (a2 : Int) (a3 : Int) (a4 : Int) (h : pH) {Q : Option pV → pH → Prop} (hp : P_X12_batch a1 a2 a3 a4 h) (kk : Q (some (0, F_X12_batch a1 a2 a3 a4 h)) (H_X12_batch a1 a2 a3 a4 h)) : WP 160 (0, [(14, 248), (0, a1), (0, a2), (0, a3), (0, a4), pU], [], h) Q := by
  unfold P_X12_batch at hp
  obtain ⟨q11, q17⟩ := hp
  refine WP.iload_n rfl rfl ?_
  refine WP.callF (c_X12_isHouse a1 h) rfl rfl (pm_cok rfl rfl (Or.inl rfl) rfl rfl) rfl rfl ?_
  show WP 160 (2, [(14, 248), (0, a1), (0, a2), (0, a3), (0, a4), pU], [(0, if 0 ≤ a1 ∧ a1 ≤ 7 then 1 else 0)], h) Q
  have k1 : ∀ Q' : Option pV → pH → Prop, (WP 160 (25, [(14, 248), (0, a1), (0, a2), (0, a3), (0, a4), pU], [(0, if (0 ≤ a1 ∧ a1 ≤ 7) ∧ ((1 ≤ a2 ∧ a2 ≤ 1000) ∧ (((h 249 15) ≤ a3 ∧ a3 ≤ 9999) ∧ ((-1) ≤ a4 ∧ a4 ≤ ((h 249 12) - 1)))) then 1 else 0)], h) Q') → WP 160 (2, [(14, 248), (0, a1), (0, a2), (0, a3), (0, a4), pU], [(0, if 0 ≤ a1 ∧ a1 ≤ 7 then 1 else 0)], h) Q' := fun Q' kk => by
    have q9 := q11
    refine WP.nb_eq rfl (fun c2 => ?_) (fun c2 => ?_)
    · refine WP.iconst rfl ?_
      have e := kk; simp only [if_neg (c2), if_neg (show ¬ ((0 ≤ a1 ∧ a1 ≤ 7) ∧ ((1 ≤ a2 ∧ a2 ≤ 1000) ∧ (((h 249 15) ≤ a3 ∧ a3 ≤ 9999) ∧ ((-1) ≤ a4 ∧ a4 ≤ ((h 249 12) - 1))))) from fun q => (c2) q.1)] at e ⊢; exact e
    · have q8 := q9 c2
      refine WP.iload_n rfl rfl ?_
      refine WP.i2l rfl ?_
      refine WP.lconst rfl ?_
      refine WP.ldc2_w rfl ?_
      refine WP.callF (c_X12_in a2 1 1000 h) rfl rfl (pm_cok rfl rfl (Or.inl rfl) rfl rfl) rfl rfl ?_
      show WP 160 (8, [(14, 248), (0, a1), (0, a2), (0, a3), (0, a4), pU], [(0, if 1 ≤ a2 ∧ a2 ≤ 1000 then 1 else 0)], h) Q'
      refine WP.nb_eq rfl (fun c3 => ?_) (fun c3 => ?_)
      · refine WP.iconst rfl ?_
        have e := kk; simp only [if_pos c2, if_neg (c3), if_neg (show ¬ ((0 ≤ a1 ∧ a1 ≤ 7) ∧ ((1 ≤ a2 ∧ a2 ≤ 1000) ∧ (((h 249 15) ≤ a3 ∧ a3 ≤ 9999) ∧ ((-1) ≤ a4 ∧ a4 ≤ ((h 249 12) - 1))))) from fun q => (fun q => (c3) q.1) q.2)] at e ⊢; exact e
      · have q7 := q8 c3
        refine WP.iload_n rfl rfl ?_
        refine WP.i2l rfl ?_
        refine WP.aload_n rfl rfl ⟨by decide, by decide⟩ ?_
        refine WP.getRF (b := 249) rfl rfl rfl ?_
        refine WP.bipush rfl ?_
        refine WP.laload rfl ⟨by decide, by decide, by decide⟩ (by decide) ?_
        refine WP.ldc2_w rfl ?_
        refine WP.callF (c_X12_in a3 (h 249 15) 9999 h) rfl rfl (pm_cok rfl rfl (Or.inl rfl) rfl rfl) rfl rfl ?_
        show WP 160 (17, [(14, 248), (0, a1), (0, a2), (0, a3), (0, a4), pU], [(0, if (h 249 15) ≤ a3 ∧ a3 ≤ 9999 then 1 else 0)], h) Q'
        refine WP.nb_eq rfl (fun c4 => ?_) (fun c4 => ?_)
        · refine WP.iconst rfl ?_
          have e := kk; simp only [if_pos c2, if_pos c3, if_neg (c4), if_neg (show ¬ ((0 ≤ a1 ∧ a1 ≤ 7) ∧ ((1 ≤ a2 ∧ a2 ≤ 1000) ∧ (((h 249 15) ≤ a3 ∧ a3 ≤ 9999) ∧ ((-1) ≤ a4 ∧ a4 ≤ ((h 249 12) - 1))))) from fun q => (fun q => (fun q => (c4) q.1) q.2) q.2)] at e ⊢; exact e
        · have o5 := q7 c4
          refine WP.aload_n rfl rfl ⟨by decide, by decide⟩ ?_
          refine WP.iload rfl rfl ?_
          refine WP.callF (c_X12_isPin a4 h o5) rfl rfl (pm_cok rfl rfl (Or.inr ⟨_, _, rfl⟩) rfl rfl) rfl rfl ?_
          show WP 160 (21, [(14, 248), (0, a1), (0, a2), (0, a3), (0, a4), pU], [(0, if (-1) ≤ a4 ∧ a4 ≤ ((h 249 12) - 1) then 1 else 0)], h) Q'
          refine WP.nb_eq rfl (fun c6 => ?_) (fun c6 => ?_)
          · refine WP.iconst rfl ?_
            have e := kk; simp only [if_pos c2, if_pos c3, if_pos c4, if_neg (c6), if_neg (show ¬ ((0 ≤ a1 ∧ a1 ≤ 7) ∧ ((1 ≤ a2 ∧ a2 ≤ 1000) ∧ (((h 249 15) ≤ a3 ∧ a3 ≤ 9999) ∧ ((-1) ≤ a4 ∧ a4 ≤ ((h 249 12) - 1))))) from fun q => (fun q => (fun q => (c6) q.2) q.2) q.2)] at e ⊢; exact e
          · refine WP.iconst rfl ?_
            refine WP.goto rfl ?_
            have e := kk; simp only [if_pos c2, if_pos c3, if_pos c4, if_pos c6, if_pos (show (0 ≤ a1 ∧ a1 ≤ 7) ∧ ((1 ≤ a2 ∧ a2 ≤ 1000) ∧ (((h 249 15) ≤ a3 ∧ a3 ≤ 9999) ∧ ((-1) ≤ a4 ∧ a4 ≤ ((h 249 12) - 1)))) from ⟨c2, ⟨c3, ⟨c4, c6⟩⟩⟩)] at e ⊢; exact e
  refine k1 _ ?_
  refine WP.istore (L' := [(14, 248), (0, a1), (0, a2), (0, a3), (0, a4), (0, if (0 ≤ a1 ∧ a1 ≤ 7) ∧ ((1 ≤ a2 ∧ a2 ≤ 1000) ∧ (((h 249 15) ≤ a3 ∧ a3 ≤ 9999) ∧ ((-1) ≤ a4 ∧ a4 ≤ ((h 249 12) - 1)))) then 1 else 0)]) rfl rfl ?_
  refine WP.iload rfl rfl ?_
  have k12 : ∀ Q' : Option pV → pH → Prop, (WP 160 (38, [(14, 248), (0, a1), (0, a2), (0, a3), (0, a4), (0, if (0 ≤ a1 ∧ a1 ≤ 7) ∧ ((1 ≤ a2 ∧ a2 ≤ 1000) ∧ (((h 249 15) ≤ a3 ∧ a3 ≤ 9999) ∧ ((-1) ≤ a4 ∧ a4 ≤ ((h 249 12) - 1)))) then 1 else 0)], [(0, s_X12_batch_2 a1 a2 a3 a4 h)], s_X12_batch_1 a1 a2 a3 a4 h) Q') → WP 160 (27, [(14, 248), (0, a1), (0, a2), (0, a3), (0, a4), (0, if (0 ≤ a1 ∧ a1 ≤ 7) ∧ ((1 ≤ a2 ∧ a2 ≤ 1000) ∧ (((h 249 15) ≤ a3 ∧ a3 ≤ 9999) ∧ ((-1) ≤ a4 ∧ a4 ≤ ((h 249 12) - 1)))) then 1 else 0)], [(0, if (0 ≤ a1 ∧ a1 ≤ 7) ∧ ((1 ≤ a2 ∧ a2 ≤ 1000) ∧ (((h 249 15) ≤ a3 ∧ a3 ≤ 9999) ∧ ((-1) ≤ a4 ∧ a4 ≤ ((h 249 12) - 1)))) then 1 else 0)], h) Q' := fun Q' kk => by
    have q15 := q17
    refine WP.nb_eq rfl (fun c13 => ?_) (fun c13 => ?_)
    · refine WP.bipush rfl ?_
      have e := kk; simp only [s_X12_batch_2, s_X12_batch_1, if_neg (c13)] at e ⊢; exact e
    · have o14 := q15 c13
      refine WP.aload_n rfl rfl ⟨by decide, by decide⟩ ?_
      refine WP.iconst rfl ?_
      refine WP.iload_n rfl rfl ?_
      refine WP.iload_n rfl rfl ?_
      refine WP.iconst rfl ?_
      refine WP.iload_n rfl rfl ?_
      refine WP.iload rfl rfl ?_
      refine WP.callF (c_X12_addWork 0 a1 a2 0 a3 a4 h o14) rfl rfl (pm_cok rfl rfl (Or.inr ⟨_, _, rfl⟩) rfl rfl) rfl rfl ?_
      show WP 160 (36, [(14, 248), (0, a1), (0, a2), (0, a3), (0, a4), (0, if (0 ≤ a1 ∧ a1 ≤ 7) ∧ ((1 ≤ a2 ∧ a2 ≤ 1000) ∧ (((h 249 15) ≤ a3 ∧ a3 ≤ 9999) ∧ ((-1) ≤ a4 ∧ a4 ≤ ((h 249 12) - 1)))) then 1 else 0)], [(0, F_X12_addWork 0 a1 a2 0 a3 a4 h)], H_X12_addWork 0 a1 a2 0 a3 a4 h) Q'
      refine WP.goto rfl ?_
      have e := kk; simp only [s_X12_batch_2, s_X12_batch_1, if_pos c13] at e ⊢; exact e
  refine k12 _ ?_
  refine WP.reti rfl ?_; exact kk
theorem c_X12_batch (a1 : Int) (a2 : Int) (a3 : Int) (a4 : Int) (h : pH) (hp : P_X12_batch a1 a2 a3 a4 h) : CP 160 [(14, 248), (0, a1), (0, a2), (0, a3), (0, a4)] h (fun r h1 => r = some (0, F_X12_batch a1 a2 a3 a4 h) ∧ h1 = H_X12_batch a1 a2 a3 a4 h) := w_X12_batch a1 a2 a3 a4 h hp ⟨rfl, rfl⟩
noncomputable def s_X12_steady_1 (a1 : Int) (a2 : Int) (a3 : Int) (a4 : Int) (a5 : Int) (h : pH) : pH := if (0 ≤ a1 ∧ a1 ≤ 7) ∧ (((h 249 15) ≤ a2 ∧ a2 ≤ 9999) ∧ ((a2 ≤ a3 ∧ a3 ≤ 9999) ∧ ((1 ≤ a4 ∧ a4 ≤ 3) ∧ ((-1) ≤ a5 ∧ a5 ≤ ((h 249 12) - 1))))) then H_X12_addWork 1 a1 a4 a2 a3 a5 h else h
noncomputable def s_X12_steady_2 (a1 : Int) (a2 : Int) (a3 : Int) (a4 : Int) (a5 : Int) (h : pH) : Int := if (0 ≤ a1 ∧ a1 ≤ 7) ∧ (((h 249 15) ≤ a2 ∧ a2 ≤ 9999) ∧ ((a2 ≤ a3 ∧ a3 ≤ 9999) ∧ ((1 ≤ a4 ∧ a4 ≤ 3) ∧ ((-1) ≤ a5 ∧ a5 ≤ ((h 249 12) - 1))))) then F_X12_addWork 1 a1 a4 a2 a3 a5 h else (-2)
noncomputable def F_X12_steady (a1 : Int) (a2 : Int) (a3 : Int) (a4 : Int) (a5 : Int) (h : pH) : Int := s_X12_steady_2 a1 a2 a3 a4 a5 h
noncomputable def H_X12_steady (a1 : Int) (a2 : Int) (a3 : Int) (a4 : Int) (a5 : Int) (h : pH) : pH := s_X12_steady_1 a1 a2 a3 a4 a5 h
noncomputable def P_X12_steady (a1 : Int) (a2 : Int) (a3 : Int) (a4 : Int) (a5 : Int) (h : pH) : Prop := (((0 ≤ a1 ∧ a1 ≤ 7) → ((((h 249 15) ≤ a2 ∧ a2 ≤ 9999) → (((a2 ≤ a3 ∧ a3 ≤ 9999) → (((1 ≤ a4 ∧ a4 ≤ 3) → P_X12_isPin a5 h)))))))) ∧ ((((0 ≤ a1 ∧ a1 ≤ 7) ∧ (((h 249 15) ≤ a2 ∧ a2 ≤ 9999) ∧ ((a2 ≤ a3 ∧ a3 ≤ 9999) ∧ ((1 ≤ a4 ∧ a4 ≤ 3) ∧ ((-1) ≤ a5 ∧ a5 ≤ ((h 249 12) - 1)))))) → P_X12_addWork 1 a1 a4 a2 a3 a5 h))
set_option maxHeartbeats 4000000 in
theorem w_X12_steady (a1 : Int) (a2 : Int) (a3 : Int) (a4 : Int) (a5 : Int) (h : pH) {Q : Option pV → pH → Prop} (hp : P_X12_steady a1 a2 a3 a4 a5 h) (kk : Q (some (0, F_X12_steady a1 a2 a3 a4 a5 h)) (H_X12_steady a1 a2 a3 a4 a5 h)) : WP 161 (0, [(14, 248), (0, a1), (0, a2), (0, a3), (0, a4), (0, a5), pU], [], h) Q := by
  unfold P_X12_steady at hp
  obtain ⟨q13, q19⟩ := hp
  refine WP.iload_n rfl rfl ?_
  refine WP.callF (c_X12_isHouse a1 h) rfl rfl (pm_cok rfl rfl (Or.inl rfl) rfl rfl) rfl rfl ?_
  show WP 161 (2, [(14, 248), (0, a1), (0, a2), (0, a3), (0, a4), (0, a5), pU], [(0, if 0 ≤ a1 ∧ a1 ≤ 7 then 1 else 0)], h) Q
  have k1 : ∀ Q' : Option pV → pH → Prop, (WP 161 (32, [(14, 248), (0, a1), (0, a2), (0, a3), (0, a4), (0, a5), pU], [(0, if (0 ≤ a1 ∧ a1 ≤ 7) ∧ (((h 249 15) ≤ a2 ∧ a2 ≤ 9999) ∧ ((a2 ≤ a3 ∧ a3 ≤ 9999) ∧ ((1 ≤ a4 ∧ a4 ≤ 3) ∧ ((-1) ≤ a5 ∧ a5 ≤ ((h 249 12) - 1))))) then 1 else 0)], h) Q') → WP 161 (2, [(14, 248), (0, a1), (0, a2), (0, a3), (0, a4), (0, a5), pU], [(0, if 0 ≤ a1 ∧ a1 ≤ 7 then 1 else 0)], h) Q' := fun Q' kk => by
    have q11 := q13
    refine WP.nb_eq rfl (fun c2 => ?_) (fun c2 => ?_)
    · refine WP.iconst rfl ?_
      have e := kk; simp only [if_neg (c2), if_neg (show ¬ ((0 ≤ a1 ∧ a1 ≤ 7) ∧ (((h 249 15) ≤ a2 ∧ a2 ≤ 9999) ∧ ((a2 ≤ a3 ∧ a3 ≤ 9999) ∧ ((1 ≤ a4 ∧ a4 ≤ 3) ∧ ((-1) ≤ a5 ∧ a5 ≤ ((h 249 12) - 1)))))) from fun q => (c2) q.1)] at e ⊢; exact e
    · have q10 := q11 c2
      refine WP.iload_n rfl rfl ?_
      refine WP.i2l rfl ?_
      refine WP.aload_n rfl rfl ⟨by decide, by decide⟩ ?_
      refine WP.getRF (b := 249) rfl rfl rfl ?_
      refine WP.bipush rfl ?_
      refine WP.laload rfl ⟨by decide, by decide, by decide⟩ (by decide) ?_
      refine WP.ldc2_w rfl ?_
      refine WP.callF (c_X12_in a2 (h 249 15) 9999 h) rfl rfl (pm_cok rfl rfl (Or.inl rfl) rfl rfl) rfl rfl ?_
      show WP 161 (11, [(14, 248), (0, a1), (0, a2), (0, a3), (0, a4), (0, a5), pU], [(0, if (h 249 15) ≤ a2 ∧ a2 ≤ 9999 then 1 else 0)], h) Q'
      refine WP.nb_eq rfl (fun c3 => ?_) (fun c3 => ?_)
      · refine WP.iconst rfl ?_
        have e := kk; simp only [if_pos c2, if_neg (c3), if_neg (show ¬ ((0 ≤ a1 ∧ a1 ≤ 7) ∧ (((h 249 15) ≤ a2 ∧ a2 ≤ 9999) ∧ ((a2 ≤ a3 ∧ a3 ≤ 9999) ∧ ((1 ≤ a4 ∧ a4 ≤ 3) ∧ ((-1) ≤ a5 ∧ a5 ≤ ((h 249 12) - 1)))))) from fun q => (fun q => (c3) q.1) q.2)] at e ⊢; exact e
      · have q9 := q10 c3
        refine WP.iload_n rfl rfl ?_
        refine WP.i2l rfl ?_
        refine WP.iload_n rfl rfl ?_
        refine WP.i2l rfl ?_
        refine WP.ldc2_w rfl ?_
        refine WP.callF (c_X12_in a3 a2 9999 h) rfl rfl (pm_cok rfl rfl (Or.inl rfl) rfl rfl) rfl rfl ?_
        show WP 161 (18, [(14, 248), (0, a1), (0, a2), (0, a3), (0, a4), (0, a5), pU], [(0, if a2 ≤ a3 ∧ a3 ≤ 9999 then 1 else 0)], h) Q'
        refine WP.nb_eq rfl (fun c4 => ?_) (fun c4 => ?_)
        · refine WP.iconst rfl ?_
          have e := kk; simp only [if_pos c2, if_pos c3, if_neg (c4), if_neg (show ¬ ((0 ≤ a1 ∧ a1 ≤ 7) ∧ (((h 249 15) ≤ a2 ∧ a2 ≤ 9999) ∧ ((a2 ≤ a3 ∧ a3 ≤ 9999) ∧ ((1 ≤ a4 ∧ a4 ≤ 3) ∧ ((-1) ≤ a5 ∧ a5 ≤ ((h 249 12) - 1)))))) from fun q => (fun q => (fun q => (c4) q.1) q.2) q.2)] at e ⊢; exact e
        · have q8 := q9 c4
          refine WP.iload rfl rfl ?_
          refine WP.i2l rfl ?_
          refine WP.lconst rfl ?_
          refine WP.ldc2_w rfl ?_
          refine WP.callF (c_X12_in a4 1 3 h) rfl rfl (pm_cok rfl rfl (Or.inl rfl) rfl rfl) rfl rfl ?_
          show WP 161 (24, [(14, 248), (0, a1), (0, a2), (0, a3), (0, a4), (0, a5), pU], [(0, if 1 ≤ a4 ∧ a4 ≤ 3 then 1 else 0)], h) Q'
          refine WP.nb_eq rfl (fun c5 => ?_) (fun c5 => ?_)
          · refine WP.iconst rfl ?_
            have e := kk; simp only [if_pos c2, if_pos c3, if_pos c4, if_neg (c5), if_neg (show ¬ ((0 ≤ a1 ∧ a1 ≤ 7) ∧ (((h 249 15) ≤ a2 ∧ a2 ≤ 9999) ∧ ((a2 ≤ a3 ∧ a3 ≤ 9999) ∧ ((1 ≤ a4 ∧ a4 ≤ 3) ∧ ((-1) ≤ a5 ∧ a5 ≤ ((h 249 12) - 1)))))) from fun q => (fun q => (fun q => (fun q => (c5) q.1) q.2) q.2) q.2)] at e ⊢; exact e
          · have o6 := q8 c5
            refine WP.aload_n rfl rfl ⟨by decide, by decide⟩ ?_
            refine WP.iload rfl rfl ?_
            refine WP.callF (c_X12_isPin a5 h o6) rfl rfl (pm_cok rfl rfl (Or.inr ⟨_, _, rfl⟩) rfl rfl) rfl rfl ?_
            show WP 161 (28, [(14, 248), (0, a1), (0, a2), (0, a3), (0, a4), (0, a5), pU], [(0, if (-1) ≤ a5 ∧ a5 ≤ ((h 249 12) - 1) then 1 else 0)], h) Q'
            refine WP.nb_eq rfl (fun c7 => ?_) (fun c7 => ?_)
            · refine WP.iconst rfl ?_
              have e := kk; simp only [if_pos c2, if_pos c3, if_pos c4, if_pos c5, if_neg (c7), if_neg (show ¬ ((0 ≤ a1 ∧ a1 ≤ 7) ∧ (((h 249 15) ≤ a2 ∧ a2 ≤ 9999) ∧ ((a2 ≤ a3 ∧ a3 ≤ 9999) ∧ ((1 ≤ a4 ∧ a4 ≤ 3) ∧ ((-1) ≤ a5 ∧ a5 ≤ ((h 249 12) - 1)))))) from fun q => (fun q => (fun q => (fun q => (c7) q.2) q.2) q.2) q.2)] at e ⊢; exact e
            · refine WP.iconst rfl ?_
              refine WP.goto rfl ?_
              have e := kk; simp only [if_pos c2, if_pos c3, if_pos c4, if_pos c5, if_pos c7, if_pos (show (0 ≤ a1 ∧ a1 ≤ 7) ∧ (((h 249 15) ≤ a2 ∧ a2 ≤ 9999) ∧ ((a2 ≤ a3 ∧ a3 ≤ 9999) ∧ ((1 ≤ a4 ∧ a4 ≤ 3) ∧ ((-1) ≤ a5 ∧ a5 ≤ ((h 249 12) - 1))))) from ⟨c2, ⟨c3, ⟨c4, ⟨c5, c7⟩⟩⟩⟩)] at e ⊢; exact e
  refine k1 _ ?_
  refine WP.istore (L' := [(14, 248), (0, a1), (0, a2), (0, a3), (0, a4), (0, a5), (0, if (0 ≤ a1 ∧ a1 ≤ 7) ∧ (((h 249 15) ≤ a2 ∧ a2 ≤ 9999) ∧ ((a2 ≤ a3 ∧ a3 ≤ 9999) ∧ ((1 ≤ a4 ∧ a4 ≤ 3) ∧ ((-1) ≤ a5 ∧ a5 ≤ ((h 249 12) - 1))))) then 1 else 0)]) rfl rfl ?_
  refine WP.iload rfl rfl ?_
  have k14 : ∀ Q' : Option pV → pH → Prop, (WP 161 (45, [(14, 248), (0, a1), (0, a2), (0, a3), (0, a4), (0, a5), (0, if (0 ≤ a1 ∧ a1 ≤ 7) ∧ (((h 249 15) ≤ a2 ∧ a2 ≤ 9999) ∧ ((a2 ≤ a3 ∧ a3 ≤ 9999) ∧ ((1 ≤ a4 ∧ a4 ≤ 3) ∧ ((-1) ≤ a5 ∧ a5 ≤ ((h 249 12) - 1))))) then 1 else 0)], [(0, s_X12_steady_2 a1 a2 a3 a4 a5 h)], s_X12_steady_1 a1 a2 a3 a4 a5 h) Q') → WP 161 (34, [(14, 248), (0, a1), (0, a2), (0, a3), (0, a4), (0, a5), (0, if (0 ≤ a1 ∧ a1 ≤ 7) ∧ (((h 249 15) ≤ a2 ∧ a2 ≤ 9999) ∧ ((a2 ≤ a3 ∧ a3 ≤ 9999) ∧ ((1 ≤ a4 ∧ a4 ≤ 3) ∧ ((-1) ≤ a5 ∧ a5 ≤ ((h 249 12) - 1))))) then 1 else 0)], [(0, if (0 ≤ a1 ∧ a1 ≤ 7) ∧ (((h 249 15) ≤ a2 ∧ a2 ≤ 9999) ∧ ((a2 ≤ a3 ∧ a3 ≤ 9999) ∧ ((1 ≤ a4 ∧ a4 ≤ 3) ∧ ((-1) ≤ a5 ∧ a5 ≤ ((h 249 12) - 1))))) then 1 else 0)], h) Q' := fun Q' kk => by
    have q17 := q19
    refine WP.nb_eq rfl (fun c15 => ?_) (fun c15 => ?_)
    · refine WP.bipush rfl ?_
      have e := kk; simp only [s_X12_steady_2, s_X12_steady_1, if_neg (c15)] at e ⊢; exact e
    · have o16 := q17 c15
      refine WP.aload_n rfl rfl ⟨by decide, by decide⟩ ?_
      refine WP.iconst rfl ?_
      refine WP.iload_n rfl rfl ?_
      refine WP.iload rfl rfl ?_
      refine WP.iload_n rfl rfl ?_
      refine WP.iload_n rfl rfl ?_
      refine WP.iload rfl rfl ?_
      refine WP.callF (c_X12_addWork 1 a1 a4 a2 a3 a5 h o16) rfl rfl (pm_cok rfl rfl (Or.inr ⟨_, _, rfl⟩) rfl rfl) rfl rfl ?_
      show WP 161 (43, [(14, 248), (0, a1), (0, a2), (0, a3), (0, a4), (0, a5), (0, if (0 ≤ a1 ∧ a1 ≤ 7) ∧ (((h 249 15) ≤ a2 ∧ a2 ≤ 9999) ∧ ((a2 ≤ a3 ∧ a3 ≤ 9999) ∧ ((1 ≤ a4 ∧ a4 ≤ 3) ∧ ((-1) ≤ a5 ∧ a5 ≤ ((h 249 12) - 1))))) then 1 else 0)], [(0, F_X12_addWork 1 a1 a4 a2 a3 a5 h)], H_X12_addWork 1 a1 a4 a2 a3 a5 h) Q'
      refine WP.goto rfl ?_
      have e := kk; simp only [s_X12_steady_2, s_X12_steady_1, if_pos c15] at e ⊢; exact e
  refine k14 _ ?_
  refine WP.reti rfl ?_; exact kk
theorem c_X12_steady (a1 : Int) (a2 : Int) (a3 : Int) (a4 : Int) (a5 : Int) (h : pH) (hp : P_X12_steady a1 a2 a3 a4 a5 h) : CP 161 [(14, 248), (0, a1), (0, a2), (0, a3), (0, a4), (0, a5)] h (fun r h1 => r = some (0, F_X12_steady a1 a2 a3 a4 a5 h) ∧ h1 = H_X12_steady a1 a2 a3 a4 a5 h) := w_X12_steady a1 a2 a3 a4 a5 h hp ⟨rfl, rfl⟩
noncomputable def s_X12_openWorks_1 (x1 : Int) (x2 : Int) (h : pH) : Int := x1 + (if h 249 (328 + x2) = 0 ∧ (h 249 (200 + x2) = 0 ∨ ((h 249 (248 + x2)) ≤ (h 249 15) ∧ (h 249 15) ≤ (h 249 (264 + x2)))) then 1 else 0)
def C_X12_openWorks_4 (h : pH) (x1 : Int) (x2 : Int) : Prop := x2 < h 249 13
noncomputable def B_X12_openWorks_4 (h : pH) (x1 : Int) (x2 : Int) : Int × Int := (s_X12_openWorks_1 x1 x2 h, x2 + 1)
noncomputable def P_X12_openWorks_4 (h : pH) (x1 : Int) (x2 : Int) : Prop := ((x2 < h 249 13) → P_X12_isOpen x2 h ∧ (fx_i (x1 + (if h 249 (328 + x2) = 0 ∧ (h 249 (200 + x2) = 0 ∨ ((h 249 (248 + x2)) ≤ (h 249 15) ∧ (h 249 15) ≤ (h 249 (264 + x2)))) then 1 else 0))) ∧ (fx_i (x2 + 1)))
noncomputable def L_X12_openWorks_4 (h : pH) (x1 : Int) (x2 : Int) : Int × Int := fx_wh (σ := Int × Int) (fun s => C_X12_openWorks_4 h s.1 s.2) (fun s => B_X12_openWorks_4 h s.1 s.2) (x1, x2)
def O_X12_openWorks_4 (h : pH) (x1 : Int) (x2 : Int) : Prop := fx_ok (σ := Int × Int) (fun s => C_X12_openWorks_4 h s.1 s.2) (fun s => B_X12_openWorks_4 h s.1 s.2) (fun s => P_X12_openWorks_4 h s.1 s.2) (x1, x2)
set_option maxHeartbeats 4000000 in
theorem lp_X12_openWorks_4 (h : pH) (x1 : Int) (x2 : Int) {Q : Option pV → pH → Prop} (hp : O_X12_openWorks_4 h x1 x2) (kk : ∀ us : List pV, WP 168 (24, [(14, 248), (0, (L_X12_openWorks_4 h x1 x2).1), (0, (L_X12_openWorks_4 h x1 x2).2)], [], h) Q) : ∀ us : List pV, WP 168 (4, [(14, 248), (0, x1), (0, x2)], [], h) Q := by
  refine WP.wh (σ := Int × Int) (fun s => C_X12_openWorks_4 h s.1 s.2) (fun s => B_X12_openWorks_4 h s.1 s.2) (fun s => P_X12_openWorks_4 h s.1 s.2) (fun s us => (4, [(14, 248), (0, s.1), (0, s.2)], [], h)) (x1, x2) hp ?_ ?_
  · intro s us hP hc kk
    obtain ⟨x1, x2⟩ := s
    change P_X12_openWorks_4 h x1 x2 at hP
    change x2 < h 249 13 at hc
    replace kk : ∀ (us' : List pV) (s' : Int × Int), s' = B_X12_openWorks_4 h x1 x2 → WP 168 (4, [(14, 248), (0, s'.1), (0, s'.2)], [], h) Q := fun us' s' e => by subst e; exact kk us'
    unfold P_X12_openWorks_4 at hP
    obtain ⟨o3, o7, o8⟩ := hP hc
    show WP 168 (4, [(14, 248), (0, x1), (0, x2)], [], h) Q
    refine WP.iload_n rfl rfl ?_
    refine WP.i2l rfl ?_
    refine WP.aload_n rfl rfl ⟨by decide, by decide⟩ ?_
    refine WP.getRF (b := 249) rfl rfl rfl ?_
    refine WP.bipush rfl ?_
    refine WP.laload rfl ⟨by decide, by decide, by decide⟩ (by decide) ?_
    refine WP.lcmp rfl ?_
    refine WP.nl_ge rfl (fun c2 => ?_) (fun c2 => ?_)
    · exact absurd hc (Int.not_lt.mpr c2)
    · refine WP.iload_n rfl rfl ?_
      refine WP.aload_n rfl rfl ⟨by decide, by decide⟩ ?_
      refine WP.iload_n rfl rfl ?_
      refine WP.callF (c_X12_isOpen x2 h o3) rfl rfl (pm_cok rfl rfl (Or.inr ⟨_, _, rfl⟩) rfl rfl) rfl rfl ?_
      show WP 168 (16, [(14, 248), (0, x1), (0, x2)], [(0, if h 249 (328 + x2) = 0 ∧ (h 249 (200 + x2) = 0 ∨ ((h 249 (248 + x2)) ≤ (h 249 15) ∧ (h 249 15) ≤ (h 249 (264 + x2)))) then 1 else 0), (0, x1)], h) Q
      have k4 : ∀ Q' : Option pV → pH → Prop, (WP 168 (20, [(14, 248), (0, x1), (0, x2)], [(0, if h 249 (328 + x2) = 0 ∧ (h 249 (200 + x2) = 0 ∨ ((h 249 (248 + x2)) ≤ (h 249 15) ∧ (h 249 15) ≤ (h 249 (264 + x2)))) then 1 else 0), (0, x1)], h) Q') → WP 168 (16, [(14, 248), (0, x1), (0, x2)], [(0, if h 249 (328 + x2) = 0 ∧ (h 249 (200 + x2) = 0 ∨ ((h 249 (248 + x2)) ≤ (h 249 15) ∧ (h 249 15) ≤ (h 249 (264 + x2)))) then 1 else 0), (0, x1)], h) Q' := fun Q' kk => by
        refine WP.nb_eq rfl (fun c5 => ?_) (fun c5 => ?_)
        · refine WP.iconst rfl ?_
          have e := kk; simp only [if_neg (c5), if_neg (show ¬ (h 249 (328 + x2) = 0 ∧ (h 249 (200 + x2) = 0 ∨ ((h 249 (248 + x2)) ≤ (h 249 15) ∧ (h 249 15) ≤ (h 249 (264 + x2))))) from c5)] at e ⊢; exact e
        · refine WP.iconst rfl ?_
          refine WP.goto rfl ?_
          have e := kk; simp only [if_pos c5, if_pos (show h 249 (328 + x2) = 0 ∧ (h 249 (200 + x2) = 0 ∨ ((h 249 (248 + x2)) ≤ (h 249 15) ∧ (h 249 15) ≤ (h 249 (264 + x2)))) from c5)] at e ⊢; exact e
      refine k4 _ ?_
      refine WP.iaddE rfl o7 ?_
      refine WP.istore_n (L' := [(14, 248), (0, x1 + (if h 249 (328 + x2) = 0 ∧ (h 249 (200 + x2) = 0 ∨ ((h 249 (248 + x2)) ≤ (h 249 15) ∧ (h 249 15) ≤ (h 249 (264 + x2)))) then 1 else 0)), (0, x2)]) rfl rfl ?_
      show WP 168 (22, [(14, 248), (0, s_X12_openWorks_1 x1 x2 h), (0, x2)], [], h) Q
      refine WP.iincE (L' := [(14, 248), (0, s_X12_openWorks_1 x1 x2 h), (0, x2 + 1)]) rfl rfl o8 rfl ?_
      refine WP.goto rfl ?_
      exact kk [] (s_X12_openWorks_1 x1 x2 h, x2 + 1) (rfl)
  · intro hP hc
    generalize hs : (L_X12_openWorks_4 h x1 x2 : Int × Int) = s at kk
    change P_X12_openWorks_4 h (L_X12_openWorks_4 h x1 x2).1 (L_X12_openWorks_4 h x1 x2).2 at hP
    change ¬ C_X12_openWorks_4 h (L_X12_openWorks_4 h x1 x2).1 (L_X12_openWorks_4 h x1 x2).2 at hc
    intro us
    show WP 168 (4, [(14, 248), (0, (L_X12_openWorks_4 h x1 x2).1), (0, (L_X12_openWorks_4 h x1 x2).2)], [], h) Q
    rw [hs] at hP hc ⊢
    obtain ⟨x1, x2⟩ := s
    change P_X12_openWorks_4 h x1 x2 at hP
    change ¬ (x2 < h 249 13) at hc
    unfold P_X12_openWorks_4 at hP
    show WP 168 (4, [(14, 248), (0, x1), (0, x2)], [], h) Q
    refine WP.iload_n rfl rfl ?_
    refine WP.i2l rfl ?_
    refine WP.aload_n rfl rfl ⟨by decide, by decide⟩ ?_
    refine WP.getRF (b := 249) rfl rfl rfl ?_
    refine WP.bipush rfl ?_
    refine WP.laload rfl ⟨by decide, by decide, by decide⟩ (by decide) ?_
    refine WP.lcmp rfl ?_
    refine WP.nl_ge rfl (fun c1 => ?_) (fun c1 => ?_)
    · exact kk []
    · exact absurd (show x2 < h 249 13 from c1) hc
noncomputable def F_X12_openWorks (h : pH) : Int := (L_X12_openWorks_4 h 0 0).1
noncomputable def P_X12_openWorks (h : pH) : Prop := O_X12_openWorks_4 h 0 0
set_option maxHeartbeats 4000000 in
theorem w_X12_openWorks (h : pH) {Q : Option pV → pH → Prop} (hp : P_X12_openWorks h) (kk : Q (some (0, F_X12_openWorks h)) (h)) : WP 168 (0, [(14, 248), pU, pU], [], h) Q := by
  unfold P_X12_openWorks at hp
  have o9 := hp
  refine WP.iconst rfl ?_
  refine WP.istore_n (L' := [(14, 248), (0, 0), pU]) rfl rfl ?_
  refine WP.iconst rfl ?_
  refine WP.istore_n (L' := [(14, 248), (0, 0), (0, 0)]) rfl rfl ?_
  refine lp_X12_openWorks_4 h 0 0 o9 (fun us10 => ?_) []
  show WP 168 (24, [(14, 248), (0, (L_X12_openWorks_4 h 0 0).1), (0, (L_X12_openWorks_4 h 0 0).2)], [], h) Q
  refine WP.iload_n rfl rfl ?_
  refine WP.reti rfl ?_; exact kk
theorem c_X12_openWorks (h : pH) (hp : P_X12_openWorks h) : CP 168 [(14, 248)] h (fun r h1 => r = some (0, F_X12_openWorks h) ∧ h1 = h) := w_X12_openWorks h hp ⟨rfl, rfl⟩
noncomputable def s_X12_greatest_1 (x1 : Int) (x3 : Int) (h : pH) : Int := if s_X12_gauge_1 x3 h ≤ x1 then x1 else s_X12_gauge_1 x3 h
def C_X12_greatest_6 (h : pH) (x1 : Int) (x3 : Int) : Prop := x3 < 12
noncomputable def B_X12_greatest_6 (h : pH) (x1 : Int) (x3 : Int) : Int × Int := (s_X12_greatest_1 x1 x3 h, x3 + 1)
noncomputable def P_X12_greatest_6 (h : pH) (x1 : Int) (x3 : Int) : Prop := ((x3 < 12) → P_X12_gauge x3 h ∧ (fx_i (x3 + 1)))
noncomputable def L_X12_greatest_6 (h : pH) (x1 : Int) (x3 : Int) : Int × Int := fx_wh (σ := Int × Int) (fun s => C_X12_greatest_6 h s.1 s.2) (fun s => B_X12_greatest_6 h s.1 s.2) (x1, x3)
def O_X12_greatest_6 (h : pH) (x1 : Int) (x3 : Int) : Prop := fx_ok (σ := Int × Int) (fun s => C_X12_greatest_6 h s.1 s.2) (fun s => B_X12_greatest_6 h s.1 s.2) (fun s => P_X12_greatest_6 h s.1 s.2) (x1, x3)
set_option maxHeartbeats 4000000 in
theorem lp_X12_greatest_6 (h : pH) (x1 : Int) (x3 : Int) {Q : Option pV → pH → Prop} (hp : O_X12_greatest_6 h x1 x3) (kk : ∀ us : List pV, WP 170 (23, [(14, 248), (1, (L_X12_greatest_6 h x1 x3).1), pU, (0, (L_X12_greatest_6 h x1 x3).2)], [], h) Q) : ∀ us : List pV, WP 170 (6, [(14, 248), (1, x1), pU, (0, x3)], [], h) Q := by
  refine WP.wh (σ := Int × Int) (fun s => C_X12_greatest_6 h s.1 s.2) (fun s => B_X12_greatest_6 h s.1 s.2) (fun s => P_X12_greatest_6 h s.1 s.2) (fun s us => (6, [(14, 248), (1, s.1), pU, (0, s.2)], [], h)) (x1, x3) hp ?_ ?_
  · intro s us hP hc kk
    obtain ⟨x1, x3⟩ := s
    change P_X12_greatest_6 h x1 x3 at hP
    change x3 < 12 at hc
    replace kk : ∀ (us' : List pV) (s' : Int × Int), s' = B_X12_greatest_6 h x1 x3 → WP 170 (6, [(14, 248), (1, s'.1), pU, (0, s'.2)], [], h) Q := fun us' s' e => by subst e; exact kk us'
    unfold P_X12_greatest_6 at hP
    obtain ⟨o4, o8⟩ := hP hc
    show WP 170 (6, [(14, 248), (1, x1), pU, (0, x3)], [], h) Q
    refine WP.iload_n rfl rfl ?_
    refine WP.bipush rfl ?_
    refine WP.ni_ge rfl (fun c3 => ?_) (fun c3 => ?_)
    · exact absurd hc (Int.not_lt.mpr c3)
    · refine WP.aload_n rfl rfl ⟨by decide, by decide⟩ ?_
      refine WP.iload_n rfl rfl ?_
      refine WP.callF (c_X12_gauge x3 h o4) rfl rfl (pm_cok rfl rfl (Or.inr ⟨_, _, rfl⟩) rfl rfl) rfl rfl ?_
      show WP 170 (12, [(14, 248), (1, x1), pU, (0, x3)], [(1, s_X12_gauge_1 x3 h)], h) Q
      refine WP.lload_n rfl rfl ?_
      refine WP.lcmp rfl ?_
      have k5 : ∀ Q' : Option pV → pH → Prop, (WP 170 (20, [(14, 248), (1, x1), pU, (0, x3)], [(1, s_X12_greatest_1 x1 x3 h)], h) Q') → WP 170 (14, [(14, 248), (1, x1), pU, (0, x3)], [(0, pm_lcmp (s_X12_gauge_1 x3 h) x1)], h) Q' := fun Q' kk => by
        refine WP.nl_le rfl (fun c6 => ?_) (fun c6 => ?_)
        · refine WP.lload_n rfl rfl ?_
          have e := kk; simp only [s_X12_greatest_1, if_pos c6] at e ⊢; exact e
        · refine WP.aload_n rfl rfl ⟨by decide, by decide⟩ ?_
          refine WP.iload_n rfl rfl ?_
          refine WP.callF (c_X12_gauge x3 h o4) rfl rfl (pm_cok rfl rfl (Or.inr ⟨_, _, rfl⟩) rfl rfl) rfl rfl ?_
          show WP 170 (18, [(14, 248), (1, x1), pU, (0, x3)], [(1, s_X12_gauge_1 x3 h)], h) Q'
          refine WP.goto rfl ?_
          have e := kk; simp only [s_X12_greatest_1, if_neg (Int.not_le.mpr c6)] at e ⊢; exact e
      refine k5 _ ?_
      refine WP.lstore_n (L' := [(14, 248), (1, s_X12_greatest_1 x1 x3 h), pU, (0, x3)]) rfl rfl ?_
      refine WP.iincE (L' := [(14, 248), (1, s_X12_greatest_1 x1 x3 h), pU, (0, x3 + 1)]) rfl rfl o8 rfl ?_
      refine WP.goto rfl ?_
      exact kk [] (s_X12_greatest_1 x1 x3 h, x3 + 1) (rfl)
  · intro hP hc
    generalize hs : (L_X12_greatest_6 h x1 x3 : Int × Int) = s at kk
    change P_X12_greatest_6 h (L_X12_greatest_6 h x1 x3).1 (L_X12_greatest_6 h x1 x3).2 at hP
    change ¬ C_X12_greatest_6 h (L_X12_greatest_6 h x1 x3).1 (L_X12_greatest_6 h x1 x3).2 at hc
    intro us
    show WP 170 (6, [(14, 248), (1, (L_X12_greatest_6 h x1 x3).1), pU, (0, (L_X12_greatest_6 h x1 x3).2)], [], h) Q
    rw [hs] at hP hc ⊢
    obtain ⟨x1, x3⟩ := s
    change P_X12_greatest_6 h x1 x3 at hP
    change ¬ (x3 < 12) at hc
    unfold P_X12_greatest_6 at hP
    show WP 170 (6, [(14, 248), (1, x1), pU, (0, x3)], [], h) Q
    refine WP.iload_n rfl rfl ?_
    refine WP.bipush rfl ?_
    refine WP.ni_ge rfl (fun c2 => ?_) (fun c2 => ?_)
    · exact kk []
    · exact absurd (show x3 < 12 from c2) hc
noncomputable def s_X12_greatest_2 (h : pH) : Int := (L_X12_greatest_6 h (s_X12_gauge_1 0 h) 1).1
noncomputable def s_X12_greatest_3 (h : pH) : Int := (L_X12_greatest_6 h (s_X12_gauge_1 0 h) 1).2
noncomputable def F_X12_greatest (h : pH) : Int := s_X12_greatest_2 h
noncomputable def P_X12_greatest (h : pH) : Prop := P_X12_gauge 0 h ∧ (O_X12_greatest_6 h (s_X12_gauge_1 0 h) 1)
set_option maxHeartbeats 4000000 in
theorem w_X12_greatest (h : pH) {Q : Option pV → pH → Prop} (hp : P_X12_greatest h) (kk : Q (some (1, F_X12_greatest h)) (h)) : WP 170 (0, [(14, 248), pU, pU, pU], [], h) Q := by
  unfold P_X12_greatest at hp
  obtain ⟨o1, o9⟩ := hp
  refine WP.aload_n rfl rfl ⟨by decide, by decide⟩ ?_
  refine WP.iconst rfl ?_
  refine WP.callF (c_X12_gauge 0 h o1) rfl rfl (pm_cok rfl rfl (Or.inr ⟨_, _, rfl⟩) rfl rfl) rfl rfl ?_
  show WP 170 (3, [(14, 248), pU, pU, pU], [(1, s_X12_gauge_1 0 h)], h) Q
  refine WP.lstore_n (L' := [(14, 248), (1, s_X12_gauge_1 0 h), pU, pU]) rfl rfl ?_
  refine WP.iconst rfl ?_
  refine WP.istore_n (L' := [(14, 248), (1, s_X12_gauge_1 0 h), pU, (0, 1)]) rfl rfl ?_
  refine lp_X12_greatest_6 h (s_X12_gauge_1 0 h) 1 o9 (fun us10 => ?_) []
  show WP 170 (23, [(14, 248), (1, s_X12_greatest_2 h), pU, (0, s_X12_greatest_3 h)], [], h) Q
  refine WP.lload_n rfl rfl ?_
  refine WP.retl rfl ?_; exact kk
theorem c_X12_greatest (h : pH) (hp : P_X12_greatest h) : CP 170 [(14, 248)] h (fun r h1 => r = some (1, F_X12_greatest h) ∧ h1 = h) := w_X12_greatest h hp ⟨rfl, rfl⟩
def C_X12_findLine_11 (y1 : Int) (x2 : Int) (x3 : Int) (h : pH) : Prop := 0 < x3 ∧ (¬ F_X12_isAhead x2 (h 258 (x3 - 1)) h = 0)
noncomputable def B_X12_findLine_11 (y1 : Int) (x2 : Int) (x3 : Int) (h : pH) : Int × pH := (x3 + (-1), pm_upd h 258 x3 (h 258 (x3 - 1)))
noncomputable def P_X12_findLine_11 (y1 : Int) (x2 : Int) (x3 : Int) (h : pH) : Prop := (((0 < x3) → ((fx_i (x3 - 1)) ∧ (0 ≤ x3 - 1 ∧ x3 - 1 < 16) ∧ (P_X12_isAhead x2 (h 258 (x3 - 1)) h)))) ∧ ((0 < x3 ∧ (¬ F_X12_isAhead x2 (h 258 (x3 - 1)) h = 0)) → ((fx_i (x3 - 1)) ∧ (0 ≤ x3 - 1 ∧ x3 - 1 < 16) ∧ (P_X12_isAhead x2 (h 258 (x3 - 1)) h) ∧ (0 ≤ x3 ∧ x3 < 16) ∧ (fx_i (x3 + (-1)))))
noncomputable def L_X12_findLine_11 (y1 : Int) (x2 : Int) (x3 : Int) (h : pH) : Int × pH := fx_wh (σ := Int × pH) (fun s => C_X12_findLine_11 y1 x2 s.1 s.2) (fun s => B_X12_findLine_11 y1 x2 s.1 s.2) (x3, h)
def O_X12_findLine_11 (y1 : Int) (x2 : Int) (x3 : Int) (h : pH) : Prop := fx_ok (σ := Int × pH) (fun s => C_X12_findLine_11 y1 x2 s.1 s.2) (fun s => B_X12_findLine_11 y1 x2 s.1 s.2) (fun s => P_X12_findLine_11 y1 x2 s.1 s.2) (x3, h)
set_option maxHeartbeats 4000000 in
theorem lp_X12_findLine_11 (y1 : Int) (x2 : Int) (x3 : Int) (h : pH) {Q : Option pV → pH → Prop} (hp : O_X12_findLine_11 y1 x2 x3 h) (kk : ∀ us : List pV, WP 179 (35, [(14, 248), (0, y1), (0, x2), (0, (L_X12_findLine_11 y1 x2 x3 h).1)], [], (L_X12_findLine_11 y1 x2 x3 h).2) Q) : ∀ us : List pV, WP 179 (11, [(14, 248), (0, y1), (0, x2), (0, x3)], [], h) Q := by
  refine WP.wh (σ := Int × pH) (fun s => C_X12_findLine_11 y1 x2 s.1 s.2) (fun s => B_X12_findLine_11 y1 x2 s.1 s.2) (fun s => P_X12_findLine_11 y1 x2 s.1 s.2) (fun s us => (11, [(14, 248), (0, y1), (0, x2), (0, s.1)], [], s.2)) (x3, h) hp ?_ ?_
  · intro s us hP hc kk
    obtain ⟨x3, h⟩ := s
    change P_X12_findLine_11 y1 x2 x3 h at hP
    change 0 < x3 ∧ (¬ F_X12_isAhead x2 (h 258 (x3 - 1)) h = 0) at hc
    replace kk : ∀ (us' : List pV) (s' : Int × pH), s' = B_X12_findLine_11 y1 x2 x3 h → WP 179 (11, [(14, 248), (0, y1), (0, x2), (0, s'.1)], [], s'.2) Q := fun us' s' e => by subst e; exact kk us'
    unfold P_X12_findLine_11 at hP
    obtain ⟨hPc, hPb⟩ := hP
    have q9 := hPc
    obtain ⟨o11, o12, o13, o15, o16⟩ := hPb hc
    show WP 179 (11, [(14, 248), (0, y1), (0, x2), (0, x3)], [], h) Q
    refine WP.iload_n rfl rfl ?_
    refine WP.nz_le rfl (fun c10 => ?_) (fun c10 => ?_)
    · exact absurd hc (fun q => (Int.not_lt.mpr c10) q.1)
    · refine WP.aload_n rfl rfl ⟨by decide, by decide⟩ ?_
      refine WP.iload_n rfl rfl ?_
      refine WP.aload_n rfl rfl ⟨by decide, by decide⟩ ?_
      refine WP.getRF (b := 258) rfl rfl rfl ?_
      refine WP.iload_n rfl rfl ?_
      refine WP.iconst rfl ?_
      refine WP.isubE rfl o11 ?_
      refine WP.iaload rfl ⟨by decide, by decide, by decide⟩ o12 ?_
      refine WP.callF (c_X12_isAhead x2 (h 258 (x3 - 1)) h o13) rfl rfl (pm_cok rfl rfl (Or.inr ⟨_, _, rfl⟩) rfl rfl) rfl rfl ?_
      show WP 179 (22, [(14, 248), (0, y1), (0, x2), (0, x3)], [(0, F_X12_isAhead x2 (h 258 (x3 - 1)) h)], h) Q
      refine WP.nz_eq rfl (fun c14 => ?_) (fun c14 => ?_)
      · exact absurd hc (fun q => (fun q => q c14) q.2)
      · refine WP.aload_n rfl rfl ⟨by decide, by decide⟩ ?_
        refine WP.getRF (b := 258) rfl rfl rfl ?_
        refine WP.iload_n rfl rfl ?_
        refine WP.aload_n rfl rfl ⟨by decide, by decide⟩ ?_
        refine WP.getRF (b := 258) rfl rfl rfl ?_
        refine WP.iload_n rfl rfl ?_
        refine WP.iconst rfl ?_
        refine WP.isubE rfl o11 ?_
        refine WP.iaload rfl ⟨by decide, by decide, by decide⟩ o12 ?_
        refine WP.iastore rfl ⟨by decide, by decide, by decide⟩ o15 ?_
        refine WP.iincE (L' := [(14, 248), (0, y1), (0, x2), (0, x3 + (-1))]) rfl rfl o16 rfl ?_
        refine WP.goto rfl ?_
        exact kk [] (x3 + (-1), pm_upd h 258 x3 (h 258 (x3 - 1))) (rfl)
  · intro hP hc
    generalize hs : (L_X12_findLine_11 y1 x2 x3 h : Int × pH) = s at kk
    change P_X12_findLine_11 y1 x2 (L_X12_findLine_11 y1 x2 x3 h).1 (L_X12_findLine_11 y1 x2 x3 h).2 at hP
    change ¬ C_X12_findLine_11 y1 x2 (L_X12_findLine_11 y1 x2 x3 h).1 (L_X12_findLine_11 y1 x2 x3 h).2 at hc
    intro us
    show WP 179 (11, [(14, 248), (0, y1), (0, x2), (0, (L_X12_findLine_11 y1 x2 x3 h).1)], [], (L_X12_findLine_11 y1 x2 x3 h).2) Q
    rw [hs] at hP hc ⊢
    obtain ⟨x3, h⟩ := s
    change P_X12_findLine_11 y1 x2 x3 h at hP
    change ¬ (0 < x3 ∧ (¬ F_X12_isAhead x2 (h 258 (x3 - 1)) h = 0)) at hc
    unfold P_X12_findLine_11 at hP
    have q9 := hP.1
    show WP 179 (11, [(14, 248), (0, y1), (0, x2), (0, x3)], [], h) Q
    refine WP.iload_n rfl rfl ?_
    refine WP.nz_le rfl (fun c4 => ?_) (fun c4 => ?_)
    · exact kk []
    · obtain ⟨o5, o6, o7⟩ := q9 c4
      refine WP.aload_n rfl rfl ⟨by decide, by decide⟩ ?_
      refine WP.iload_n rfl rfl ?_
      refine WP.aload_n rfl rfl ⟨by decide, by decide⟩ ?_
      refine WP.getRF (b := 258) rfl rfl rfl ?_
      refine WP.iload_n rfl rfl ?_
      refine WP.iconst rfl ?_
      refine WP.isubE rfl o5 ?_
      refine WP.iaload rfl ⟨by decide, by decide, by decide⟩ o6 ?_
      refine WP.callF (c_X12_isAhead x2 (h 258 (x3 - 1)) h o7) rfl rfl (pm_cok rfl rfl (Or.inr ⟨_, _, rfl⟩) rfl rfl) rfl rfl ?_
      show WP 179 (22, [(14, 248), (0, y1), (0, x2), (0, x3)], [(0, F_X12_isAhead x2 (h 258 (x3 - 1)) h)], h) Q
      refine WP.nz_eq rfl (fun c8 => ?_) (fun c8 => ?_)
      · exact kk []
      · exact absurd (show 0 < x3 ∧ (¬ F_X12_isAhead x2 (h 258 (x3 - 1)) h = 0) from ⟨c4, c8⟩) hc
noncomputable def s_X12_findLine_1 (y1 : Int) (x2 : Int) (h : pH) : Int := (L_X12_findLine_11 y1 x2 x2 h).1
noncomputable def s_X12_findLine_2 (y1 : Int) (x2 : Int) (h : pH) : pH := (L_X12_findLine_11 y1 x2 x2 h).2
noncomputable def s_X12_findLine_3 (y1 : Int) (x2 : Int) (h : pH) : pH := pm_upd (s_X12_findLine_2 y1 x2 h) 258 (s_X12_findLine_1 y1 x2 h) x2
def C_X12_findLine_6 (y1 : Int) (x2 : Int) (h : pH) : Prop := x2 < y1
noncomputable def B_X12_findLine_6 (y1 : Int) (x2 : Int) (h : pH) : Int × pH := (x2 + 1, s_X12_findLine_3 y1 x2 h)
noncomputable def P_X12_findLine_6 (y1 : Int) (x2 : Int) (h : pH) : Prop := ((x2 < y1) → O_X12_findLine_11 y1 x2 x2 h ∧ (0 ≤ s_X12_findLine_1 y1 x2 h ∧ s_X12_findLine_1 y1 x2 h < 16) ∧ (fx_i (x2 + 1)))
noncomputable def L_X12_findLine_6 (y1 : Int) (x2 : Int) (h : pH) : Int × pH := fx_wh (σ := Int × pH) (fun s => C_X12_findLine_6 y1 s.1 s.2) (fun s => B_X12_findLine_6 y1 s.1 s.2) (x2, h)
def O_X12_findLine_6 (y1 : Int) (x2 : Int) (h : pH) : Prop := fx_ok (σ := Int × pH) (fun s => C_X12_findLine_6 y1 s.1 s.2) (fun s => B_X12_findLine_6 y1 s.1 s.2) (fun s => P_X12_findLine_6 y1 s.1 s.2) (x2, h)
set_option maxHeartbeats 4000000 in
theorem lp_X12_findLine_6 (y1 : Int) (x2 : Int) (h : pH) {Q : Option pV → pH → Prop} (hp : O_X12_findLine_6 y1 x2 h) (kk : ∀ us : List pV, WP 179 (42, [(14, 248), (0, y1), (0, (L_X12_findLine_6 y1 x2 h).1), us.getD 0 pU], [], (L_X12_findLine_6 y1 x2 h).2) Q) : ∀ us : List pV, WP 179 (6, [(14, 248), (0, y1), (0, x2), us.getD 0 pU], [], h) Q := by
  refine WP.wh (σ := Int × pH) (fun s => C_X12_findLine_6 y1 s.1 s.2) (fun s => B_X12_findLine_6 y1 s.1 s.2) (fun s => P_X12_findLine_6 y1 s.1 s.2) (fun s us => (6, [(14, 248), (0, y1), (0, s.1), us.getD 0 pU], [], s.2)) (x2, h) hp ?_ ?_
  · intro s us hP hc kk
    obtain ⟨x2, h⟩ := s
    change P_X12_findLine_6 y1 x2 h at hP
    change x2 < y1 at hc
    replace kk : ∀ (us' : List pV) (s' : Int × pH), s' = B_X12_findLine_6 y1 x2 h → WP 179 (6, [(14, 248), (0, y1), (0, s'.1), us'.getD 0 pU], [], s'.2) Q := fun us' s' e => by subst e; exact kk us'
    unfold P_X12_findLine_6 at hP
    obtain ⟨o17, o19, o20⟩ := hP hc
    show WP 179 (6, [(14, 248), (0, y1), (0, x2), us.getD 0 pU], [], h) Q
    refine WP.iload_n rfl rfl ?_
    refine WP.iload_n rfl rfl ?_
    refine WP.ni_ge rfl (fun c3 => ?_) (fun c3 => ?_)
    · exact absurd hc (Int.not_lt.mpr c3)
    · refine WP.iload_n rfl rfl ?_
      refine WP.istore_n (L' := [(14, 248), (0, y1), (0, x2), (0, x2)]) rfl rfl ?_
      refine lp_X12_findLine_11 y1 x2 x2 h o17 (fun us18 => ?_) []
      show WP 179 (35, [(14, 248), (0, y1), (0, x2), (0, s_X12_findLine_1 y1 x2 h)], [], s_X12_findLine_2 y1 x2 h) Q
      refine WP.aload_n rfl rfl ⟨by decide, by decide⟩ ?_
      refine WP.getRF (b := 258) rfl rfl rfl ?_
      refine WP.iload_n rfl rfl ?_
      refine WP.iload_n rfl rfl ?_
      refine WP.iastore rfl ⟨by decide, by decide, by decide⟩ o19 ?_
      show WP 179 (40, [(14, 248), (0, y1), (0, x2), (0, s_X12_findLine_1 y1 x2 h)], [], s_X12_findLine_3 y1 x2 h) Q
      refine WP.iincE (L' := [(14, 248), (0, y1), (0, x2 + 1), (0, s_X12_findLine_1 y1 x2 h)]) rfl rfl o20 rfl ?_
      refine WP.goto rfl ?_
      exact kk [(0, s_X12_findLine_1 y1 x2 h)] (x2 + 1, s_X12_findLine_3 y1 x2 h) (rfl)
  · intro hP hc
    generalize hs : (L_X12_findLine_6 y1 x2 h : Int × pH) = s at kk
    change P_X12_findLine_6 y1 (L_X12_findLine_6 y1 x2 h).1 (L_X12_findLine_6 y1 x2 h).2 at hP
    change ¬ C_X12_findLine_6 y1 (L_X12_findLine_6 y1 x2 h).1 (L_X12_findLine_6 y1 x2 h).2 at hc
    intro us
    show WP 179 (6, [(14, 248), (0, y1), (0, (L_X12_findLine_6 y1 x2 h).1), us.getD 0 pU], [], (L_X12_findLine_6 y1 x2 h).2) Q
    rw [hs] at hP hc ⊢
    obtain ⟨x2, h⟩ := s
    change P_X12_findLine_6 y1 x2 h at hP
    change ¬ (x2 < y1) at hc
    unfold P_X12_findLine_6 at hP
    show WP 179 (6, [(14, 248), (0, y1), (0, x2), us.getD 0 pU], [], h) Q
    refine WP.iload_n rfl rfl ?_
    refine WP.iload_n rfl rfl ?_
    refine WP.ni_ge rfl (fun c2 => ?_) (fun c2 => ?_)
    · exact kk [us.getD 0 pU]
    · exact absurd (show x2 < y1 from c2) hc
noncomputable def s_X12_findLine_4 (h : pH) : Int := (L_X12_findLine_6 (h 249 13) 0 h).1
noncomputable def s_X12_findLine_5 (h : pH) : pH := (L_X12_findLine_6 (h 249 13) 0 h).2
noncomputable def H_X12_findLine (h : pH) : pH := s_X12_findLine_5 h
noncomputable def P_X12_findLine (h : pH) : Prop := P_X12_at 13 h ∧ (O_X12_findLine_6 (h 249 13) 0 h)
set_option maxHeartbeats 4000000 in
theorem w_X12_findLine (h : pH) {Q : Option pV → pH → Prop} (hp : P_X12_findLine h) (kk : Q (none) (H_X12_findLine h)) : WP 179 (0, [(14, 248), pU, pU, pU], [], h) Q := by
  unfold P_X12_findLine at hp
  obtain ⟨o1, o21⟩ := hp
  refine WP.aload_n rfl rfl ⟨by decide, by decide⟩ ?_
  refine WP.bipush rfl ?_
  refine WP.callF (c_X12_at 13 h o1) rfl rfl (pm_cok rfl rfl (Or.inr ⟨_, _, rfl⟩) rfl rfl) rfl rfl ?_
  show WP 179 (3, [(14, 248), pU, pU, pU], [(0, h 249 13)], h) Q
  refine WP.istore_n (L' := [(14, 248), (0, h 249 13), pU, pU]) rfl rfl ?_
  refine WP.iconst rfl ?_
  refine WP.istore_n (L' := [(14, 248), (0, h 249 13), (0, 0), pU]) rfl rfl ?_
  refine lp_X12_findLine_6 (h 249 13) 0 h o21 (fun us22 => ?_) [pU]
  show WP 179 (42, [(14, 248), (0, h 249 13), (0, s_X12_findLine_4 h), us22.getD 0 pU], [], s_X12_findLine_5 h) Q
  refine WP.retv rfl ?_; exact kk
theorem c_X12_findLine (h : pH) (hp : P_X12_findLine h) : CP 179 [(14, 248)] h (fun r h1 => r = none ∧ h1 = H_X12_findLine h) := w_X12_findLine h hp ⟨rfl, rfl⟩
noncomputable def s_X12_trip_1 (a1 : Int) (x6 : Int) (h : pH) : Int := if h 249 (124 + x6) = a1 ∧ 0 < (h 249 (164 + x6)) * (h 249 (104 + x6)) then (h 249 (164 + x6)) * (h 249 (104 + x6)) else 0
noncomputable def s_X12_trip_2 (a1 : Int) (x5 : Int) (x6 : Int) (h : pH) : Int := if h 249 (124 + x6) = a1 ∧ 0 < (h 249 (164 + x6)) * (h 249 (104 + x6)) then x6 else x5
def C_X12_trip_10 (a1 : Int) (h : pH) (x3 : Int) (x5 : Int) (x6 : Int) : Prop := x6 < h 249 12
noncomputable def B_X12_trip_10 (a1 : Int) (h : pH) (x3 : Int) (x5 : Int) (x6 : Int) : Int × Int × Int := (x3 + (s_X12_trip_1 a1 x6 h), s_X12_trip_2 a1 x5 x6 h, x6 + 1)
noncomputable def P_X12_trip_10 (a1 : Int) (h : pH) (x3 : Int) (x5 : Int) (x6 : Int) : Prop := ((x6 < h 249 12) → (fx_i (124 + x6)) ∧ (0 ≤ 124 + x6 ∧ 124 + x6 < 620) ∧ (((h 249 (124 + x6) = a1) → P_X12_drawn x6 h)) ∧ (((h 249 (124 + x6) = a1 ∧ 0 < (h 249 (164 + x6)) * (h 249 (104 + x6))) → P_X12_drawn x6 h)) ∧ (fx_l (x3 + (s_X12_trip_1 a1 x6 h))) ∧ (fx_i (x6 + 1)))
noncomputable def L_X12_trip_10 (a1 : Int) (h : pH) (x3 : Int) (x5 : Int) (x6 : Int) : Int × Int × Int := fx_wh (σ := Int × Int × Int) (fun s => C_X12_trip_10 a1 h s.1 s.2.1 s.2.2) (fun s => B_X12_trip_10 a1 h s.1 s.2.1 s.2.2) (x3, x5, x6)
def O_X12_trip_10 (a1 : Int) (h : pH) (x3 : Int) (x5 : Int) (x6 : Int) : Prop := fx_ok (σ := Int × Int × Int) (fun s => C_X12_trip_10 a1 h s.1 s.2.1 s.2.2) (fun s => B_X12_trip_10 a1 h s.1 s.2.1 s.2.2) (fun s => P_X12_trip_10 a1 h s.1 s.2.1 s.2.2) (x3, x5, x6)
set_option maxHeartbeats 4000000 in
theorem lp_X12_trip_10 (a1 : Int) (h : pH) (x3 : Int) (x5 : Int) (x6 : Int) {Q : Option pV → pH → Prop} (hp : O_X12_trip_10 a1 h x3 x5 x6) (kk : ∀ us : List pV, WP 184 (56, [(14, 248), (0, a1), us.getD 0 pU, (1, (L_X12_trip_10 a1 h x3 x5 x6).1), pU, (0, (L_X12_trip_10 a1 h x3 x5 x6).2.1), (0, (L_X12_trip_10 a1 h x3 x5 x6).2.2), us.getD 1 pU], [], h) Q) : ∀ us : List pV, WP 184 (10, [(14, 248), (0, a1), us.getD 0 pU, (1, x3), pU, (0, x5), (0, x6), us.getD 1 pU], [], h) Q := by
  refine WP.wh (σ := Int × Int × Int) (fun s => C_X12_trip_10 a1 h s.1 s.2.1 s.2.2) (fun s => B_X12_trip_10 a1 h s.1 s.2.1 s.2.2) (fun s => P_X12_trip_10 a1 h s.1 s.2.1 s.2.2) (fun s us => (10, [(14, 248), (0, a1), us.getD 0 pU, (1, s.1), pU, (0, s.2.1), (0, s.2.2), us.getD 1 pU], [], h)) (x3, x5, x6) hp ?_ ?_
  · intro s us hP hc kk
    obtain ⟨x3, x5, x6⟩ := s
    change P_X12_trip_10 a1 h x3 x5 x6 at hP
    change x6 < h 249 12 at hc
    replace kk : ∀ (us' : List pV) (s' : Int × Int × Int), s' = B_X12_trip_10 a1 h x3 x5 x6 → WP 184 (10, [(14, 248), (0, a1), us'.getD 0 pU, (1, s'.1), pU, (0, s'.2.1), (0, s'.2.2), us'.getD 1 pU], [], h) Q := fun us' s' e => by subst e; exact kk us'
    unfold P_X12_trip_10 at hP
    obtain ⟨o5, o6, q13, q19, o20, o24⟩ := hP hc
    show WP 184 (10, [(14, 248), (0, a1), us.getD 0 pU, (1, x3), pU, (0, x5), (0, x6), us.getD 1 pU], [], h) Q
    refine WP.iload rfl rfl ?_
    refine WP.i2l rfl ?_
    refine WP.aload_n rfl rfl ⟨by decide, by decide⟩ ?_
    refine WP.getRF (b := 249) rfl rfl rfl ?_
    refine WP.bipush rfl ?_
    refine WP.laload rfl ⟨by decide, by decide, by decide⟩ (by decide) ?_
    refine WP.lcmp rfl ?_
    refine WP.nl_ge rfl (fun c4 => ?_) (fun c4 => ?_)
    · exact absurd hc (Int.not_lt.mpr c4)
    · refine WP.aload_n rfl rfl ⟨by decide, by decide⟩ ?_
      refine WP.getRF (b := 249) rfl rfl rfl ?_
      refine WP.bipush rfl ?_
      refine WP.iload rfl rfl ?_
      refine WP.iaddE rfl o5 ?_
      refine WP.laload rfl ⟨by decide, by decide, by decide⟩ o6 ?_
      refine WP.iload_n rfl rfl ?_
      refine WP.i2l rfl ?_
      refine WP.lcmp rfl ?_
      have k7 : ∀ Q' : Option pV → pH → Prop, (WP 184 (37, [(14, 248), (0, a1), us.getD 0 pU, (1, x3), pU, (0, x5), (0, x6), us.getD 1 pU], [(0, if h 249 (124 + x6) = a1 ∧ 0 < (h 249 (164 + x6)) * (h 249 (104 + x6)) then 1 else 0)], h) Q') → WP 184 (27, [(14, 248), (0, a1), us.getD 0 pU, (1, x3), pU, (0, x5), (0, x6), us.getD 1 pU], [(0, pm_lcmp (h 249 (124 + x6)) a1)], h) Q' := fun Q' kk => by
        have q11 := q13
        refine WP.nl_ne rfl (fun c8 => ?_) (fun c8 => ?_)
        · refine WP.iconst rfl ?_
          have e := kk; simp only [if_neg (c8), if_neg (show ¬ (h 249 (124 + x6) = a1 ∧ 0 < (h 249 (164 + x6)) * (h 249 (104 + x6))) from fun q => (c8) q.1)] at e ⊢; exact e
        · have o9 := q11 c8
          refine WP.aload_n rfl rfl ⟨by decide, by decide⟩ ?_
          refine WP.iload rfl rfl ?_
          refine WP.callF (c_X12_drawn x6 h o9) rfl rfl (pm_cok rfl rfl (Or.inr ⟨_, _, rfl⟩) rfl rfl) rfl rfl ?_
          show WP 184 (31, [(14, 248), (0, a1), us.getD 0 pU, (1, x3), pU, (0, x5), (0, x6), us.getD 1 pU], [(1, (h 249 (164 + x6)) * (h 249 (104 + x6)))], h) Q'
          refine WP.lconst rfl ?_
          refine WP.lcmp rfl ?_
          refine WP.nl_le rfl (fun c10 => ?_) (fun c10 => ?_)
          · refine WP.iconst rfl ?_
            have e := kk; simp only [if_pos c8, if_pos c10, if_neg (show ¬ (h 249 (124 + x6) = a1 ∧ 0 < (h 249 (164 + x6)) * (h 249 (104 + x6))) from fun q => (Int.not_lt.mpr c10) q.2)] at e ⊢; exact e
          · refine WP.iconst rfl ?_
            refine WP.goto rfl ?_
            have e := kk; simp only [if_pos c8, if_neg (Int.not_le.mpr c10), if_pos (show h 249 (124 + x6) = a1 ∧ 0 < (h 249 (164 + x6)) * (h 249 (104 + x6)) from ⟨c8, c10⟩)] at e ⊢; exact e
      refine k7 _ ?_
      refine WP.istore (L' := [(14, 248), (0, a1), us.getD 0 pU, (1, x3), pU, (0, x5), (0, x6), (0, if h 249 (124 + x6) = a1 ∧ 0 < (h 249 (164 + x6)) * (h 249 (104 + x6)) then 1 else 0)]) rfl rfl ?_
      refine WP.lload_n rfl rfl ?_
      refine WP.iload rfl rfl ?_
      have k14 : ∀ Q' : Option pV → pH → Prop, (WP 184 (46, [(14, 248), (0, a1), us.getD 0 pU, (1, x3), pU, (0, x5), (0, x6), (0, if h 249 (124 + x6) = a1 ∧ 0 < (h 249 (164 + x6)) * (h 249 (104 + x6)) then 1 else 0)], [(1, s_X12_trip_1 a1 x6 h), (1, x3)], h) Q') → WP 184 (40, [(14, 248), (0, a1), us.getD 0 pU, (1, x3), pU, (0, x5), (0, x6), (0, if h 249 (124 + x6) = a1 ∧ 0 < (h 249 (164 + x6)) * (h 249 (104 + x6)) then 1 else 0)], [(0, if h 249 (124 + x6) = a1 ∧ 0 < (h 249 (164 + x6)) * (h 249 (104 + x6)) then 1 else 0), (1, x3)], h) Q' := fun Q' kk => by
        have q17 := q19
        refine WP.nb_eq rfl (fun c15 => ?_) (fun c15 => ?_)
        · refine WP.lconst rfl ?_
          have e := kk; simp only [s_X12_trip_1, if_neg (c15)] at e ⊢; exact e
        · have o16 := q17 c15
          refine WP.aload_n rfl rfl ⟨by decide, by decide⟩ ?_
          refine WP.iload rfl rfl ?_
          refine WP.callF (c_X12_drawn x6 h o16) rfl rfl (pm_cok rfl rfl (Or.inr ⟨_, _, rfl⟩) rfl rfl) rfl rfl ?_
          show WP 184 (44, [(14, 248), (0, a1), us.getD 0 pU, (1, x3), pU, (0, x5), (0, x6), (0, if h 249 (124 + x6) = a1 ∧ 0 < (h 249 (164 + x6)) * (h 249 (104 + x6)) then 1 else 0)], [(1, (h 249 (164 + x6)) * (h 249 (104 + x6))), (1, x3)], h) Q'
          refine WP.goto rfl ?_
          have e := kk; simp only [s_X12_trip_1, if_pos c15] at e ⊢; exact e
      refine k14 _ ?_
      refine WP.laddE rfl o20 ?_
      refine WP.lstore_n (L' := [(14, 248), (0, a1), if (us.getD 0 pU).1 = 1 then pU else us.getD 0 pU, (1, x3 + (s_X12_trip_1 a1 x6 h)), pU, (0, x5), (0, x6), (0, if h 249 (124 + x6) = a1 ∧ 0 < (h 249 (164 + x6)) * (h 249 (104 + x6)) then 1 else 0)]) rfl rfl ?_
      refine WP.iload rfl rfl ?_
      have k21 : ∀ Q' : Option pV → pH → Prop, (WP 184 (53, [(14, 248), (0, a1), if (us.getD 0 pU).1 = 1 then pU else us.getD 0 pU, (1, x3 + (s_X12_trip_1 a1 x6 h)), pU, (0, x5), (0, x6), (0, if h 249 (124 + x6) = a1 ∧ 0 < (h 249 (164 + x6)) * (h 249 (104 + x6)) then 1 else 0)], [(0, s_X12_trip_2 a1 x5 x6 h)], h) Q') → WP 184 (49, [(14, 248), (0, a1), if (us.getD 0 pU).1 = 1 then pU else us.getD 0 pU, (1, x3 + (s_X12_trip_1 a1 x6 h)), pU, (0, x5), (0, x6), (0, if h 249 (124 + x6) = a1 ∧ 0 < (h 249 (164 + x6)) * (h 249 (104 + x6)) then 1 else 0)], [(0, if h 249 (124 + x6) = a1 ∧ 0 < (h 249 (164 + x6)) * (h 249 (104 + x6)) then 1 else 0)], h) Q' := fun Q' kk => by
        refine WP.nb_eq rfl (fun c22 => ?_) (fun c22 => ?_)
        · refine WP.iload rfl rfl ?_
          have e := kk; simp only [s_X12_trip_2, if_neg (c22)] at e ⊢; exact e
        · refine WP.iload rfl rfl ?_
          refine WP.goto rfl ?_
          have e := kk; simp only [s_X12_trip_2, if_pos c22] at e ⊢; exact e
      refine k21 _ ?_
      refine WP.istore (L' := [(14, 248), (0, a1), if (us.getD 0 pU).1 = 1 then pU else us.getD 0 pU, (1, x3 + (s_X12_trip_1 a1 x6 h)), pU, (0, s_X12_trip_2 a1 x5 x6 h), (0, x6), (0, if h 249 (124 + x6) = a1 ∧ 0 < (h 249 (164 + x6)) * (h 249 (104 + x6)) then 1 else 0)]) rfl rfl ?_
      refine WP.iincE (L' := [(14, 248), (0, a1), if (us.getD 0 pU).1 = 1 then pU else us.getD 0 pU, (1, x3 + (s_X12_trip_1 a1 x6 h)), pU, (0, s_X12_trip_2 a1 x5 x6 h), (0, x6 + 1), (0, if h 249 (124 + x6) = a1 ∧ 0 < (h 249 (164 + x6)) * (h 249 (104 + x6)) then 1 else 0)]) rfl rfl o24 rfl ?_
      refine WP.goto rfl ?_
      exact kk [if (us.getD 0 pU).1 = 1 then pU else us.getD 0 pU, (0, if h 249 (124 + x6) = a1 ∧ 0 < (h 249 (164 + x6)) * (h 249 (104 + x6)) then 1 else 0)] (x3 + (s_X12_trip_1 a1 x6 h), s_X12_trip_2 a1 x5 x6 h, x6 + 1) (rfl)
  · intro hP hc
    generalize hs : (L_X12_trip_10 a1 h x3 x5 x6 : Int × Int × Int) = s at kk
    change P_X12_trip_10 a1 h (L_X12_trip_10 a1 h x3 x5 x6).1 (L_X12_trip_10 a1 h x3 x5 x6).2.1 (L_X12_trip_10 a1 h x3 x5 x6).2.2 at hP
    change ¬ C_X12_trip_10 a1 h (L_X12_trip_10 a1 h x3 x5 x6).1 (L_X12_trip_10 a1 h x3 x5 x6).2.1 (L_X12_trip_10 a1 h x3 x5 x6).2.2 at hc
    intro us
    show WP 184 (10, [(14, 248), (0, a1), us.getD 0 pU, (1, (L_X12_trip_10 a1 h x3 x5 x6).1), pU, (0, (L_X12_trip_10 a1 h x3 x5 x6).2.1), (0, (L_X12_trip_10 a1 h x3 x5 x6).2.2), us.getD 1 pU], [], h) Q
    rw [hs] at hP hc ⊢
    obtain ⟨x3, x5, x6⟩ := s
    change P_X12_trip_10 a1 h x3 x5 x6 at hP
    change ¬ (x6 < h 249 12) at hc
    unfold P_X12_trip_10 at hP
    show WP 184 (10, [(14, 248), (0, a1), us.getD 0 pU, (1, x3), pU, (0, x5), (0, x6), us.getD 1 pU], [], h) Q
    refine WP.iload rfl rfl ?_
    refine WP.i2l rfl ?_
    refine WP.aload_n rfl rfl ⟨by decide, by decide⟩ ?_
    refine WP.getRF (b := 249) rfl rfl rfl ?_
    refine WP.bipush rfl ?_
    refine WP.laload rfl ⟨by decide, by decide, by decide⟩ (by decide) ?_
    refine WP.lcmp rfl ?_
    refine WP.nl_ge rfl (fun c3 => ?_) (fun c3 => ?_)
    · exact kk [us.getD 0 pU, us.getD 1 pU]
    · exact absurd (show x6 < h 249 12 from c3) hc
noncomputable def s_X12_trip_3 (a1 : Int) (h : pH) : Int := (L_X12_trip_10 a1 h 0 (-1) 0).1
noncomputable def s_X12_trip_4 (a1 : Int) (h : pH) : Int := (L_X12_trip_10 a1 h 0 (-1) 0).2.1
noncomputable def s_X12_trip_5 (a1 : Int) (h : pH) : Int := (L_X12_trip_10 a1 h 0 (-1) 0).2.2
noncomputable def s_X12_trip_6 (a1 : Int) (h : pH) : pH := H_X12_still (s_X12_trip_4 a1 h) 3 (pm_upd h 249 (134 + (s_X12_trip_4 a1 h)) 3)
noncomputable def s_X12_trip_7 (a1 : Int) (h : pH) : pH := if h 249 (56 + a1) < s_X12_trip_3 a1 h then s_X12_trip_6 a1 h else h
def C_X12_trip_2 (a1 : Int) (x2 : Int) (h : pH) : Prop := ¬ x2 = 0
noncomputable def B_X12_trip_2 (a1 : Int) (x2 : Int) (h : pH) : Int × pH := (if h 249 (56 + a1) < s_X12_trip_3 a1 h then 1 else 0, s_X12_trip_7 a1 h)
noncomputable def P_X12_trip_2 (a1 : Int) (x2 : Int) (h : pH) : Prop := ((¬ x2 = 0) → (O_X12_trip_10 a1 h 0 (-1) 0) ∧ (fx_i (56 + a1)) ∧ (0 ≤ 56 + a1 ∧ 56 + a1 < 620) ∧ (((h 249 (56 + a1) < s_X12_trip_3 a1 h) → ((fx_i (134 + (s_X12_trip_4 a1 h))) ∧ (0 ≤ 134 + (s_X12_trip_4 a1 h) ∧ 134 + (s_X12_trip_4 a1 h) < 620) ∧ (P_X12_still (s_X12_trip_4 a1 h) 3 (pm_upd h 249 (134 + (s_X12_trip_4 a1 h)) 3))))))
noncomputable def L_X12_trip_2 (a1 : Int) (x2 : Int) (h : pH) : Int × pH := fx_wh (σ := Int × pH) (fun s => C_X12_trip_2 a1 s.1 s.2) (fun s => B_X12_trip_2 a1 s.1 s.2) (x2, h)
def O_X12_trip_2 (a1 : Int) (x2 : Int) (h : pH) : Prop := fx_ok (σ := Int × pH) (fun s => C_X12_trip_2 a1 s.1 s.2) (fun s => B_X12_trip_2 a1 s.1 s.2) (fun s => P_X12_trip_2 a1 s.1 s.2) (x2, h)
set_option maxHeartbeats 4000000 in
theorem lp_X12_trip_2 (a1 : Int) (x2 : Int) (h : pH) {Q : Option pV → pH → Prop} (hp : O_X12_trip_2 a1 x2 h) (kk : ∀ us : List pV, WP 184 (83, [(14, 248), (0, a1), (0, (L_X12_trip_2 a1 x2 h).1), us.getD 0 pU, us.getD 1 pU, us.getD 2 pU, us.getD 3 pU, us.getD 4 pU], [], (L_X12_trip_2 a1 x2 h).2) Q) : ∀ us : List pV, WP 184 (2, [(14, 248), (0, a1), (0, x2), us.getD 0 pU, us.getD 1 pU, us.getD 2 pU, us.getD 3 pU, us.getD 4 pU], [], h) Q := by
  refine WP.wh (σ := Int × pH) (fun s => C_X12_trip_2 a1 s.1 s.2) (fun s => B_X12_trip_2 a1 s.1 s.2) (fun s => P_X12_trip_2 a1 s.1 s.2) (fun s us => (2, [(14, 248), (0, a1), (0, s.1), us.getD 0 pU, us.getD 1 pU, us.getD 2 pU, us.getD 3 pU, us.getD 4 pU], [], s.2)) (x2, h) hp ?_ ?_
  · intro s us hP hc kk
    obtain ⟨x2, h⟩ := s
    change P_X12_trip_2 a1 x2 h at hP
    change ¬ x2 = 0 at hc
    replace kk : ∀ (us' : List pV) (s' : Int × pH), s' = B_X12_trip_2 a1 x2 h → WP 184 (2, [(14, 248), (0, a1), (0, s'.1), us'.getD 0 pU, us'.getD 1 pU, us'.getD 2 pU, us'.getD 3 pU, us'.getD 4 pU], [], s'.2) Q := fun us' s' e => by subst e; exact kk us'
    unfold P_X12_trip_2 at hP
    obtain ⟨o25, o27, o28, q39⟩ := hP hc
    show WP 184 (2, [(14, 248), (0, a1), (0, x2), us.getD 0 pU, us.getD 1 pU, us.getD 2 pU, us.getD 3 pU, us.getD 4 pU], [], h) Q
    refine WP.iload_n rfl rfl ?_
    refine WP.nz_eq rfl (fun c2 => ?_) (fun c2 => ?_)
    · exact absurd hc (fun q => q c2)
    · refine WP.lconst rfl ?_
      refine WP.lstore_n (L' := [(14, 248), (0, a1), (0, x2), (1, 0), pU, us.getD 2 pU, us.getD 3 pU, us.getD 4 pU]) rfl rfl ?_
      refine WP.iconst rfl ?_
      refine WP.istore (L' := [(14, 248), (0, a1), (0, x2), (1, 0), pU, (0, (-1)), us.getD 3 pU, us.getD 4 pU]) rfl rfl ?_
      refine WP.iconst rfl ?_
      refine WP.istore (L' := [(14, 248), (0, a1), (0, x2), (1, 0), pU, (0, (-1)), (0, 0), us.getD 4 pU]) rfl rfl ?_
      refine lp_X12_trip_10 a1 h 0 (-1) 0 o25 (fun us26 => ?_) [(0, x2), us.getD 4 pU]
      show WP 184 (56, [(14, 248), (0, a1), us26.getD 0 pU, (1, s_X12_trip_3 a1 h), pU, (0, s_X12_trip_4 a1 h), (0, s_X12_trip_5 a1 h), us26.getD 1 pU], [], h) Q
      refine WP.lload_n rfl rfl ?_
      refine WP.aload_n rfl rfl ⟨by decide, by decide⟩ ?_
      refine WP.getRF (b := 249) rfl rfl rfl ?_
      refine WP.bipush rfl ?_
      refine WP.iload_n rfl rfl ?_
      refine WP.iaddE rfl o27 ?_
      refine WP.laload rfl ⟨by decide, by decide, by decide⟩ o28 ?_
      refine WP.lcmp rfl ?_
      have k29 : ∀ Q' : Option pV → pH → Prop, (WP 184 (68, [(14, 248), (0, a1), us26.getD 0 pU, (1, s_X12_trip_3 a1 h), pU, (0, s_X12_trip_4 a1 h), (0, s_X12_trip_5 a1 h), us26.getD 1 pU], [(0, if h 249 (56 + a1) < s_X12_trip_3 a1 h then 1 else 0)], h) Q') → WP 184 (64, [(14, 248), (0, a1), us26.getD 0 pU, (1, s_X12_trip_3 a1 h), pU, (0, s_X12_trip_4 a1 h), (0, s_X12_trip_5 a1 h), us26.getD 1 pU], [(0, pm_lcmp (s_X12_trip_3 a1 h) (h 249 (56 + a1)))], h) Q' := fun Q' kk => by
        refine WP.nl_le rfl (fun c30 => ?_) (fun c30 => ?_)
        · refine WP.iconst rfl ?_
          have e := kk; simp only [if_pos c30, if_neg (show ¬ (h 249 (56 + a1) < s_X12_trip_3 a1 h) from Int.not_lt.mpr c30)] at e ⊢; exact e
        · refine WP.iconst rfl ?_
          refine WP.goto rfl ?_
          have e := kk; simp only [if_neg (Int.not_le.mpr c30), if_pos (show h 249 (56 + a1) < s_X12_trip_3 a1 h from c30)] at e ⊢; exact e
      refine k29 _ ?_
      refine WP.istore_n (L' := [(14, 248), (0, a1), (0, if h 249 (56 + a1) < s_X12_trip_3 a1 h then 1 else 0), (1, s_X12_trip_3 a1 h), pU, (0, s_X12_trip_4 a1 h), (0, s_X12_trip_5 a1 h), us26.getD 1 pU]) rfl rfl ?_
      refine WP.iload_n rfl rfl ?_
      have k32 : ∀ Q' : Option pV → pH → Prop, (WP 184 (82, [(14, 248), (0, a1), (0, if h 249 (56 + a1) < s_X12_trip_3 a1 h then 1 else 0), (1, s_X12_trip_3 a1 h), pU, (0, s_X12_trip_4 a1 h), (0, s_X12_trip_5 a1 h), us26.getD 1 pU], [], s_X12_trip_7 a1 h) Q') → WP 184 (70, [(14, 248), (0, a1), (0, if h 249 (56 + a1) < s_X12_trip_3 a1 h then 1 else 0), (1, s_X12_trip_3 a1 h), pU, (0, s_X12_trip_4 a1 h), (0, s_X12_trip_5 a1 h), us26.getD 1 pU], [(0, if h 249 (56 + a1) < s_X12_trip_3 a1 h then 1 else 0)], h) Q' := fun Q' kk => by
        have q37 := q39
        refine WP.nb_eq rfl (fun c33 => ?_) (fun c33 => ?_)
        · have e := kk; simp only [s_X12_trip_7, if_neg (c33)] at e ⊢; exact e
        · obtain ⟨o34, o35, o36⟩ := q37 c33
          refine WP.aload_n rfl rfl ⟨by decide, by decide⟩ ?_
          refine WP.getRF (b := 249) rfl rfl rfl ?_
          refine WP.sipush rfl ?_
          refine WP.iload rfl rfl ?_
          refine WP.iaddE rfl o34 ?_
          refine WP.ldc2_w rfl ?_
          refine WP.lastore rfl ⟨by decide, by decide, by decide⟩ o35 ?_
          refine WP.aload_n rfl rfl ⟨by decide, by decide⟩ ?_
          refine WP.iload rfl rfl ?_
          refine WP.iconst rfl ?_
          refine WP.callF (c_X12_still (s_X12_trip_4 a1 h) 3 (pm_upd h 249 (134 + (s_X12_trip_4 a1 h)) 3) o36) rfl rfl (pm_cok rfl rfl (Or.inr ⟨_, _, rfl⟩) rfl rfl) rfl rfl ?_
          show WP 184 (82, [(14, 248), (0, a1), (0, if h 249 (56 + a1) < s_X12_trip_3 a1 h then 1 else 0), (1, s_X12_trip_3 a1 h), pU, (0, s_X12_trip_4 a1 h), (0, s_X12_trip_5 a1 h), us26.getD 1 pU], [], s_X12_trip_6 a1 h) Q'
          have e := kk; simp only [s_X12_trip_7, if_pos c33] at e ⊢; exact e
      refine k32 _ ?_
      refine WP.goto rfl ?_
      exact kk [(1, s_X12_trip_3 a1 h), pU, (0, s_X12_trip_4 a1 h), (0, s_X12_trip_5 a1 h), us26.getD 1 pU] (if h 249 (56 + a1) < s_X12_trip_3 a1 h then 1 else 0, s_X12_trip_7 a1 h) (rfl)
  · intro hP hc
    generalize hs : (L_X12_trip_2 a1 x2 h : Int × pH) = s at kk
    change P_X12_trip_2 a1 (L_X12_trip_2 a1 x2 h).1 (L_X12_trip_2 a1 x2 h).2 at hP
    change ¬ C_X12_trip_2 a1 (L_X12_trip_2 a1 x2 h).1 (L_X12_trip_2 a1 x2 h).2 at hc
    intro us
    show WP 184 (2, [(14, 248), (0, a1), (0, (L_X12_trip_2 a1 x2 h).1), us.getD 0 pU, us.getD 1 pU, us.getD 2 pU, us.getD 3 pU, us.getD 4 pU], [], (L_X12_trip_2 a1 x2 h).2) Q
    rw [hs] at hP hc ⊢
    obtain ⟨x2, h⟩ := s
    change P_X12_trip_2 a1 x2 h at hP
    change ¬ (¬ x2 = 0) at hc
    unfold P_X12_trip_2 at hP
    show WP 184 (2, [(14, 248), (0, a1), (0, x2), us.getD 0 pU, us.getD 1 pU, us.getD 2 pU, us.getD 3 pU, us.getD 4 pU], [], h) Q
    refine WP.iload_n rfl rfl ?_
    refine WP.nz_eq rfl (fun c1 => ?_) (fun c1 => ?_)
    · exact kk [us.getD 0 pU, us.getD 1 pU, us.getD 2 pU, us.getD 3 pU, us.getD 4 pU]
    · exact absurd (show ¬ x2 = 0 from c1) hc
noncomputable def H_X12_trip (a1 : Int) (h : pH) : pH := (L_X12_trip_2 a1 1 h).2
noncomputable def P_X12_trip (a1 : Int) (h : pH) : Prop := O_X12_trip_2 a1 1 h
set_option maxHeartbeats 4000000 in
theorem w_X12_trip (a1 : Int) (h : pH) {Q : Option pV → pH → Prop} (hp : P_X12_trip a1 h) (kk : Q (none) (H_X12_trip a1 h)) : WP 184 (0, [(14, 248), (0, a1), pU, pU, pU, pU, pU, pU], [], h) Q := by
  unfold P_X12_trip at hp
  have o40 := hp
  refine WP.iconst rfl ?_
  refine WP.istore_n (L' := [(14, 248), (0, a1), (0, 1), pU, pU, pU, pU, pU]) rfl rfl ?_
  refine lp_X12_trip_2 a1 1 h o40 (fun us41 => ?_) [pU, pU, pU, pU, pU]
  show WP 184 (83, [(14, 248), (0, a1), (0, (L_X12_trip_2 a1 1 h).1), us41.getD 0 pU, us41.getD 1 pU, us41.getD 2 pU, us41.getD 3 pU, us41.getD 4 pU], [], (L_X12_trip_2 a1 1 h).2) Q
  refine WP.retv rfl ?_; exact kk
theorem c_X12_trip (a1 : Int) (h : pH) (hp : P_X12_trip a1 h) : CP 184 [(14, 248), (0, a1)] h (fun r h1 => r = none ∧ h1 = H_X12_trip a1 h) := w_X12_trip a1 h hp ⟨rfl, rfl⟩
noncomputable def s_X12_supply_1 (x4 : Int) (x5 : Int) (h : pH) : Int := if h 249 (344 + (h 258 x5)) = (-1) then x4 else if h 249 (164 + (h 249 (344 + (h 258 x5)))) ≤ 0 then x4 else h 249 (344 + (h 258 x5))
def C_X12_supply_30 (y1 : Int) (h : pH) (x4 : Int) (x5 : Int) : Prop := x5 < h 249 13
noncomputable def B_X12_supply_30 (y1 : Int) (h : pH) (x4 : Int) (x5 : Int) : Int × Int := (s_X12_supply_1 x4 x5 h, x5 + 1)
noncomputable def P_X12_supply_30 (y1 : Int) (h : pH) (x4 : Int) (x5 : Int) : Prop := ((x5 < h 249 13) → (0 ≤ x5 ∧ x5 < 16) ∧ (fx_i (344 + (h 258 x5))) ∧ (P_X12_at (344 + (h 258 x5)) h) ∧ (((¬ h 249 (344 + (h 258 x5)) = (-1)) → ((fx_i (164 + (h 249 (344 + (h 258 x5))))) ∧ (0 ≤ 164 + (h 249 (344 + (h 258 x5))) ∧ 164 + (h 249 (344 + (h 258 x5))) < 620)))) ∧ (fx_i (x5 + 1)))
noncomputable def L_X12_supply_30 (y1 : Int) (h : pH) (x4 : Int) (x5 : Int) : Int × Int := fx_wh (σ := Int × Int) (fun s => C_X12_supply_30 y1 h s.1 s.2) (fun s => B_X12_supply_30 y1 h s.1 s.2) (x4, x5)
def O_X12_supply_30 (y1 : Int) (h : pH) (x4 : Int) (x5 : Int) : Prop := fx_ok (σ := Int × Int) (fun s => C_X12_supply_30 y1 h s.1 s.2) (fun s => B_X12_supply_30 y1 h s.1 s.2) (fun s => P_X12_supply_30 y1 h s.1 s.2) (x4, x5)
set_option maxHeartbeats 4000000 in
theorem lp_X12_supply_30 (y1 : Int) (h : pH) (x4 : Int) (x5 : Int) {Q : Option pV → pH → Prop} (hp : O_X12_supply_30 y1 h x4 x5) (kk : ∀ us : List pV, WP 187 (65, [(14, 248), (1, y1), pU, us.getD 0 pU, (0, (L_X12_supply_30 y1 h x4 x5).1), (0, (L_X12_supply_30 y1 h x4 x5).2), us.getD 1 pU, us.getD 2 pU, us.getD 3 pU, us.getD 4 pU, us.getD 5 pU, us.getD 6 pU, us.getD 7 pU, us.getD 8 pU], [], h) Q) : ∀ us : List pV, WP 187 (30, [(14, 248), (1, y1), pU, us.getD 0 pU, (0, x4), (0, x5), us.getD 1 pU, us.getD 2 pU, us.getD 3 pU, us.getD 4 pU, us.getD 5 pU, us.getD 6 pU, us.getD 7 pU, us.getD 8 pU], [], h) Q := by
  refine WP.wh (σ := Int × Int) (fun s => C_X12_supply_30 y1 h s.1 s.2) (fun s => B_X12_supply_30 y1 h s.1 s.2) (fun s => P_X12_supply_30 y1 h s.1 s.2) (fun s us => (30, [(14, 248), (1, y1), pU, us.getD 0 pU, (0, s.1), (0, s.2), us.getD 1 pU, us.getD 2 pU, us.getD 3 pU, us.getD 4 pU, us.getD 5 pU, us.getD 6 pU, us.getD 7 pU, us.getD 8 pU], [], h)) (x4, x5) hp ?_ ?_
  · intro s us hP hc kk
    obtain ⟨x4, x5⟩ := s
    change P_X12_supply_30 y1 h x4 x5 at hP
    change x5 < h 249 13 at hc
    replace kk : ∀ (us' : List pV) (s' : Int × Int), s' = B_X12_supply_30 y1 h x4 x5 → WP 187 (30, [(14, 248), (1, y1), pU, us'.getD 0 pU, (0, s'.1), (0, s'.2), us'.getD 1 pU, us'.getD 2 pU, us'.getD 3 pU, us'.getD 4 pU, us'.getD 5 pU, us'.getD 6 pU, us'.getD 7 pU, us'.getD 8 pU], [], h) Q := fun us' s' e => by subst e; exact kk us'
    unfold P_X12_supply_30 at hP
    obtain ⟨o10, o11, o12, q20, o21⟩ := hP hc
    show WP 187 (30, [(14, 248), (1, y1), pU, us.getD 0 pU, (0, x4), (0, x5), us.getD 1 pU, us.getD 2 pU, us.getD 3 pU, us.getD 4 pU, us.getD 5 pU, us.getD 6 pU, us.getD 7 pU, us.getD 8 pU], [], h) Q
    refine WP.iload rfl rfl ?_
    refine WP.i2l rfl ?_
    refine WP.aload_n rfl rfl ⟨by decide, by decide⟩ ?_
    refine WP.getRF (b := 249) rfl rfl rfl ?_
    refine WP.bipush rfl ?_
    refine WP.laload rfl ⟨by decide, by decide, by decide⟩ (by decide) ?_
    refine WP.lcmp rfl ?_
    refine WP.nl_ge rfl (fun c9 => ?_) (fun c9 => ?_)
    · exact absurd hc (Int.not_lt.mpr c9)
    · refine WP.aload_n rfl rfl ⟨by decide, by decide⟩ ?_
      refine WP.sipush rfl ?_
      refine WP.aload_n rfl rfl ⟨by decide, by decide⟩ ?_
      refine WP.getRF (b := 258) rfl rfl rfl ?_
      refine WP.iload rfl rfl ?_
      refine WP.iaload rfl ⟨by decide, by decide, by decide⟩ o10 ?_
      refine WP.iaddE rfl o11 ?_
      refine WP.callF (c_X12_at (344 + (h 258 x5)) h o12) rfl rfl (pm_cok rfl rfl (Or.inr ⟨_, _, rfl⟩) rfl rfl) rfl rfl ?_
      show WP 187 (46, [(14, 248), (1, y1), pU, us.getD 0 pU, (0, x4), (0, x5), us.getD 1 pU, us.getD 2 pU, us.getD 3 pU, us.getD 4 pU, us.getD 5 pU, us.getD 6 pU, us.getD 7 pU, us.getD 8 pU], [(0, h 249 (344 + (h 258 x5)))], h) Q
      refine WP.istore (L' := [(14, 248), (1, y1), pU, us.getD 0 pU, (0, x4), (0, x5), (0, h 249 (344 + (h 258 x5))), us.getD 2 pU, us.getD 3 pU, us.getD 4 pU, us.getD 5 pU, us.getD 6 pU, us.getD 7 pU, us.getD 8 pU]) rfl rfl ?_
      refine WP.iload rfl rfl ?_
      refine WP.iconst rfl ?_
      have k13 : ∀ Q' : Option pV → pH → Prop, (WP 187 (62, [(14, 248), (1, y1), pU, us.getD 0 pU, (0, x4), (0, x5), (0, h 249 (344 + (h 258 x5))), us.getD 2 pU, us.getD 3 pU, us.getD 4 pU, us.getD 5 pU, us.getD 6 pU, us.getD 7 pU, us.getD 8 pU], [(0, s_X12_supply_1 x4 x5 h)], h) Q') → WP 187 (49, [(14, 248), (1, y1), pU, us.getD 0 pU, (0, x4), (0, x5), (0, h 249 (344 + (h 258 x5))), us.getD 2 pU, us.getD 3 pU, us.getD 4 pU, us.getD 5 pU, us.getD 6 pU, us.getD 7 pU, us.getD 8 pU], [(0, (-1)), (0, h 249 (344 + (h 258 x5)))], h) Q' := fun Q' kk => by
        have q18 := q20
        refine WP.ni_eq rfl (fun c14 => ?_) (fun c14 => ?_)
        · refine WP.iload rfl rfl ?_
          have e := kk; simp only [s_X12_supply_1, if_pos c14] at e ⊢; exact e
        · obtain ⟨o15, o16⟩ := q18 c14
          refine WP.aload_n rfl rfl ⟨by decide, by decide⟩ ?_
          refine WP.getRF (b := 249) rfl rfl rfl ?_
          refine WP.sipush rfl ?_
          refine WP.iload rfl rfl ?_
          refine WP.iaddE rfl o15 ?_
          refine WP.laload rfl ⟨by decide, by decide, by decide⟩ o16 ?_
          refine WP.lconst rfl ?_
          refine WP.lcmp rfl ?_
          refine WP.nl_le rfl (fun c17 => ?_) (fun c17 => ?_)
          · refine WP.iload rfl rfl ?_
            have e := kk; simp only [s_X12_supply_1, if_neg (c14), if_pos c17] at e ⊢; exact e
          · refine WP.iload rfl rfl ?_
            refine WP.goto rfl ?_
            have e := kk; simp only [s_X12_supply_1, if_neg (c14), if_neg (Int.not_le.mpr c17)] at e ⊢; exact e
      refine k13 _ ?_
      refine WP.istore (L' := [(14, 248), (1, y1), pU, if (us.getD 0 pU).1 = 1 then pU else us.getD 0 pU, (0, s_X12_supply_1 x4 x5 h), (0, x5), (0, h 249 (344 + (h 258 x5))), us.getD 2 pU, us.getD 3 pU, us.getD 4 pU, us.getD 5 pU, us.getD 6 pU, us.getD 7 pU, us.getD 8 pU]) rfl rfl ?_
      refine WP.iincE (L' := [(14, 248), (1, y1), pU, if (us.getD 0 pU).1 = 1 then pU else us.getD 0 pU, (0, s_X12_supply_1 x4 x5 h), (0, x5 + 1), (0, h 249 (344 + (h 258 x5))), us.getD 2 pU, us.getD 3 pU, us.getD 4 pU, us.getD 5 pU, us.getD 6 pU, us.getD 7 pU, us.getD 8 pU]) rfl rfl o21 rfl ?_
      refine WP.goto rfl ?_
      exact kk [if (us.getD 0 pU).1 = 1 then pU else us.getD 0 pU, (0, h 249 (344 + (h 258 x5))), us.getD 2 pU, us.getD 3 pU, us.getD 4 pU, us.getD 5 pU, us.getD 6 pU, us.getD 7 pU, us.getD 8 pU] (s_X12_supply_1 x4 x5 h, x5 + 1) (rfl)
  · intro hP hc
    generalize hs : (L_X12_supply_30 y1 h x4 x5 : Int × Int) = s at kk
    change P_X12_supply_30 y1 h (L_X12_supply_30 y1 h x4 x5).1 (L_X12_supply_30 y1 h x4 x5).2 at hP
    change ¬ C_X12_supply_30 y1 h (L_X12_supply_30 y1 h x4 x5).1 (L_X12_supply_30 y1 h x4 x5).2 at hc
    intro us
    show WP 187 (30, [(14, 248), (1, y1), pU, us.getD 0 pU, (0, (L_X12_supply_30 y1 h x4 x5).1), (0, (L_X12_supply_30 y1 h x4 x5).2), us.getD 1 pU, us.getD 2 pU, us.getD 3 pU, us.getD 4 pU, us.getD 5 pU, us.getD 6 pU, us.getD 7 pU, us.getD 8 pU], [], h) Q
    rw [hs] at hP hc ⊢
    obtain ⟨x4, x5⟩ := s
    change P_X12_supply_30 y1 h x4 x5 at hP
    change ¬ (x5 < h 249 13) at hc
    unfold P_X12_supply_30 at hP
    show WP 187 (30, [(14, 248), (1, y1), pU, us.getD 0 pU, (0, x4), (0, x5), us.getD 1 pU, us.getD 2 pU, us.getD 3 pU, us.getD 4 pU, us.getD 5 pU, us.getD 6 pU, us.getD 7 pU, us.getD 8 pU], [], h) Q
    refine WP.iload rfl rfl ?_
    refine WP.i2l rfl ?_
    refine WP.aload_n rfl rfl ⟨by decide, by decide⟩ ?_
    refine WP.getRF (b := 249) rfl rfl rfl ?_
    refine WP.bipush rfl ?_
    refine WP.laload rfl ⟨by decide, by decide, by decide⟩ (by decide) ?_
    refine WP.lcmp rfl ?_
    refine WP.nl_ge rfl (fun c8 => ?_) (fun c8 => ?_)
    · exact kk [us.getD 0 pU, us.getD 1 pU, us.getD 2 pU, us.getD 3 pU, us.getD 4 pU, us.getD 5 pU, us.getD 6 pU, us.getD 7 pU, us.getD 8 pU]
    · exact absurd (show x5 < h 249 13 from c8) hc
noncomputable def s_X12_supply_2 (y1 : Int) (h : pH) : Int := (L_X12_supply_30 y1 h (-1) 0).1
noncomputable def s_X12_supply_3 (y1 : Int) (h : pH) : Int := (L_X12_supply_30 y1 h (-1) 0).2
def C_X12_supply_24 (y1 : Int) (x3 : Int) (h : pH) : Prop := ¬ x3 = 0
noncomputable def B_X12_supply_24 (y1 : Int) (x3 : Int) (h : pH) : Int × pH := (if ((H_X12_still (s_X12_supply_2 y1 h) 4 h) 249 3) + y1 < F_X12_allDrawn (H_X12_still (s_X12_supply_2 y1 h) 4 h) then 1 else 0, H_X12_still (s_X12_supply_2 y1 h) 4 h)
noncomputable def P_X12_supply_24 (y1 : Int) (x3 : Int) (h : pH) : Prop := ((¬ x3 = 0) → (O_X12_supply_30 y1 h (-1) 0) ∧ (P_X12_still (s_X12_supply_2 y1 h) 4 h) ∧ (P_X12_allDrawn (H_X12_still (s_X12_supply_2 y1 h) 4 h)) ∧ (fx_l (((H_X12_still (s_X12_supply_2 y1 h) 4 h) 249 3) + y1)))
noncomputable def L_X12_supply_24 (y1 : Int) (x3 : Int) (h : pH) : Int × pH := fx_wh (σ := Int × pH) (fun s => C_X12_supply_24 y1 s.1 s.2) (fun s => B_X12_supply_24 y1 s.1 s.2) (x3, h)
def O_X12_supply_24 (y1 : Int) (x3 : Int) (h : pH) : Prop := fx_ok (σ := Int × pH) (fun s => C_X12_supply_24 y1 s.1 s.2) (fun s => B_X12_supply_24 y1 s.1 s.2) (fun s => P_X12_supply_24 y1 s.1 s.2) (x3, h)
set_option maxHeartbeats 4000000 in
theorem lp_X12_supply_24 (y1 : Int) (x3 : Int) (h : pH) {Q : Option pV → pH → Prop} (hp : O_X12_supply_24 y1 x3 h) (kk : ∀ us : List pV, WP 187 (84, [(14, 248), (1, y1), pU, (0, (L_X12_supply_24 y1 x3 h).1), us.getD 0 pU, us.getD 1 pU, us.getD 2 pU, us.getD 3 pU, us.getD 4 pU, us.getD 5 pU, us.getD 6 pU, us.getD 7 pU, us.getD 8 pU, us.getD 9 pU], [], (L_X12_supply_24 y1 x3 h).2) Q) : ∀ us : List pV, WP 187 (24, [(14, 248), (1, y1), pU, (0, x3), us.getD 0 pU, us.getD 1 pU, us.getD 2 pU, us.getD 3 pU, us.getD 4 pU, us.getD 5 pU, us.getD 6 pU, us.getD 7 pU, us.getD 8 pU, us.getD 9 pU], [], h) Q := by
  refine WP.wh (σ := Int × pH) (fun s => C_X12_supply_24 y1 s.1 s.2) (fun s => B_X12_supply_24 y1 s.1 s.2) (fun s => P_X12_supply_24 y1 s.1 s.2) (fun s us => (24, [(14, 248), (1, y1), pU, (0, s.1), us.getD 0 pU, us.getD 1 pU, us.getD 2 pU, us.getD 3 pU, us.getD 4 pU, us.getD 5 pU, us.getD 6 pU, us.getD 7 pU, us.getD 8 pU, us.getD 9 pU], [], s.2)) (x3, h) hp ?_ ?_
  · intro s us hP hc kk
    obtain ⟨x3, h⟩ := s
    change P_X12_supply_24 y1 x3 h at hP
    change ¬ x3 = 0 at hc
    replace kk : ∀ (us' : List pV) (s' : Int × pH), s' = B_X12_supply_24 y1 x3 h → WP 187 (24, [(14, 248), (1, y1), pU, (0, s'.1), us'.getD 0 pU, us'.getD 1 pU, us'.getD 2 pU, us'.getD 3 pU, us'.getD 4 pU, us'.getD 5 pU, us'.getD 6 pU, us'.getD 7 pU, us'.getD 8 pU, us'.getD 9 pU], [], s'.2) Q := fun us' s' e => by subst e; exact kk us'
    unfold P_X12_supply_24 at hP
    obtain ⟨o22, o24, o25, o26⟩ := hP hc
    show WP 187 (24, [(14, 248), (1, y1), pU, (0, x3), us.getD 0 pU, us.getD 1 pU, us.getD 2 pU, us.getD 3 pU, us.getD 4 pU, us.getD 5 pU, us.getD 6 pU, us.getD 7 pU, us.getD 8 pU, us.getD 9 pU], [], h) Q
    refine WP.iload_n rfl rfl ?_
    refine WP.nz_eq rfl (fun c7 => ?_) (fun c7 => ?_)
    · exact absurd hc (fun q => q c7)
    · refine WP.iconst rfl ?_
      refine WP.istore (L' := [(14, 248), (1, y1), pU, (0, x3), (0, (-1)), us.getD 1 pU, us.getD 2 pU, us.getD 3 pU, us.getD 4 pU, us.getD 5 pU, us.getD 6 pU, us.getD 7 pU, us.getD 8 pU, us.getD 9 pU]) rfl rfl ?_
      refine WP.iconst rfl ?_
      refine WP.istore (L' := [(14, 248), (1, y1), pU, (0, x3), (0, (-1)), (0, 0), us.getD 2 pU, us.getD 3 pU, us.getD 4 pU, us.getD 5 pU, us.getD 6 pU, us.getD 7 pU, us.getD 8 pU, us.getD 9 pU]) rfl rfl ?_
      refine lp_X12_supply_30 y1 h (-1) 0 o22 (fun us23 => ?_) [(0, x3), us.getD 2 pU, us.getD 3 pU, us.getD 4 pU, us.getD 5 pU, us.getD 6 pU, us.getD 7 pU, us.getD 8 pU, us.getD 9 pU]
      show WP 187 (65, [(14, 248), (1, y1), pU, us23.getD 0 pU, (0, s_X12_supply_2 y1 h), (0, s_X12_supply_3 y1 h), us23.getD 1 pU, us23.getD 2 pU, us23.getD 3 pU, us23.getD 4 pU, us23.getD 5 pU, us23.getD 6 pU, us23.getD 7 pU, us23.getD 8 pU], [], h) Q
      refine WP.aload_n rfl rfl ⟨by decide, by decide⟩ ?_
      refine WP.iload rfl rfl ?_
      refine WP.iconst rfl ?_
      refine WP.callF (c_X12_still (s_X12_supply_2 y1 h) 4 h o24) rfl rfl (pm_cok rfl rfl (Or.inr ⟨_, _, rfl⟩) rfl rfl) rfl rfl ?_
      show WP 187 (69, [(14, 248), (1, y1), pU, us23.getD 0 pU, (0, s_X12_supply_2 y1 h), (0, s_X12_supply_3 y1 h), us23.getD 1 pU, us23.getD 2 pU, us23.getD 3 pU, us23.getD 4 pU, us23.getD 5 pU, us23.getD 6 pU, us23.getD 7 pU, us23.getD 8 pU], [], H_X12_still (s_X12_supply_2 y1 h) 4 h) Q
      refine WP.aload_n rfl rfl ⟨by decide, by decide⟩ ?_
      refine WP.callF (c_X12_allDrawn (H_X12_still (s_X12_supply_2 y1 h) 4 h) o25) rfl rfl (pm_cok rfl rfl (Or.inr ⟨_, _, rfl⟩) rfl rfl) rfl rfl ?_
      show WP 187 (71, [(14, 248), (1, y1), pU, us23.getD 0 pU, (0, s_X12_supply_2 y1 h), (0, s_X12_supply_3 y1 h), us23.getD 1 pU, us23.getD 2 pU, us23.getD 3 pU, us23.getD 4 pU, us23.getD 5 pU, us23.getD 6 pU, us23.getD 7 pU, us23.getD 8 pU], [(1, F_X12_allDrawn (H_X12_still (s_X12_supply_2 y1 h) 4 h))], H_X12_still (s_X12_supply_2 y1 h) 4 h) Q
      refine WP.aload_n rfl rfl ⟨by decide, by decide⟩ ?_
      refine WP.getRF (b := 249) rfl rfl rfl ?_
      refine WP.iconst rfl ?_
      refine WP.laload rfl ⟨by decide, by decide, by decide⟩ (by decide) ?_
      refine WP.lload_n rfl rfl ?_
      refine WP.laddE rfl o26 ?_
      refine WP.lcmp rfl ?_
      have k27 : ∀ Q' : Option pV → pH → Prop, (WP 187 (82, [(14, 248), (1, y1), pU, us23.getD 0 pU, (0, s_X12_supply_2 y1 h), (0, s_X12_supply_3 y1 h), us23.getD 1 pU, us23.getD 2 pU, us23.getD 3 pU, us23.getD 4 pU, us23.getD 5 pU, us23.getD 6 pU, us23.getD 7 pU, us23.getD 8 pU], [(0, if ((H_X12_still (s_X12_supply_2 y1 h) 4 h) 249 3) + y1 < F_X12_allDrawn (H_X12_still (s_X12_supply_2 y1 h) 4 h) then 1 else 0)], H_X12_still (s_X12_supply_2 y1 h) 4 h) Q') → WP 187 (78, [(14, 248), (1, y1), pU, us23.getD 0 pU, (0, s_X12_supply_2 y1 h), (0, s_X12_supply_3 y1 h), us23.getD 1 pU, us23.getD 2 pU, us23.getD 3 pU, us23.getD 4 pU, us23.getD 5 pU, us23.getD 6 pU, us23.getD 7 pU, us23.getD 8 pU], [(0, pm_lcmp (F_X12_allDrawn (H_X12_still (s_X12_supply_2 y1 h) 4 h)) (((H_X12_still (s_X12_supply_2 y1 h) 4 h) 249 3) + y1))], H_X12_still (s_X12_supply_2 y1 h) 4 h) Q' := fun Q' kk => by
        refine WP.nl_le rfl (fun c28 => ?_) (fun c28 => ?_)
        · refine WP.iconst rfl ?_
          have e := kk; simp only [if_pos c28, if_neg (show ¬ (((H_X12_still (s_X12_supply_2 y1 h) 4 h) 249 3) + y1 < F_X12_allDrawn (H_X12_still (s_X12_supply_2 y1 h) 4 h)) from Int.not_lt.mpr c28)] at e ⊢; exact e
        · refine WP.iconst rfl ?_
          refine WP.goto rfl ?_
          have e := kk; simp only [if_neg (Int.not_le.mpr c28), if_pos (show ((H_X12_still (s_X12_supply_2 y1 h) 4 h) 249 3) + y1 < F_X12_allDrawn (H_X12_still (s_X12_supply_2 y1 h) 4 h) from c28)] at e ⊢; exact e
      refine k27 _ ?_
      refine WP.istore_n (L' := [(14, 248), (1, y1), pU, (0, if ((H_X12_still (s_X12_supply_2 y1 h) 4 h) 249 3) + y1 < F_X12_allDrawn (H_X12_still (s_X12_supply_2 y1 h) 4 h) then 1 else 0), (0, s_X12_supply_2 y1 h), (0, s_X12_supply_3 y1 h), us23.getD 1 pU, us23.getD 2 pU, us23.getD 3 pU, us23.getD 4 pU, us23.getD 5 pU, us23.getD 6 pU, us23.getD 7 pU, us23.getD 8 pU]) rfl rfl ?_
      refine WP.goto rfl ?_
      exact kk [(0, s_X12_supply_2 y1 h), (0, s_X12_supply_3 y1 h), us23.getD 1 pU, us23.getD 2 pU, us23.getD 3 pU, us23.getD 4 pU, us23.getD 5 pU, us23.getD 6 pU, us23.getD 7 pU, us23.getD 8 pU] (if ((H_X12_still (s_X12_supply_2 y1 h) 4 h) 249 3) + y1 < F_X12_allDrawn (H_X12_still (s_X12_supply_2 y1 h) 4 h) then 1 else 0, H_X12_still (s_X12_supply_2 y1 h) 4 h) (rfl)
  · intro hP hc
    generalize hs : (L_X12_supply_24 y1 x3 h : Int × pH) = s at kk
    change P_X12_supply_24 y1 (L_X12_supply_24 y1 x3 h).1 (L_X12_supply_24 y1 x3 h).2 at hP
    change ¬ C_X12_supply_24 y1 (L_X12_supply_24 y1 x3 h).1 (L_X12_supply_24 y1 x3 h).2 at hc
    intro us
    show WP 187 (24, [(14, 248), (1, y1), pU, (0, (L_X12_supply_24 y1 x3 h).1), us.getD 0 pU, us.getD 1 pU, us.getD 2 pU, us.getD 3 pU, us.getD 4 pU, us.getD 5 pU, us.getD 6 pU, us.getD 7 pU, us.getD 8 pU, us.getD 9 pU], [], (L_X12_supply_24 y1 x3 h).2) Q
    rw [hs] at hP hc ⊢
    obtain ⟨x3, h⟩ := s
    change P_X12_supply_24 y1 x3 h at hP
    change ¬ (¬ x3 = 0) at hc
    unfold P_X12_supply_24 at hP
    show WP 187 (24, [(14, 248), (1, y1), pU, (0, x3), us.getD 0 pU, us.getD 1 pU, us.getD 2 pU, us.getD 3 pU, us.getD 4 pU, us.getD 5 pU, us.getD 6 pU, us.getD 7 pU, us.getD 8 pU, us.getD 9 pU], [], h) Q
    refine WP.iload_n rfl rfl ?_
    refine WP.nz_eq rfl (fun c6 => ?_) (fun c6 => ?_)
    · exact kk [us.getD 0 pU, us.getD 1 pU, us.getD 2 pU, us.getD 3 pU, us.getD 4 pU, us.getD 5 pU, us.getD 6 pU, us.getD 7 pU, us.getD 8 pU, us.getD 9 pU]
    · exact absurd (show ¬ x3 = 0 from c6) hc
noncomputable def s_X12_supply_4 (h : pH) : Int := (L_X12_supply_24 (s_X12_less_1 (h 249 5) (h 249 7)) (if (h 249 3) + (s_X12_less_1 (h 249 5) (h 249 7)) < F_X12_allDrawn h then 1 else 0) h).1
noncomputable def s_X12_supply_5 (h : pH) : pH := (L_X12_supply_24 (s_X12_less_1 (h 249 5) (h 249 7)) (if (h 249 3) + (s_X12_less_1 (h 249 5) (h 249 7)) < F_X12_allDrawn h then 1 else 0) h).2
noncomputable def s_X12_supply_6 (h : pH) : pH := pm_upd (s_X12_supply_5 h) 249 17 (F_X12_allDrawn (s_X12_supply_5 h))
noncomputable def s_X12_supply_7 (h : pH) : Int := if (s_X12_supply_6 h) 249 (60 + (Int.tmod ((s_X12_supply_6 h) 249 15) 24)) < (s_X12_supply_6 h) 249 6 then if F_X12_allDrawn (s_X12_supply_5 h) ≤ (s_X12_supply_6 h) 249 3 then 0 else (F_X12_allDrawn (s_X12_supply_5 h)) - ((s_X12_supply_6 h) 249 3) else s_X12_less_1 (F_X12_allDrawn (s_X12_supply_5 h)) (s_X12_less_1 (h 249 5) (h 249 7))
noncomputable def s_X12_supply_8 (h : pH) : pH := pm_upd (s_X12_supply_6 h) 249 7 (((s_X12_supply_6 h) 249 7) - (s_X12_supply_7 h))
noncomputable def s_X12_supply_9 (h : pH) : Int := s_X12_less_1 (s_X12_less_1 ((s_X12_supply_8 h) 249 5) (((s_X12_supply_8 h) 249 4) - ((s_X12_supply_8 h) 249 7))) (((s_X12_supply_8 h) 249 3) - ((F_X12_allDrawn (s_X12_supply_5 h)) - (s_X12_supply_7 h)))
noncomputable def s_X12_supply_10 (h : pH) : pH := pm_upd (s_X12_supply_8 h) 249 7 (((s_X12_supply_8 h) 249 7) + (s_X12_supply_9 h))
noncomputable def s_X12_supply_11 (h : pH) : pH := if (s_X12_supply_8 h) 249 6 ≤ (s_X12_supply_6 h) 249 (60 + (Int.tmod ((s_X12_supply_6 h) 249 15) 24)) then s_X12_supply_8 h else s_X12_supply_10 h
noncomputable def s_X12_supply_12 (h : pH) : Int := if (s_X12_supply_8 h) 249 6 ≤ (s_X12_supply_6 h) 249 (60 + (Int.tmod ((s_X12_supply_6 h) 249 15) 24)) then (F_X12_allDrawn (s_X12_supply_5 h)) - (s_X12_supply_7 h) else ((F_X12_allDrawn (s_X12_supply_5 h)) - (s_X12_supply_7 h)) + (s_X12_supply_9 h)
noncomputable def s_X12_supply_13 (h : pH) : pH := pm_upd (s_X12_supply_11 h) 249 18 (pm_wl (((s_X12_supply_11 h) 249 18) + (((s_X12_supply_6 h) 249 (60 + (Int.tmod ((s_X12_supply_6 h) 249 15) 24))) * (s_X12_supply_12 h))))
noncomputable def H_X12_supply (h : pH) : pH := s_X12_supply_13 h
noncomputable def P_X12_supply (h : pH) : Prop := P_X12_allDrawn h ∧ (fx_l ((h 249 3) + (s_X12_less_1 (h 249 5) (h 249 7)))) ∧ (O_X12_supply_24 (s_X12_less_1 (h 249 5) (h 249 7)) (if (h 249 3) + (s_X12_less_1 (h 249 5) (h 249 7)) < F_X12_allDrawn h then 1 else 0) h) ∧ (P_X12_allDrawn (s_X12_supply_5 h)) ∧ (P_X12_at 15 (s_X12_supply_6 h)) ∧ (fx_i (60 + (Int.tmod ((s_X12_supply_6 h) 249 15) 24))) ∧ (0 ≤ 60 + (Int.tmod ((s_X12_supply_6 h) 249 15) 24) ∧ 60 + (Int.tmod ((s_X12_supply_6 h) 249 15) 24) < 620) ∧ ((((s_X12_supply_6 h) 249 (60 + (Int.tmod ((s_X12_supply_6 h) 249 15) 24)) < (s_X12_supply_6 h) 249 6) → ((((s_X12_supply_6 h) 249 3 < F_X12_allDrawn (s_X12_supply_5 h)) → ((fx_l ((F_X12_allDrawn (s_X12_supply_5 h)) - ((s_X12_supply_6 h) 249 3)))))))) ∧ (fx_l ((F_X12_allDrawn (s_X12_supply_5 h)) - (s_X12_supply_7 h))) ∧ (fx_l (((s_X12_supply_6 h) 249 7) - (s_X12_supply_7 h))) ∧ ((((s_X12_supply_6 h) 249 (60 + (Int.tmod ((s_X12_supply_6 h) 249 15) 24)) < (s_X12_supply_8 h) 249 6) → ((fx_l (((s_X12_supply_8 h) 249 4) - ((s_X12_supply_8 h) 249 7))) ∧ (fx_l (((s_X12_supply_8 h) 249 3) - ((F_X12_allDrawn (s_X12_supply_5 h)) - (s_X12_supply_7 h)))) ∧ (fx_l (((s_X12_supply_8 h) 249 7) + (s_X12_supply_9 h))) ∧ (fx_l (((F_X12_allDrawn (s_X12_supply_5 h)) - (s_X12_supply_7 h)) + (s_X12_supply_9 h)))))) ∧ (fx_l (((s_X12_supply_6 h) 249 (60 + (Int.tmod ((s_X12_supply_6 h) 249 15) 24))) * (s_X12_supply_12 h)))
set_option maxHeartbeats 4000000 in
theorem w_X12_supply (h : pH) {Q : Option pV → pH → Prop} (hp : P_X12_supply h) (kk : Q (none) (H_X12_supply h)) : WP 187 (0, [(14, 248), pU, pU, pU, pU, pU, pU, pU, pU, pU, pU, pU, pU, pU], [], h) Q := by
  unfold P_X12_supply at hp
  obtain ⟨o1, o2, o30, o32, o33, o34, o35, q43, o44, o45, q54, o55⟩ := hp
  refine WP.aload_n rfl rfl ⟨by decide, by decide⟩ ?_
  refine WP.getRF (b := 249) rfl rfl rfl ?_
  refine WP.iconst rfl ?_
  refine WP.laload rfl ⟨by decide, by decide, by decide⟩ (by decide) ?_
  refine WP.aload_n rfl rfl ⟨by decide, by decide⟩ ?_
  refine WP.getRF (b := 249) rfl rfl rfl ?_
  refine WP.bipush rfl ?_
  refine WP.laload rfl ⟨by decide, by decide, by decide⟩ (by decide) ?_
  refine WP.callF (c_X12_less (h 249 5) (h 249 7) h) rfl rfl (pm_cok rfl rfl (Or.inl rfl) rfl rfl) rfl rfl ?_
  show WP 187 (9, [(14, 248), pU, pU, pU, pU, pU, pU, pU, pU, pU, pU, pU, pU, pU], [(1, s_X12_less_1 (h 249 5) (h 249 7))], h) Q
  refine WP.lstore_n (L' := [(14, 248), (1, s_X12_less_1 (h 249 5) (h 249 7)), pU, pU, pU, pU, pU, pU, pU, pU, pU, pU, pU, pU]) rfl rfl ?_
  refine WP.aload_n rfl rfl ⟨by decide, by decide⟩ ?_
  refine WP.callF (c_X12_allDrawn h o1) rfl rfl (pm_cok rfl rfl (Or.inr ⟨_, _, rfl⟩) rfl rfl) rfl rfl ?_
  show WP 187 (12, [(14, 248), (1, s_X12_less_1 (h 249 5) (h 249 7)), pU, pU, pU, pU, pU, pU, pU, pU, pU, pU, pU, pU], [(1, F_X12_allDrawn h)], h) Q
  refine WP.aload_n rfl rfl ⟨by decide, by decide⟩ ?_
  refine WP.getRF (b := 249) rfl rfl rfl ?_
  refine WP.iconst rfl ?_
  refine WP.laload rfl ⟨by decide, by decide, by decide⟩ (by decide) ?_
  refine WP.lload_n rfl rfl ?_
  refine WP.laddE rfl o2 ?_
  refine WP.lcmp rfl ?_
  have k3 : ∀ Q' : Option pV → pH → Prop, (WP 187 (23, [(14, 248), (1, s_X12_less_1 (h 249 5) (h 249 7)), pU, pU, pU, pU, pU, pU, pU, pU, pU, pU, pU, pU], [(0, if (h 249 3) + (s_X12_less_1 (h 249 5) (h 249 7)) < F_X12_allDrawn h then 1 else 0)], h) Q') → WP 187 (19, [(14, 248), (1, s_X12_less_1 (h 249 5) (h 249 7)), pU, pU, pU, pU, pU, pU, pU, pU, pU, pU, pU, pU], [(0, pm_lcmp (F_X12_allDrawn h) ((h 249 3) + (s_X12_less_1 (h 249 5) (h 249 7))))], h) Q' := fun Q' kk => by
    refine WP.nl_le rfl (fun c4 => ?_) (fun c4 => ?_)
    · refine WP.iconst rfl ?_
      have e := kk; simp only [if_pos c4, if_neg (show ¬ ((h 249 3) + (s_X12_less_1 (h 249 5) (h 249 7)) < F_X12_allDrawn h) from Int.not_lt.mpr c4)] at e ⊢; exact e
    · refine WP.iconst rfl ?_
      refine WP.goto rfl ?_
      have e := kk; simp only [if_neg (Int.not_le.mpr c4), if_pos (show (h 249 3) + (s_X12_less_1 (h 249 5) (h 249 7)) < F_X12_allDrawn h from c4)] at e ⊢; exact e
  refine k3 _ ?_
  refine WP.istore_n (L' := [(14, 248), (1, s_X12_less_1 (h 249 5) (h 249 7)), pU, (0, if (h 249 3) + (s_X12_less_1 (h 249 5) (h 249 7)) < F_X12_allDrawn h then 1 else 0), pU, pU, pU, pU, pU, pU, pU, pU, pU, pU]) rfl rfl ?_
  refine lp_X12_supply_24 (s_X12_less_1 (h 249 5) (h 249 7)) (if (h 249 3) + (s_X12_less_1 (h 249 5) (h 249 7)) < F_X12_allDrawn h then 1 else 0) h o30 (fun us31 => ?_) [pU, pU, pU, pU, pU, pU, pU, pU, pU, pU]
  show WP 187 (84, [(14, 248), (1, s_X12_less_1 (h 249 5) (h 249 7)), pU, (0, s_X12_supply_4 h), us31.getD 0 pU, us31.getD 1 pU, us31.getD 2 pU, us31.getD 3 pU, us31.getD 4 pU, us31.getD 5 pU, us31.getD 6 pU, us31.getD 7 pU, us31.getD 8 pU, us31.getD 9 pU], [], s_X12_supply_5 h) Q
  refine WP.aload_n rfl rfl ⟨by decide, by decide⟩ ?_
  refine WP.callF (c_X12_allDrawn (s_X12_supply_5 h) o32) rfl rfl (pm_cok rfl rfl (Or.inr ⟨_, _, rfl⟩) rfl rfl) rfl rfl ?_
  show WP 187 (86, [(14, 248), (1, s_X12_less_1 (h 249 5) (h 249 7)), pU, (0, s_X12_supply_4 h), us31.getD 0 pU, us31.getD 1 pU, us31.getD 2 pU, us31.getD 3 pU, us31.getD 4 pU, us31.getD 5 pU, us31.getD 6 pU, us31.getD 7 pU, us31.getD 8 pU, us31.getD 9 pU], [(1, F_X12_allDrawn (s_X12_supply_5 h))], s_X12_supply_5 h) Q
  refine WP.lstore (L' := [(14, 248), (1, s_X12_less_1 (h 249 5) (h 249 7)), pU, (0, s_X12_supply_4 h), (1, F_X12_allDrawn (s_X12_supply_5 h)), pU, us31.getD 2 pU, us31.getD 3 pU, us31.getD 4 pU, us31.getD 5 pU, us31.getD 6 pU, us31.getD 7 pU, us31.getD 8 pU, us31.getD 9 pU]) rfl rfl ?_
  refine WP.aload_n rfl rfl ⟨by decide, by decide⟩ ?_
  refine WP.getRF (b := 249) rfl rfl rfl ?_
  refine WP.bipush rfl ?_
  refine WP.lload rfl rfl ?_
  refine WP.lastore rfl ⟨by decide, by decide, by decide⟩ (by decide) ?_
  show WP 187 (92, [(14, 248), (1, s_X12_less_1 (h 249 5) (h 249 7)), pU, (0, s_X12_supply_4 h), (1, F_X12_allDrawn (s_X12_supply_5 h)), pU, us31.getD 2 pU, us31.getD 3 pU, us31.getD 4 pU, us31.getD 5 pU, us31.getD 6 pU, us31.getD 7 pU, us31.getD 8 pU, us31.getD 9 pU], [], s_X12_supply_6 h) Q
  refine WP.aload_n rfl rfl ⟨by decide, by decide⟩ ?_
  refine WP.getRF (b := 249) rfl rfl rfl ?_
  refine WP.bipush rfl ?_
  refine WP.aload_n rfl rfl ⟨by decide, by decide⟩ ?_
  refine WP.bipush rfl ?_
  refine WP.callF (c_X12_at 15 (s_X12_supply_6 h) o33) rfl rfl (pm_cok rfl rfl (Or.inr ⟨_, _, rfl⟩) rfl rfl) rfl rfl ?_
  show WP 187 (98, [(14, 248), (1, s_X12_less_1 (h 249 5) (h 249 7)), pU, (0, s_X12_supply_4 h), (1, F_X12_allDrawn (s_X12_supply_5 h)), pU, us31.getD 2 pU, us31.getD 3 pU, us31.getD 4 pU, us31.getD 5 pU, us31.getD 6 pU, us31.getD 7 pU, us31.getD 8 pU, us31.getD 9 pU], [(0, (s_X12_supply_6 h) 249 15), (0, 60), (3481, 249)], s_X12_supply_6 h) Q
  refine WP.bipush rfl ?_
  refine WP.irem rfl (show (24 : Int) ≠ 0 by decide) ?_
  refine WP.iaddE rfl o34 ?_
  refine WP.laload rfl ⟨by decide, by decide, by decide⟩ o35 ?_
  refine WP.lstore (L' := [(14, 248), (1, s_X12_less_1 (h 249 5) (h 249 7)), pU, (0, s_X12_supply_4 h), (1, F_X12_allDrawn (s_X12_supply_5 h)), pU, (1, (s_X12_supply_6 h) 249 (60 + (Int.tmod ((s_X12_supply_6 h) 249 15) 24))), pU, us31.getD 4 pU, us31.getD 5 pU, us31.getD 6 pU, us31.getD 7 pU, us31.getD 8 pU, us31.getD 9 pU]) rfl rfl ?_
  refine WP.lload rfl rfl ?_
  refine WP.aload_n rfl rfl ⟨by decide, by decide⟩ ?_
  refine WP.getRF (b := 249) rfl rfl rfl ?_
  refine WP.bipush rfl ?_
  refine WP.laload rfl ⟨by decide, by decide, by decide⟩ (by decide) ?_
  refine WP.lcmp rfl ?_
  have k36 : ∀ Q' : Option pV → pH → Prop, (WP 187 (129, [(14, 248), (1, s_X12_less_1 (h 249 5) (h 249 7)), pU, (0, s_X12_supply_4 h), (1, F_X12_allDrawn (s_X12_supply_5 h)), pU, (1, (s_X12_supply_6 h) 249 (60 + (Int.tmod ((s_X12_supply_6 h) 249 15) 24))), pU, us31.getD 4 pU, us31.getD 5 pU, us31.getD 6 pU, us31.getD 7 pU, us31.getD 8 pU, us31.getD 9 pU], [(1, s_X12_supply_7 h)], s_X12_supply_6 h) Q') → WP 187 (109, [(14, 248), (1, s_X12_less_1 (h 249 5) (h 249 7)), pU, (0, s_X12_supply_4 h), (1, F_X12_allDrawn (s_X12_supply_5 h)), pU, (1, (s_X12_supply_6 h) 249 (60 + (Int.tmod ((s_X12_supply_6 h) 249 15) 24))), pU, us31.getD 4 pU, us31.getD 5 pU, us31.getD 6 pU, us31.getD 7 pU, us31.getD 8 pU, us31.getD 9 pU], [(0, pm_lcmp ((s_X12_supply_6 h) 249 (60 + (Int.tmod ((s_X12_supply_6 h) 249 15) 24))) ((s_X12_supply_6 h) 249 6))], s_X12_supply_6 h) Q' := fun Q' kk => by
    have q41 := q43
    refine WP.nl_lt rfl (fun c37 => ?_) (fun c37 => ?_)
    · have q40 := q41 c37
      refine WP.lload rfl rfl ?_
      refine WP.aload_n rfl rfl ⟨by decide, by decide⟩ ?_
      refine WP.getRF (b := 249) rfl rfl rfl ?_
      refine WP.iconst rfl ?_
      refine WP.laload rfl ⟨by decide, by decide, by decide⟩ (by decide) ?_
      refine WP.lcmp rfl ?_
      refine WP.nl_le rfl (fun c38 => ?_) (fun c38 => ?_)
      · refine WP.lconst rfl ?_
        have e := kk; simp only [s_X12_supply_7, if_pos c37, if_pos c38] at e ⊢; exact e
      · have o39 := q40 c38
        refine WP.lload rfl rfl ?_
        refine WP.aload_n rfl rfl ⟨by decide, by decide⟩ ?_
        refine WP.getRF (b := 249) rfl rfl rfl ?_
        refine WP.iconst rfl ?_
        refine WP.laload rfl ⟨by decide, by decide, by decide⟩ (by decide) ?_
        refine WP.lsubE rfl o39 ?_
        refine WP.goto rfl ?_
        have e := kk; simp only [s_X12_supply_7, if_pos c37, if_neg (Int.not_le.mpr c38)] at e ⊢; exact e
    · refine WP.lload rfl rfl ?_
      refine WP.lload_n rfl rfl ?_
      refine WP.callF (c_X12_less (F_X12_allDrawn (s_X12_supply_5 h)) (s_X12_less_1 (h 249 5) (h 249 7)) (s_X12_supply_6 h)) rfl rfl (pm_cok rfl rfl (Or.inl rfl) rfl rfl) rfl rfl ?_
      show WP 187 (113, [(14, 248), (1, s_X12_less_1 (h 249 5) (h 249 7)), pU, (0, s_X12_supply_4 h), (1, F_X12_allDrawn (s_X12_supply_5 h)), pU, (1, (s_X12_supply_6 h) 249 (60 + (Int.tmod ((s_X12_supply_6 h) 249 15) 24))), pU, us31.getD 4 pU, us31.getD 5 pU, us31.getD 6 pU, us31.getD 7 pU, us31.getD 8 pU, us31.getD 9 pU], [(1, s_X12_less_1 (F_X12_allDrawn (s_X12_supply_5 h)) (s_X12_less_1 (h 249 5) (h 249 7)))], s_X12_supply_6 h) Q'
      refine WP.goto rfl ?_
      have e := kk; simp only [s_X12_supply_7, if_neg (Int.not_lt.mpr c37)] at e ⊢; exact e
  refine k36 _ ?_
  refine WP.lstore (L' := [(14, 248), (1, s_X12_less_1 (h 249 5) (h 249 7)), pU, (0, s_X12_supply_4 h), (1, F_X12_allDrawn (s_X12_supply_5 h)), pU, (1, (s_X12_supply_6 h) 249 (60 + (Int.tmod ((s_X12_supply_6 h) 249 15) 24))), pU, (1, s_X12_supply_7 h), pU, us31.getD 6 pU, us31.getD 7 pU, us31.getD 8 pU, us31.getD 9 pU]) rfl rfl ?_
  refine WP.lload rfl rfl ?_
  refine WP.lload rfl rfl ?_
  refine WP.lsubE rfl o44 ?_
  refine WP.lstore (L' := [(14, 248), (1, s_X12_less_1 (h 249 5) (h 249 7)), pU, (0, s_X12_supply_4 h), (1, F_X12_allDrawn (s_X12_supply_5 h)), pU, (1, (s_X12_supply_6 h) 249 (60 + (Int.tmod ((s_X12_supply_6 h) 249 15) 24))), pU, (1, s_X12_supply_7 h), pU, (1, (F_X12_allDrawn (s_X12_supply_5 h)) - (s_X12_supply_7 h)), pU, us31.getD 8 pU, us31.getD 9 pU]) rfl rfl ?_
  refine WP.aload_n rfl rfl ⟨by decide, by decide⟩ ?_
  refine WP.getRF (b := 249) rfl rfl rfl ?_
  refine WP.bipush rfl ?_
  refine WP.dup2 rfl (by decide) (by decide) ?_
  refine WP.laload rfl ⟨by decide, by decide, by decide⟩ (by decide) ?_
  refine WP.lload rfl rfl ?_
  refine WP.lsubE rfl o45 ?_
  refine WP.lastore rfl ⟨by decide, by decide, by decide⟩ (by decide) ?_
  show WP 187 (142, [(14, 248), (1, s_X12_less_1 (h 249 5) (h 249 7)), pU, (0, s_X12_supply_4 h), (1, F_X12_allDrawn (s_X12_supply_5 h)), pU, (1, (s_X12_supply_6 h) 249 (60 + (Int.tmod ((s_X12_supply_6 h) 249 15) 24))), pU, (1, s_X12_supply_7 h), pU, (1, (F_X12_allDrawn (s_X12_supply_5 h)) - (s_X12_supply_7 h)), pU, us31.getD 8 pU, us31.getD 9 pU], [], s_X12_supply_8 h) Q
  refine WP.lload rfl rfl ?_
  refine WP.aload_n rfl rfl ⟨by decide, by decide⟩ ?_
  refine WP.getRF (b := 249) rfl rfl rfl ?_
  refine WP.bipush rfl ?_
  refine WP.laload rfl ⟨by decide, by decide, by decide⟩ (by decide) ?_
  refine WP.lcmp rfl ?_
  have k46 : ∀ Q' : Option pV → pH → Prop, (∀ us53 : List pV, WP 187 (183, [(14, 248), (1, s_X12_less_1 (h 249 5) (h 249 7)), pU, (0, s_X12_supply_4 h), (1, F_X12_allDrawn (s_X12_supply_5 h)), pU, (1, (s_X12_supply_6 h) 249 (60 + (Int.tmod ((s_X12_supply_6 h) 249 15) 24))), pU, (1, s_X12_supply_7 h), pU, (1, s_X12_supply_12 h), pU, us53.getD 0 pU, us53.getD 1 pU], [], s_X12_supply_11 h) Q') → WP 187 (148, [(14, 248), (1, s_X12_less_1 (h 249 5) (h 249 7)), pU, (0, s_X12_supply_4 h), (1, F_X12_allDrawn (s_X12_supply_5 h)), pU, (1, (s_X12_supply_6 h) 249 (60 + (Int.tmod ((s_X12_supply_6 h) 249 15) 24))), pU, (1, s_X12_supply_7 h), pU, (1, (F_X12_allDrawn (s_X12_supply_5 h)) - (s_X12_supply_7 h)), pU, us31.getD 8 pU, us31.getD 9 pU], [(0, pm_lcmp ((s_X12_supply_6 h) 249 (60 + (Int.tmod ((s_X12_supply_6 h) 249 15) 24))) ((s_X12_supply_8 h) 249 6))], s_X12_supply_8 h) Q' := fun Q' kk => by
    have q52 := q54
    refine WP.nl_ge rfl (fun c47 => ?_) (fun c47 => ?_)
    · have e := kk [us31.getD 8 pU, us31.getD 9 pU]; simp only [s_X12_supply_12, s_X12_supply_11, if_pos c47] at e ⊢; exact e
    · obtain ⟨o48, o49, o50, o51⟩ := q52 c47
      refine WP.aload_n rfl rfl ⟨by decide, by decide⟩ ?_
      refine WP.getRF (b := 249) rfl rfl rfl ?_
      refine WP.iconst rfl ?_
      refine WP.laload rfl ⟨by decide, by decide, by decide⟩ (by decide) ?_
      refine WP.aload_n rfl rfl ⟨by decide, by decide⟩ ?_
      refine WP.getRF (b := 249) rfl rfl rfl ?_
      refine WP.iconst rfl ?_
      refine WP.laload rfl ⟨by decide, by decide, by decide⟩ (by decide) ?_
      refine WP.aload_n rfl rfl ⟨by decide, by decide⟩ ?_
      refine WP.getRF (b := 249) rfl rfl rfl ?_
      refine WP.bipush rfl ?_
      refine WP.laload rfl ⟨by decide, by decide, by decide⟩ (by decide) ?_
      refine WP.lsubE rfl o48 ?_
      refine WP.callF (c_X12_less ((s_X12_supply_8 h) 249 5) (((s_X12_supply_8 h) 249 4) - ((s_X12_supply_8 h) 249 7)) (s_X12_supply_8 h)) rfl rfl (pm_cok rfl rfl (Or.inl rfl) rfl rfl) rfl rfl ?_
      show WP 187 (163, [(14, 248), (1, s_X12_less_1 (h 249 5) (h 249 7)), pU, (0, s_X12_supply_4 h), (1, F_X12_allDrawn (s_X12_supply_5 h)), pU, (1, (s_X12_supply_6 h) 249 (60 + (Int.tmod ((s_X12_supply_6 h) 249 15) 24))), pU, (1, s_X12_supply_7 h), pU, (1, (F_X12_allDrawn (s_X12_supply_5 h)) - (s_X12_supply_7 h)), pU, us31.getD 8 pU, us31.getD 9 pU], [(1, s_X12_less_1 ((s_X12_supply_8 h) 249 5) (((s_X12_supply_8 h) 249 4) - ((s_X12_supply_8 h) 249 7)))], s_X12_supply_8 h) Q'
      refine WP.aload_n rfl rfl ⟨by decide, by decide⟩ ?_
      refine WP.getRF (b := 249) rfl rfl rfl ?_
      refine WP.iconst rfl ?_
      refine WP.laload rfl ⟨by decide, by decide, by decide⟩ (by decide) ?_
      refine WP.lload rfl rfl ?_
      refine WP.lsubE rfl o49 ?_
      refine WP.callF (c_X12_less (s_X12_less_1 ((s_X12_supply_8 h) 249 5) (((s_X12_supply_8 h) 249 4) - ((s_X12_supply_8 h) 249 7))) (((s_X12_supply_8 h) 249 3) - ((F_X12_allDrawn (s_X12_supply_5 h)) - (s_X12_supply_7 h))) (s_X12_supply_8 h)) rfl rfl (pm_cok rfl rfl (Or.inl rfl) rfl rfl) rfl rfl ?_
      show WP 187 (170, [(14, 248), (1, s_X12_less_1 (h 249 5) (h 249 7)), pU, (0, s_X12_supply_4 h), (1, F_X12_allDrawn (s_X12_supply_5 h)), pU, (1, (s_X12_supply_6 h) 249 (60 + (Int.tmod ((s_X12_supply_6 h) 249 15) 24))), pU, (1, s_X12_supply_7 h), pU, (1, (F_X12_allDrawn (s_X12_supply_5 h)) - (s_X12_supply_7 h)), pU, us31.getD 8 pU, us31.getD 9 pU], [(1, s_X12_supply_9 h)], s_X12_supply_8 h) Q'
      refine WP.lstore (L' := [(14, 248), (1, s_X12_less_1 (h 249 5) (h 249 7)), pU, (0, s_X12_supply_4 h), (1, F_X12_allDrawn (s_X12_supply_5 h)), pU, (1, (s_X12_supply_6 h) 249 (60 + (Int.tmod ((s_X12_supply_6 h) 249 15) 24))), pU, (1, s_X12_supply_7 h), pU, (1, (F_X12_allDrawn (s_X12_supply_5 h)) - (s_X12_supply_7 h)), pU, (1, s_X12_supply_9 h), pU]) rfl rfl ?_
      refine WP.aload_n rfl rfl ⟨by decide, by decide⟩ ?_
      refine WP.getRF (b := 249) rfl rfl rfl ?_
      refine WP.bipush rfl ?_
      refine WP.dup2 rfl (by decide) (by decide) ?_
      refine WP.laload rfl ⟨by decide, by decide, by decide⟩ (by decide) ?_
      refine WP.lload rfl rfl ?_
      refine WP.laddE rfl o50 ?_
      refine WP.lastore rfl ⟨by decide, by decide, by decide⟩ (by decide) ?_
      show WP 187 (179, [(14, 248), (1, s_X12_less_1 (h 249 5) (h 249 7)), pU, (0, s_X12_supply_4 h), (1, F_X12_allDrawn (s_X12_supply_5 h)), pU, (1, (s_X12_supply_6 h) 249 (60 + (Int.tmod ((s_X12_supply_6 h) 249 15) 24))), pU, (1, s_X12_supply_7 h), pU, (1, (F_X12_allDrawn (s_X12_supply_5 h)) - (s_X12_supply_7 h)), pU, (1, s_X12_supply_9 h), pU], [], s_X12_supply_10 h) Q'
      refine WP.lload rfl rfl ?_
      refine WP.lload rfl rfl ?_
      refine WP.laddE rfl o51 ?_
      refine WP.lstore (L' := [(14, 248), (1, s_X12_less_1 (h 249 5) (h 249 7)), pU, (0, s_X12_supply_4 h), (1, F_X12_allDrawn (s_X12_supply_5 h)), pU, (1, (s_X12_supply_6 h) 249 (60 + (Int.tmod ((s_X12_supply_6 h) 249 15) 24))), pU, (1, s_X12_supply_7 h), pU, (1, ((F_X12_allDrawn (s_X12_supply_5 h)) - (s_X12_supply_7 h)) + (s_X12_supply_9 h)), pU, (1, s_X12_supply_9 h), pU]) rfl rfl ?_
      have e := kk [(1, s_X12_supply_9 h), pU]; simp only [s_X12_supply_12, s_X12_supply_11, if_neg (Int.not_le.mpr c47)] at e ⊢; exact e
  refine k46 _ (fun us53 => ?_)
  refine WP.aload_n rfl rfl ⟨by decide, by decide⟩ ?_
  refine WP.getRF (b := 249) rfl rfl rfl ?_
  refine WP.bipush rfl ?_
  refine WP.dup2 rfl (by decide) (by decide) ?_
  refine WP.laload rfl ⟨by decide, by decide, by decide⟩ (by decide) ?_
  refine WP.lload rfl rfl ?_
  refine WP.lload rfl rfl ?_
  refine WP.lmulE rfl o55 ?_
  refine WP.ladd rfl ?_
  refine WP.lastore rfl ⟨by decide, by decide, by decide⟩ (by decide) ?_
  show WP 187 (193, [(14, 248), (1, s_X12_less_1 (h 249 5) (h 249 7)), pU, (0, s_X12_supply_4 h), (1, F_X12_allDrawn (s_X12_supply_5 h)), pU, (1, (s_X12_supply_6 h) 249 (60 + (Int.tmod ((s_X12_supply_6 h) 249 15) 24))), pU, (1, s_X12_supply_7 h), pU, (1, s_X12_supply_12 h), pU, us53.getD 0 pU, us53.getD 1 pU], [], s_X12_supply_13 h) Q
  refine WP.retv rfl ?_; exact kk
theorem c_X12_supply (h : pH) (hp : P_X12_supply h) : CP 187 [(14, 248)] h (fun r h1 => r = none ∧ h1 = H_X12_supply h) := w_X12_supply h hp ⟨rfl, rfl⟩
noncomputable def s_X12_cell_1 (a1 : Int) (a2 : Int) (h : pH) : Int := if a2 = 0 then h 249 (20 + a1) else s_X12_gauge_1 a1 h
noncomputable def s_X12_cell_2 (a1 : Int) (a2 : Int) (h : pH) : Int := if 0 ≤ a1 ∧ a1 ≤ 11 then if 0 ≤ a2 ∧ a2 ≤ 1 then s_X12_cell_1 a1 a2 h else (-2000000000) else (-2000000000)
noncomputable def F_X12_cell (a1 : Int) (a2 : Int) (h : pH) : Int := s_X12_cell_2 a1 a2 h
noncomputable def P_X12_cell (a1 : Int) (a2 : Int) (h : pH) : Prop := (((0 ≤ a1 ∧ a1 ≤ 11) → (((0 ≤ a2 ∧ a2 ≤ 1) → (((((a2 = 0) → ((fx_i (20 + a1)) ∧ (0 ≤ 20 + a1 ∧ 20 + a1 < 620))) ∧ ((¬ a2 = 0) → P_X12_gauge a1 h))) ∧ (fx_i (s_X12_cell_1 a1 a2 h)))))))
set_option maxHeartbeats 4000000 in
theorem w_X12_cell (a1 : Int) (a2 : Int) (h : pH) {Q : Option pV → pH → Prop} (hp : P_X12_cell a1 a2 h) (kk : Q (some (0, F_X12_cell a1 a2 h)) (h)) : WP 196 (0, [(14, 248), (0, a1), (0, a2)], [], h) Q := by
  unfold P_X12_cell at hp
  have q16 := hp
  refine WP.iload_n rfl rfl ?_
  refine WP.callF (c_X12_isCell a1 h) rfl rfl (pm_cok rfl rfl (Or.inl rfl) rfl rfl) rfl rfl ?_
  show WP 196 (2, [(14, 248), (0, a1), (0, a2)], [(0, if 0 ≤ a1 ∧ a1 ≤ 11 then 1 else 0)], h) Q
  have k1 : ∀ Q' : Option pV → pH → Prop, (WP 196 (24, [(14, 248), (0, a1), (0, a2)], [(0, s_X12_cell_2 a1 a2 h)], h) Q') → WP 196 (2, [(14, 248), (0, a1), (0, a2)], [(0, if 0 ≤ a1 ∧ a1 ≤ 11 then 1 else 0)], h) Q' := fun Q' kk => by
    have q14 := q16
    refine WP.nb_eq rfl (fun c2 => ?_) (fun c2 => ?_)
    · refine WP.ldc rfl ?_
      refine WP.goto rfl ?_
      have e := kk; simp only [s_X12_cell_2, if_neg (c2)] at e ⊢; exact e
    · have q13 := q14 c2
      refine WP.iload_n rfl rfl ?_
      refine WP.i2l rfl ?_
      refine WP.lconst rfl ?_
      refine WP.lconst rfl ?_
      refine WP.callF (c_X12_in a2 0 1 h) rfl rfl (pm_cok rfl rfl (Or.inl rfl) rfl rfl) rfl rfl ?_
      show WP 196 (8, [(14, 248), (0, a1), (0, a2)], [(0, if 0 ≤ a2 ∧ a2 ≤ 1 then 1 else 0)], h) Q'
      refine WP.nb_ne rfl (fun c3 => ?_) (fun c3 => ?_)
      · obtain ⟨q11, o12⟩ := q13 c3
        refine WP.iload_n rfl rfl ?_
        have k4 : ∀ Q' : Option pV → pH → Prop, (WP 196 (23, [(14, 248), (0, a1), (0, a2)], [(1, s_X12_cell_1 a1 a2 h)], h) Q') → WP 196 (12, [(14, 248), (0, a1), (0, a2)], [(0, a2)], h) Q' := fun Q' kk => by
          have q9 := q11
          refine WP.nz_ne rfl (fun c5 => ?_) (fun c5 => ?_)
          · have o8 := q9.2 c5
            refine WP.aload_n rfl rfl ⟨by decide, by decide⟩ ?_
            refine WP.iload_n rfl rfl ?_
            refine WP.callF (c_X12_gauge a1 h o8) rfl rfl (pm_cok rfl rfl (Or.inr ⟨_, _, rfl⟩) rfl rfl) rfl rfl ?_
            show WP 196 (23, [(14, 248), (0, a1), (0, a2)], [(1, s_X12_gauge_1 a1 h)], h) Q'
            have e := kk; simp only [s_X12_cell_1, if_neg (c5)] at e ⊢; exact e
          · obtain ⟨o6, o7⟩ := q9.1 c5
            refine WP.aload_n rfl rfl ⟨by decide, by decide⟩ ?_
            refine WP.getRF (b := 249) rfl rfl rfl ?_
            refine WP.bipush rfl ?_
            refine WP.iload_n rfl rfl ?_
            refine WP.iaddE rfl o6 ?_
            refine WP.laload rfl ⟨by decide, by decide, by decide⟩ o7 ?_
            refine WP.goto rfl ?_
            have e := kk; simp only [s_X12_cell_1, if_pos c5] at e ⊢; exact e
        refine k4 _ ?_
        refine WP.l2iE rfl o12 ?_
        have e := kk; simp only [s_X12_cell_2, if_pos c2, if_pos c3] at e ⊢; exact e
      · refine WP.ldc rfl ?_
        refine WP.goto rfl ?_
        have e := kk; simp only [s_X12_cell_2, if_pos c2, if_neg (c3)] at e ⊢; exact e
  refine k1 _ ?_
  refine WP.reti rfl ?_; exact kk
theorem c_X12_cell (a1 : Int) (a2 : Int) (h : pH) (hp : P_X12_cell a1 a2 h) : CP 196 [(14, 248), (0, a1), (0, a2)] h (fun r h1 => r = some (0, F_X12_cell a1 a2 h) ∧ h1 = h) := w_X12_cell a1 a2 h hp ⟨rfl, rfl⟩
noncomputable def s_X12_of_1 (a1 : Int) (a2 : Int) : Int := if a2 = 0 then 154 + a1 else if a2 = 1 then 164 + a1 else if a2 = 2 then 134 + a1 else if a2 = 3 then 144 + a1 else 84 + a1
noncomputable def F_X12_of (a1 : Int) (a2 : Int) (h : pH) : Int := if 0 ≤ a1 ∧ a1 ≤ ((h 249 12) - 1) then if 0 ≤ a2 ∧ a2 ≤ 4 then h 249 (s_X12_of_1 a1 a2) else (-2) else (-2)
noncomputable def P_X12_of (a1 : Int) (a2 : Int) (h : pH) : Prop := P_X12_isMachine a1 h ∧ ((0 ≤ a1 ∧ a1 ≤ ((h 249 12) - 1)) → (((0 ≤ a2 ∧ a2 ≤ 4) → (((((a2 = 0) → ((fx_i (154 + a1)))) ∧ ((¬ a2 = 0) → ((((a2 = 1) → ((fx_i (164 + a1)))) ∧ ((¬ a2 = 1) → ((((a2 = 2) → ((fx_i (134 + a1)))) ∧ ((¬ a2 = 2) → ((((a2 = 3) → ((fx_i (144 + a1)))) ∧ ((¬ a2 = 3) → ((fx_i (84 + a1))))))))))))))) ∧ (P_X12_at (s_X12_of_1 a1 a2) h)))))
set_option maxHeartbeats 4000000 in
theorem w_X12_of (a1 : Int) (a2 : Int) (h : pH) {Q : Option pV → pH → Prop} (hp : P_X12_of a1 a2 h) (kk : Q (some (0, F_X12_of a1 a2 h)) (h)) : WP 198 (0, [(14, 248), (0, a1), (0, a2)], [], h) Q := by
  unfold P_X12_of at hp
  obtain ⟨o1, q22⟩ := hp
  refine WP.aload_n rfl rfl ⟨by decide, by decide⟩ ?_
  refine WP.iload_n rfl rfl ?_
  refine WP.callF (c_X12_isMachine a1 h o1) rfl rfl (pm_cok rfl rfl (Or.inr ⟨_, _, rfl⟩) rfl rfl) rfl rfl ?_
  show WP 198 (3, [(14, 248), (0, a1), (0, a2)], [(0, if 0 ≤ a1 ∧ a1 ≤ ((h 249 12) - 1) then 1 else 0)], h) Q
  refine WP.nb_eq rfl (fun c2 => ?_) (fun c2 => ?_)
  · refine WP.bipush rfl ?_
    refine WP.reti rfl ?_; have e := kk; simp only [F_X12_of, if_neg (c2)] at e ⊢; exact e
  · have q21 := q22 c2
    refine WP.iload_n rfl rfl ?_
    refine WP.i2l rfl ?_
    refine WP.lconst rfl ?_
    refine WP.ldc2_w rfl ?_
    refine WP.callF (c_X12_in a2 0 4 h) rfl rfl (pm_cok rfl rfl (Or.inl rfl) rfl rfl) rfl rfl ?_
    show WP 198 (9, [(14, 248), (0, a1), (0, a2)], [(0, if 0 ≤ a2 ∧ a2 ≤ 4 then 1 else 0)], h) Q
    refine WP.nb_ne rfl (fun c3 => ?_) (fun c3 => ?_)
    · obtain ⟨q19, o20⟩ := q21 c3
      refine WP.aload_n rfl rfl ⟨by decide, by decide⟩ ?_
      refine WP.iload_n rfl rfl ?_
      have k4 : ∀ Q' : Option pV → pH → Prop, (WP 198 (43, [(14, 248), (0, a1), (0, a2)], [(0, s_X12_of_1 a1 a2), (14, 248)], h) Q') → WP 198 (14, [(14, 248), (0, a1), (0, a2)], [(0, a2), (14, 248)], h) Q' := fun Q' kk => by
        have q17 := q19
        refine WP.nz_ne rfl (fun c5 => ?_) (fun c5 => ?_)
        · have q16 := q17.2 c5
          refine WP.iload_n rfl rfl ?_
          refine WP.iconst rfl ?_
          refine WP.ni_ne rfl (fun c7 => ?_) (fun c7 => ?_)
          · have q15 := q16.2 c7
            refine WP.iload_n rfl rfl ?_
            refine WP.iconst rfl ?_
            refine WP.ni_ne rfl (fun c9 => ?_) (fun c9 => ?_)
            · have q14 := q15.2 c9
              refine WP.iload_n rfl rfl ?_
              refine WP.iconst rfl ?_
              refine WP.ni_ne rfl (fun c11 => ?_) (fun c11 => ?_)
              · have o13 := q14.2 c11
                refine WP.bipush rfl ?_
                refine WP.iload_n rfl rfl ?_
                refine WP.iaddE rfl o13 ?_
                have e := kk; simp only [s_X12_of_1, if_neg (c5), if_neg (c7), if_neg (c9), if_neg (c11)] at e ⊢; exact e
              · have o12 := q14.1 c11
                refine WP.sipush rfl ?_
                refine WP.iload_n rfl rfl ?_
                refine WP.iaddE rfl o12 ?_
                refine WP.goto rfl ?_
                have e := kk; simp only [s_X12_of_1, if_neg (c5), if_neg (c7), if_neg (c9), if_pos c11] at e ⊢; exact e
            · have o10 := q15.1 c9
              refine WP.sipush rfl ?_
              refine WP.iload_n rfl rfl ?_
              refine WP.iaddE rfl o10 ?_
              refine WP.goto rfl ?_
              have e := kk; simp only [s_X12_of_1, if_neg (c5), if_neg (c7), if_pos c9] at e ⊢; exact e
          · have o8 := q16.1 c7
            refine WP.sipush rfl ?_
            refine WP.iload_n rfl rfl ?_
            refine WP.iaddE rfl o8 ?_
            refine WP.goto rfl ?_
            have e := kk; simp only [s_X12_of_1, if_neg (c5), if_pos c7] at e ⊢; exact e
        · have o6 := q17.1 c5
          refine WP.sipush rfl ?_
          refine WP.iload_n rfl rfl ?_
          refine WP.iaddE rfl o6 ?_
          refine WP.goto rfl ?_
          have e := kk; simp only [s_X12_of_1, if_pos c5] at e ⊢; exact e
      refine k4 _ ?_
      refine WP.callF (c_X12_at (s_X12_of_1 a1 a2) h o20) rfl rfl (pm_cok rfl rfl (Or.inr ⟨_, _, rfl⟩) rfl rfl) rfl rfl ?_
      show WP 198 (44, [(14, 248), (0, a1), (0, a2)], [(0, h 249 (s_X12_of_1 a1 a2))], h) Q
      refine WP.reti rfl ?_; have e := kk; simp only [F_X12_of, if_pos c2, if_pos c3] at e ⊢; exact e
    · refine WP.bipush rfl ?_
      refine WP.reti rfl ?_; have e := kk; simp only [F_X12_of, if_pos c2, if_neg (c3)] at e ⊢; exact e
theorem c_X12_of (a1 : Int) (a2 : Int) (h : pH) (hp : P_X12_of a1 a2 h) : CP 198 [(14, 248), (0, a1), (0, a2)] h (fun r h1 => r = some (0, F_X12_of a1 a2 h) ∧ h1 = h) := w_X12_of a1 a2 h hp ⟨rfl, rfl⟩
noncomputable def s_X12_work_1 (a1 : Int) (h : pH) : Int := if h 249 (328 + a1) = 0 then if h 249 (328 + a1) = 0 ∧ (h 249 (200 + a1) = 0 ∨ ((h 249 (248 + a1)) ≤ (h 249 15) ∧ (h 249 15) ≤ (h 249 (264 + a1)))) then 1 else 0 else h 249 (328 + a1)
noncomputable def s_X12_work_2 (a1 : Int) (a2 : Int) : Int := if a2 = 1 then 296 + a1 else if a2 = 2 then 312 + a1 else if a2 = 3 then 216 + a1 else 344 + a1
noncomputable def F_X12_work (a1 : Int) (a2 : Int) (h : pH) : Int := if 0 ≤ a1 ∧ a1 ≤ ((h 249 13) - 1) then if 0 ≤ a2 ∧ a2 ≤ 4 then if a2 = 0 then s_X12_work_1 a1 h else h 249 (s_X12_work_2 a1 a2) else (-2) else (-2)
noncomputable def P_X12_work (a1 : Int) (a2 : Int) (h : pH) : Prop := P_X12_isWork a1 h ∧ ((0 ≤ a1 ∧ a1 ≤ ((h 249 13) - 1)) → (((0 ≤ a2 ∧ a2 ≤ 4) → ((((a2 = 0) → ((fx_i (328 + a1)) ∧ (0 ≤ 328 + a1 ∧ 328 + a1 < 620) ∧ ((((h 249 (328 + a1) = 0) → P_X12_isOpen a1 h) ∧ ((¬ h 249 (328 + a1) = 0) → ((P_X12_at (328 + a1) h))))))) ∧ ((¬ a2 = 0) → (((((a2 = 1) → ((fx_i (296 + a1)))) ∧ ((¬ a2 = 1) → ((((a2 = 2) → ((fx_i (312 + a1)))) ∧ ((¬ a2 = 2) → ((((a2 = 3) → ((fx_i (216 + a1)))) ∧ ((¬ a2 = 3) → ((fx_i (344 + a1)))))))))))) ∧ (P_X12_at (s_X12_work_2 a1 a2) h))))))))
set_option maxHeartbeats 4000000 in
theorem w_X12_work (a1 : Int) (a2 : Int) (h : pH) {Q : Option pV → pH → Prop} (hp : P_X12_work a1 a2 h) (kk : Q (some (0, F_X12_work a1 a2 h)) (h)) : WP 200 (0, [(14, 248), (0, a1), (0, a2)], [], h) Q := by
  unfold P_X12_work at hp
  obtain ⟨o1, q31⟩ := hp
  refine WP.aload_n rfl rfl ⟨by decide, by decide⟩ ?_
  refine WP.iload_n rfl rfl ?_
  refine WP.callF (c_X12_isWork a1 h o1) rfl rfl (pm_cok rfl rfl (Or.inr ⟨_, _, rfl⟩) rfl rfl) rfl rfl ?_
  show WP 200 (3, [(14, 248), (0, a1), (0, a2)], [(0, if 0 ≤ a1 ∧ a1 ≤ ((h 249 13) - 1) then 1 else 0)], h) Q
  refine WP.nb_eq rfl (fun c2 => ?_) (fun c2 => ?_)
  · refine WP.bipush rfl ?_
    refine WP.reti rfl ?_; have e := kk; simp only [F_X12_work, if_neg (c2)] at e ⊢; exact e
  · have q30 := q31 c2
    refine WP.iload_n rfl rfl ?_
    refine WP.i2l rfl ?_
    refine WP.lconst rfl ?_
    refine WP.ldc2_w rfl ?_
    refine WP.callF (c_X12_in a2 0 4 h) rfl rfl (pm_cok rfl rfl (Or.inl rfl) rfl rfl) rfl rfl ?_
    show WP 200 (9, [(14, 248), (0, a1), (0, a2)], [(0, if 0 ≤ a2 ∧ a2 ≤ 4 then 1 else 0)], h) Q
    refine WP.nb_ne rfl (fun c3 => ?_) (fun c3 => ?_)
    · have q29 := q30 c3
      refine WP.iload_n rfl rfl ?_
      refine WP.nz_ne rfl (fun c4 => ?_) (fun c4 => ?_)
      · obtain ⟨q27, o28⟩ := q29.2 c4
        refine WP.aload_n rfl rfl ⟨by decide, by decide⟩ ?_
        refine WP.iload_n rfl rfl ?_
        refine WP.iconst rfl ?_
        have k15 : ∀ Q' : Option pV → pH → Prop, (WP 200 (62, [(14, 248), (0, a1), (0, a2)], [(0, s_X12_work_2 a1 a2), (14, 248)], h) Q') → WP 200 (40, [(14, 248), (0, a1), (0, a2)], [(0, 1), (0, a2), (14, 248)], h) Q' := fun Q' kk => by
          have q25 := q27
          refine WP.ni_ne rfl (fun c16 => ?_) (fun c16 => ?_)
          · have q24 := q25.2 c16
            refine WP.iload_n rfl rfl ?_
            refine WP.iconst rfl ?_
            refine WP.ni_ne rfl (fun c18 => ?_) (fun c18 => ?_)
            · have q23 := q24.2 c18
              refine WP.iload_n rfl rfl ?_
              refine WP.iconst rfl ?_
              refine WP.ni_ne rfl (fun c20 => ?_) (fun c20 => ?_)
              · have o22 := q23.2 c20
                refine WP.sipush rfl ?_
                refine WP.iload_n rfl rfl ?_
                refine WP.iaddE rfl o22 ?_
                have e := kk; simp only [s_X12_work_2, if_neg (c16), if_neg (c18), if_neg (c20)] at e ⊢; exact e
              · have o21 := q23.1 c20
                refine WP.sipush rfl ?_
                refine WP.iload_n rfl rfl ?_
                refine WP.iaddE rfl o21 ?_
                refine WP.goto rfl ?_
                have e := kk; simp only [s_X12_work_2, if_neg (c16), if_neg (c18), if_pos c20] at e ⊢; exact e
            · have o19 := q24.1 c18
              refine WP.sipush rfl ?_
              refine WP.iload_n rfl rfl ?_
              refine WP.iaddE rfl o19 ?_
              refine WP.goto rfl ?_
              have e := kk; simp only [s_X12_work_2, if_neg (c16), if_pos c18] at e ⊢; exact e
          · have o17 := q25.1 c16
            refine WP.sipush rfl ?_
            refine WP.iload_n rfl rfl ?_
            refine WP.iaddE rfl o17 ?_
            refine WP.goto rfl ?_
            have e := kk; simp only [s_X12_work_2, if_pos c16] at e ⊢; exact e
        refine k15 _ ?_
        refine WP.callF (c_X12_at (s_X12_work_2 a1 a2) h o28) rfl rfl (pm_cok rfl rfl (Or.inr ⟨_, _, rfl⟩) rfl rfl) rfl rfl ?_
        show WP 200 (63, [(14, 248), (0, a1), (0, a2)], [(0, h 249 (s_X12_work_2 a1 a2))], h) Q
        refine WP.reti rfl ?_; have e := kk; simp only [F_X12_work, if_pos c2, if_pos c3, if_neg (c4)] at e ⊢; exact e
      · obtain ⟨o5, o6, q14⟩ := q29.1 c4
        refine WP.aload_n rfl rfl ⟨by decide, by decide⟩ ?_
        refine WP.getRF (b := 249) rfl rfl rfl ?_
        refine WP.sipush rfl ?_
        refine WP.iload_n rfl rfl ?_
        refine WP.iaddE rfl o5 ?_
        refine WP.laload rfl ⟨by decide, by decide, by decide⟩ o6 ?_
        refine WP.lconst rfl ?_
        refine WP.lcmp rfl ?_
        have k7 : ∀ Q' : Option pV → pH → Prop, (WP 200 (36, [(14, 248), (0, a1), (0, a2)], [(0, s_X12_work_1 a1 h)], h) Q') → WP 200 (22, [(14, 248), (0, a1), (0, a2)], [(0, pm_lcmp (h 249 (328 + a1)) 0)], h) Q' := fun Q' kk => by
          have q12 := q14
          refine WP.nl_eq rfl (fun c8 => ?_) (fun c8 => ?_)
          · have o9 := q12.1 c8
            refine WP.aload_n rfl rfl ⟨by decide, by decide⟩ ?_
            refine WP.iload_n rfl rfl ?_
            refine WP.callF (c_X12_isOpen a1 h o9) rfl rfl (pm_cok rfl rfl (Or.inr ⟨_, _, rfl⟩) rfl rfl) rfl rfl ?_
            show WP 200 (32, [(14, 248), (0, a1), (0, a2)], [(0, if h 249 (328 + a1) = 0 ∧ (h 249 (200 + a1) = 0 ∨ ((h 249 (248 + a1)) ≤ (h 249 15) ∧ (h 249 15) ≤ (h 249 (264 + a1)))) then 1 else 0)], h) Q'
            refine WP.nb_eq rfl (fun c10 => ?_) (fun c10 => ?_)
            · refine WP.iconst rfl ?_
              have e := kk; simp only [s_X12_work_1, if_pos c8, if_neg (c10)] at e ⊢; exact e
            · refine WP.iconst rfl ?_
              refine WP.goto rfl ?_
              have e := kk; simp only [s_X12_work_1, if_pos c8, if_pos c10] at e ⊢; exact e
          · have o11 := q12.2 c8
            refine WP.aload_n rfl rfl ⟨by decide, by decide⟩ ?_
            refine WP.sipush rfl ?_
            refine WP.iload_n rfl rfl ?_
            refine WP.iaddE rfl o5 ?_
            refine WP.callF (c_X12_at (328 + a1) h o11) rfl rfl (pm_cok rfl rfl (Or.inr ⟨_, _, rfl⟩) rfl rfl) rfl rfl ?_
            show WP 200 (28, [(14, 248), (0, a1), (0, a2)], [(0, h 249 (328 + a1))], h) Q'
            refine WP.goto rfl ?_
            have e := kk; simp only [s_X12_work_1, if_neg (c8)] at e ⊢; exact e
        refine k7 _ ?_
        refine WP.reti rfl ?_; have e := kk; simp only [F_X12_work, if_pos c2, if_pos c3, if_pos c4] at e ⊢; exact e
    · refine WP.bipush rfl ?_
      refine WP.reti rfl ?_; have e := kk; simp only [F_X12_work, if_pos c2, if_neg (c3)] at e ⊢; exact e
theorem c_X12_work (a1 : Int) (a2 : Int) (h : pH) (hp : P_X12_work a1 a2 h) : CP 200 [(14, 248), (0, a1), (0, a2)] h (fun r h1 => r = some (0, F_X12_work a1 a2 h) ∧ h1 = h) := w_X12_work a1 a2 h hp ⟨rfl, rfl⟩
noncomputable def s_X12_findPlacing_1 (a1 : Int) (x2 : Int) (h : pH) : pH := pm_upd (pm_upd h 265 ((1024 * a1) + x2) 0) 266 ((1024 * a1) + x2) 0
def C_X12_findPlacing_2 (a1 : Int) (x2 : Int) (h : pH) : Prop := x2 < 1024
noncomputable def B_X12_findPlacing_2 (a1 : Int) (x2 : Int) (h : pH) : Int × pH := (x2 + 1, s_X12_findPlacing_1 a1 x2 h)
noncomputable def P_X12_findPlacing_2 (a1 : Int) (x2 : Int) (h : pH) : Prop := ((x2 < 1024) → (fx_i (1024 * a1)) ∧ (fx_i ((1024 * a1) + x2)) ∧ (0 ≤ (1024 * a1) + x2 ∧ (1024 * a1) + x2 < 9216) ∧ (fx_i (x2 + 1)))
noncomputable def L_X12_findPlacing_2 (a1 : Int) (x2 : Int) (h : pH) : Int × pH := fx_wh (σ := Int × pH) (fun s => C_X12_findPlacing_2 a1 s.1 s.2) (fun s => B_X12_findPlacing_2 a1 s.1 s.2) (x2, h)
def O_X12_findPlacing_2 (a1 : Int) (x2 : Int) (h : pH) : Prop := fx_ok (σ := Int × pH) (fun s => C_X12_findPlacing_2 a1 s.1 s.2) (fun s => B_X12_findPlacing_2 a1 s.1 s.2) (fun s => P_X12_findPlacing_2 a1 s.1 s.2) (x2, h)
set_option maxHeartbeats 4000000 in
theorem lp_X12_findPlacing_2 (a1 : Int) (x2 : Int) (h : pH) {Q : Option pV → pH → Prop} (hp : O_X12_findPlacing_2 a1 x2 h) (kk : ∀ us : List pV, WP 202 (25, [(14, 248), (0, a1), (0, (L_X12_findPlacing_2 a1 x2 h).1), us.getD 0 pU, us.getD 1 pU, us.getD 2 pU, us.getD 3 pU, us.getD 4 pU, us.getD 5 pU, us.getD 6 pU, us.getD 7 pU, us.getD 8 pU, us.getD 9 pU], [], (L_X12_findPlacing_2 a1 x2 h).2) Q) : ∀ us : List pV, WP 202 (2, [(14, 248), (0, a1), (0, x2), us.getD 0 pU, us.getD 1 pU, us.getD 2 pU, us.getD 3 pU, us.getD 4 pU, us.getD 5 pU, us.getD 6 pU, us.getD 7 pU, us.getD 8 pU, us.getD 9 pU], [], h) Q := by
  refine WP.wh (σ := Int × pH) (fun s => C_X12_findPlacing_2 a1 s.1 s.2) (fun s => B_X12_findPlacing_2 a1 s.1 s.2) (fun s => P_X12_findPlacing_2 a1 s.1 s.2) (fun s us => (2, [(14, 248), (0, a1), (0, s.1), us.getD 0 pU, us.getD 1 pU, us.getD 2 pU, us.getD 3 pU, us.getD 4 pU, us.getD 5 pU, us.getD 6 pU, us.getD 7 pU, us.getD 8 pU, us.getD 9 pU], [], s.2)) (x2, h) hp ?_ ?_
  · intro s us hP hc kk
    obtain ⟨x2, h⟩ := s
    change P_X12_findPlacing_2 a1 x2 h at hP
    change x2 < 1024 at hc
    replace kk : ∀ (us' : List pV) (s' : Int × pH), s' = B_X12_findPlacing_2 a1 x2 h → WP 202 (2, [(14, 248), (0, a1), (0, s'.1), us'.getD 0 pU, us'.getD 1 pU, us'.getD 2 pU, us'.getD 3 pU, us'.getD 4 pU, us'.getD 5 pU, us'.getD 6 pU, us'.getD 7 pU, us'.getD 8 pU, us'.getD 9 pU], [], s'.2) Q := fun us' s' e => by subst e; exact kk us'
    unfold P_X12_findPlacing_2 at hP
    obtain ⟨o3, o4, o5, o6⟩ := hP hc
    show WP 202 (2, [(14, 248), (0, a1), (0, x2), us.getD 0 pU, us.getD 1 pU, us.getD 2 pU, us.getD 3 pU, us.getD 4 pU, us.getD 5 pU, us.getD 6 pU, us.getD 7 pU, us.getD 8 pU, us.getD 9 pU], [], h) Q
    refine WP.iload_n rfl rfl ?_
    refine WP.sipush rfl ?_
    refine WP.ni_ge rfl (fun c2 => ?_) (fun c2 => ?_)
    · exact absurd hc (Int.not_lt.mpr c2)
    · refine WP.aload_n rfl rfl ⟨by decide, by decide⟩ ?_
      refine WP.getRF (b := 265) rfl rfl rfl ?_
      refine WP.sipush rfl ?_
      refine WP.iload_n rfl rfl ?_
      refine WP.imulE rfl o3 ?_
      refine WP.iload_n rfl rfl ?_
      refine WP.iaddE rfl o4 ?_
      refine WP.iconst rfl ?_
      refine WP.iastore rfl ⟨by decide, by decide, by decide⟩ o5 ?_
      refine WP.aload_n rfl rfl ⟨by decide, by decide⟩ ?_
      refine WP.getRF (b := 266) rfl rfl rfl ?_
      refine WP.sipush rfl ?_
      refine WP.iload_n rfl rfl ?_
      refine WP.imulE rfl o3 ?_
      refine WP.iload_n rfl rfl ?_
      refine WP.iaddE rfl o4 ?_
      refine WP.lconst rfl ?_
      refine WP.lastore rfl ⟨by decide, by decide, by decide⟩ o5 ?_
      show WP 202 (23, [(14, 248), (0, a1), (0, x2), us.getD 0 pU, us.getD 1 pU, us.getD 2 pU, us.getD 3 pU, us.getD 4 pU, us.getD 5 pU, us.getD 6 pU, us.getD 7 pU, us.getD 8 pU, us.getD 9 pU], [], s_X12_findPlacing_1 a1 x2 h) Q
      refine WP.iincE (L' := [(14, 248), (0, a1), (0, x2 + 1), us.getD 0 pU, us.getD 1 pU, us.getD 2 pU, us.getD 3 pU, us.getD 4 pU, us.getD 5 pU, us.getD 6 pU, us.getD 7 pU, us.getD 8 pU, us.getD 9 pU]) rfl rfl o6 rfl ?_
      refine WP.goto rfl ?_
      exact kk [us.getD 0 pU, us.getD 1 pU, us.getD 2 pU, us.getD 3 pU, us.getD 4 pU, us.getD 5 pU, us.getD 6 pU, us.getD 7 pU, us.getD 8 pU, us.getD 9 pU] (x2 + 1, s_X12_findPlacing_1 a1 x2 h) (rfl)
  · intro hP hc
    generalize hs : (L_X12_findPlacing_2 a1 x2 h : Int × pH) = s at kk
    change P_X12_findPlacing_2 a1 (L_X12_findPlacing_2 a1 x2 h).1 (L_X12_findPlacing_2 a1 x2 h).2 at hP
    change ¬ C_X12_findPlacing_2 a1 (L_X12_findPlacing_2 a1 x2 h).1 (L_X12_findPlacing_2 a1 x2 h).2 at hc
    intro us
    show WP 202 (2, [(14, 248), (0, a1), (0, (L_X12_findPlacing_2 a1 x2 h).1), us.getD 0 pU, us.getD 1 pU, us.getD 2 pU, us.getD 3 pU, us.getD 4 pU, us.getD 5 pU, us.getD 6 pU, us.getD 7 pU, us.getD 8 pU, us.getD 9 pU], [], (L_X12_findPlacing_2 a1 x2 h).2) Q
    rw [hs] at hP hc ⊢
    obtain ⟨x2, h⟩ := s
    change P_X12_findPlacing_2 a1 x2 h at hP
    change ¬ (x2 < 1024) at hc
    unfold P_X12_findPlacing_2 at hP
    show WP 202 (2, [(14, 248), (0, a1), (0, x2), us.getD 0 pU, us.getD 1 pU, us.getD 2 pU, us.getD 3 pU, us.getD 4 pU, us.getD 5 pU, us.getD 6 pU, us.getD 7 pU, us.getD 8 pU, us.getD 9 pU], [], h) Q
    refine WP.iload_n rfl rfl ?_
    refine WP.sipush rfl ?_
    refine WP.ni_ge rfl (fun c1 => ?_) (fun c1 => ?_)
    · exact kk [us.getD 0 pU, us.getD 1 pU, us.getD 2 pU, us.getD 3 pU, us.getD 4 pU, us.getD 5 pU, us.getD 6 pU, us.getD 7 pU, us.getD 8 pU, us.getD 9 pU]
    · exact absurd (show x2 < 1024 from c1) hc
noncomputable def s_X12_findPlacing_2 (x2 : Int) (x3 : Int) (x4 : Int) (x5 : Int) (x7 : Int) (h : pH) : Int := if x4 < (h 265 ((1024 * (x2 + 1)) + (pm_or x3 (pm_shl 1 x7)))) + 1 ∨ ((h 265 ((1024 * (x2 + 1)) + (pm_or x3 (pm_shl 1 x7)))) + 1 = x4 ∧ (h 266 ((1024 * (x2 + 1)) + (pm_or x3 (pm_shl 1 x7)))) + (s_X12_gauge_1 (h 249 (84 + x7)) h) < x5) then (h 265 ((1024 * (x2 + 1)) + (pm_or x3 (pm_shl 1 x7)))) + 1 else x4
noncomputable def s_X12_findPlacing_3 (x2 : Int) (x3 : Int) (x4 : Int) (x5 : Int) (x7 : Int) (h : pH) : Int := if x4 < (h 265 ((1024 * (x2 + 1)) + (pm_or x3 (pm_shl 1 x7)))) + 1 ∨ ((h 265 ((1024 * (x2 + 1)) + (pm_or x3 (pm_shl 1 x7)))) + 1 = x4 ∧ (h 266 ((1024 * (x2 + 1)) + (pm_or x3 (pm_shl 1 x7)))) + (s_X12_gauge_1 (h 249 (84 + x7)) h) < x5) then (h 266 ((1024 * (x2 + 1)) + (pm_or x3 (pm_shl 1 x7)))) + (s_X12_gauge_1 (h 249 (84 + x7)) h) else x5
noncomputable def s_X12_findPlacing_4 (x2 : Int) (x3 : Int) (x4 : Int) (x5 : Int) (x7 : Int) (h : pH) : Int := if pm_and (pm_shr x3 x7) 1 = 0 then if h 249 (134 + x7) = 0 ∧ (h 249 (144 + x7) = 0 ∧ (h 249 (280 + (h 267 x2)) = (-1) ∨ h 249 (280 + (h 267 x2)) = x7)) then s_X12_findPlacing_2 x2 x3 x4 x5 x7 h else x4 else x4
noncomputable def s_X12_findPlacing_5 (x2 : Int) (x3 : Int) (x4 : Int) (x5 : Int) (x7 : Int) (h : pH) : Int := if pm_and (pm_shr x3 x7) 1 = 0 then if h 249 (134 + x7) = 0 ∧ (h 249 (144 + x7) = 0 ∧ (h 249 (280 + (h 267 x2)) = (-1) ∨ h 249 (280 + (h 267 x2)) = x7)) then s_X12_findPlacing_3 x2 x3 x4 x5 x7 h else x5 else x5
def C_X12_findPlacing_60 (x2 : Int) (x3 : Int) (h : pH) (x4 : Int) (x5 : Int) (x7 : Int) : Prop := x7 < h 249 12
noncomputable def B_X12_findPlacing_60 (x2 : Int) (x3 : Int) (h : pH) (x4 : Int) (x5 : Int) (x7 : Int) : Int × Int × Int := (s_X12_findPlacing_4 x2 x3 x4 x5 x7 h, s_X12_findPlacing_5 x2 x3 x4 x5 x7 h, x7 + 1)
noncomputable def P_X12_findPlacing_60 (x2 : Int) (x3 : Int) (h : pH) (x4 : Int) (x5 : Int) (x7 : Int) : Prop := ((x7 < h 249 12) → (((pm_and (pm_shr x3 x7) 1 = 0) → ((0 ≤ x2 ∧ x2 < 16) ∧ (P_X12_mayHave x7 (h 267 x2) h) ∧ ((h 249 (134 + x7) = 0 ∧ (h 249 (144 + x7) = 0 ∧ (h 249 (280 + (h 267 x2)) = (-1) ∨ h 249 (280 + (h 267 x2)) = x7))) → ((fx_i (x2 + 1)) ∧ (fx_i (1024 * (x2 + 1))) ∧ (fx_i ((1024 * (x2 + 1)) + (pm_or x3 (pm_shl 1 x7)))) ∧ (0 ≤ (1024 * (x2 + 1)) + (pm_or x3 (pm_shl 1 x7)) ∧ (1024 * (x2 + 1)) + (pm_or x3 (pm_shl 1 x7)) < 9216) ∧ (fx_i ((h 265 ((1024 * (x2 + 1)) + (pm_or x3 (pm_shl 1 x7)))) + 1)) ∧ (fx_i (84 + x7)) ∧ (P_X12_at (84 + x7) h) ∧ (P_X12_gauge (h 249 (84 + x7)) h) ∧ (fx_l ((h 266 ((1024 * (x2 + 1)) + (pm_or x3 (pm_shl 1 x7)))) + (s_X12_gauge_1 (h 249 (84 + x7)) h)))))))) ∧ (fx_i (x7 + 1)))
noncomputable def L_X12_findPlacing_60 (x2 : Int) (x3 : Int) (h : pH) (x4 : Int) (x5 : Int) (x7 : Int) : Int × Int × Int := fx_wh (σ := Int × Int × Int) (fun s => C_X12_findPlacing_60 x2 x3 h s.1 s.2.1 s.2.2) (fun s => B_X12_findPlacing_60 x2 x3 h s.1 s.2.1 s.2.2) (x4, x5, x7)
def O_X12_findPlacing_60 (x2 : Int) (x3 : Int) (h : pH) (x4 : Int) (x5 : Int) (x7 : Int) : Prop := fx_ok (σ := Int × Int × Int) (fun s => C_X12_findPlacing_60 x2 x3 h s.1 s.2.1 s.2.2) (fun s => B_X12_findPlacing_60 x2 x3 h s.1 s.2.1 s.2.2) (fun s => P_X12_findPlacing_60 x2 x3 h s.1 s.2.1 s.2.2) (x4, x5, x7)
set_option maxHeartbeats 4000000 in
theorem lp_X12_findPlacing_60 (x2 : Int) (x3 : Int) (h : pH) (x4 : Int) (x5 : Int) (x7 : Int) {Q : Option pV → pH → Prop} (hp : O_X12_findPlacing_60 x2 x3 h x4 x5 x7) (kk : ∀ us : List pV, WP 202 (142, [(14, 248), us.getD 0 pU, (0, x2), (0, x3), (0, (L_X12_findPlacing_60 x2 x3 h x4 x5 x7).1), (1, (L_X12_findPlacing_60 x2 x3 h x4 x5 x7).2.1), pU, (0, (L_X12_findPlacing_60 x2 x3 h x4 x5 x7).2.2), us.getD 1 pU, us.getD 2 pU, us.getD 3 pU, us.getD 4 pU, us.getD 5 pU], [], h) Q) : ∀ us : List pV, WP 202 (60, [(14, 248), us.getD 0 pU, (0, x2), (0, x3), (0, x4), (1, x5), pU, (0, x7), us.getD 1 pU, us.getD 2 pU, us.getD 3 pU, us.getD 4 pU, us.getD 5 pU], [], h) Q := by
  refine WP.wh (σ := Int × Int × Int) (fun s => C_X12_findPlacing_60 x2 x3 h s.1 s.2.1 s.2.2) (fun s => B_X12_findPlacing_60 x2 x3 h s.1 s.2.1 s.2.2) (fun s => P_X12_findPlacing_60 x2 x3 h s.1 s.2.1 s.2.2) (fun s us => (60, [(14, 248), us.getD 0 pU, (0, x2), (0, x3), (0, s.1), (1, s.2.1), pU, (0, s.2.2), us.getD 1 pU, us.getD 2 pU, us.getD 3 pU, us.getD 4 pU, us.getD 5 pU], [], h)) (x4, x5, x7) hp ?_ ?_
  · intro s us hP hc kk
    obtain ⟨x4, x5, x7⟩ := s
    change P_X12_findPlacing_60 x2 x3 h x4 x5 x7 at hP
    change x7 < h 249 12 at hc
    replace kk : ∀ (us' : List pV) (s' : Int × Int × Int), s' = B_X12_findPlacing_60 x2 x3 h x4 x5 x7 → WP 202 (60, [(14, 248), us'.getD 0 pU, (0, x2), (0, x3), (0, s'.1), (1, s'.2.1), pU, (0, s'.2.2), us'.getD 1 pU, us'.getD 2 pU, us'.getD 3 pU, us'.getD 4 pU, us'.getD 5 pU], [], h) Q := fun us' s' e => by subst e; exact kk us'
    unfold P_X12_findPlacing_60 at hP
    obtain ⟨q48, o49⟩ := hP hc
    show WP 202 (60, [(14, 248), us.getD 0 pU, (0, x2), (0, x3), (0, x4), (1, x5), pU, (0, x7), us.getD 1 pU, us.getD 2 pU, us.getD 3 pU, us.getD 4 pU, us.getD 5 pU], [], h) Q
    refine WP.iload rfl rfl ?_
    refine WP.i2l rfl ?_
    refine WP.aload_n rfl rfl ⟨by decide, by decide⟩ ?_
    refine WP.getRF (b := 249) rfl rfl rfl ?_
    refine WP.bipush rfl ?_
    refine WP.laload rfl ⟨by decide, by decide, by decide⟩ (by decide) ?_
    refine WP.lcmp rfl ?_
    refine WP.nl_ge rfl (fun c19 => ?_) (fun c19 => ?_)
    · exact absurd hc (Int.not_lt.mpr c19)
    · refine WP.iload_n rfl rfl ?_
      refine WP.iload rfl rfl ?_
      refine WP.ishr rfl ?_
      refine WP.iconst rfl ?_
      refine WP.iand rfl ?_
      have k20 : ∀ Q' : Option pV → pH → Prop, (∀ us47 : List pV, WP 202 (140, [(14, 248), us.getD 0 pU, (0, x2), (0, x3), (0, s_X12_findPlacing_4 x2 x3 x4 x5 x7 h), (1, s_X12_findPlacing_5 x2 x3 x4 x5 x7 h), pU, (0, x7), us47.getD 0 pU, us47.getD 1 pU, us47.getD 2 pU, us47.getD 3 pU, us47.getD 4 pU], [], h) Q') → WP 202 (73, [(14, 248), us.getD 0 pU, (0, x2), (0, x3), (0, x4), (1, x5), pU, (0, x7), us.getD 1 pU, us.getD 2 pU, us.getD 3 pU, us.getD 4 pU, us.getD 5 pU], [(0, pm_and (pm_shr x3 x7) 1)], h) Q' := fun Q' kk => by
        have q46 := q48
        refine WP.nz_ne rfl (fun c21 => ?_) (fun c21 => ?_)
        · have e := kk [us.getD 1 pU, us.getD 2 pU, us.getD 3 pU, us.getD 4 pU, us.getD 5 pU]; simp only [s_X12_findPlacing_4, s_X12_findPlacing_5, if_neg (c21)] at e ⊢; exact e
        · obtain ⟨o22, o23, q45⟩ := q46 c21
          refine WP.aload_n rfl rfl ⟨by decide, by decide⟩ ?_
          refine WP.iload rfl rfl ?_
          refine WP.aload_n rfl rfl ⟨by decide, by decide⟩ ?_
          refine WP.getRF (b := 267) rfl rfl rfl ?_
          refine WP.iload_n rfl rfl ?_
          refine WP.iaload rfl ⟨by decide, by decide, by decide⟩ o22 ?_
          refine WP.callF (c_X12_mayHave x7 (h 267 x2) h o23) rfl rfl (pm_cok rfl rfl (Or.inr ⟨_, _, rfl⟩) rfl rfl) rfl rfl ?_
          show WP 202 (81, [(14, 248), us.getD 0 pU, (0, x2), (0, x3), (0, x4), (1, x5), pU, (0, x7), us.getD 1 pU, us.getD 2 pU, us.getD 3 pU, us.getD 4 pU, us.getD 5 pU], [(0, if h 249 (134 + x7) = 0 ∧ (h 249 (144 + x7) = 0 ∧ (h 249 (280 + (h 267 x2)) = (-1) ∨ h 249 (280 + (h 267 x2)) = x7)) then 1 else 0)], h) Q'
          refine WP.nb_eq rfl (fun c24 => ?_) (fun c24 => ?_)
          · have e := kk [us.getD 1 pU, us.getD 2 pU, us.getD 3 pU, us.getD 4 pU, us.getD 5 pU]; simp only [s_X12_findPlacing_4, s_X12_findPlacing_5, if_pos c21, if_neg (c24)] at e ⊢; exact e
          · obtain ⟨o25, o26, o27, o28, o29, o30, o31, o32, o33⟩ := q45 c24
            refine WP.sipush rfl ?_
            refine WP.iload_n rfl rfl ?_
            refine WP.iconst rfl ?_
            refine WP.iaddE rfl o25 ?_
            refine WP.imulE rfl o26 ?_
            refine WP.iload_n rfl rfl ?_
            refine WP.iconst rfl ?_
            refine WP.iload rfl rfl ?_
            refine WP.ishl rfl ?_
            refine WP.ior rfl ?_
            refine WP.iaddE rfl o27 ?_
            refine WP.istore (L' := [(14, 248), us.getD 0 pU, (0, x2), (0, x3), (0, x4), (1, x5), pU, (0, x7), (0, (1024 * (x2 + 1)) + (pm_or x3 (pm_shl 1 x7))), us.getD 2 pU, us.getD 3 pU, us.getD 4 pU, us.getD 5 pU]) rfl rfl ?_
            refine WP.aload_n rfl rfl ⟨by decide, by decide⟩ ?_
            refine WP.getRF (b := 265) rfl rfl rfl ?_
            refine WP.iload rfl rfl ?_
            refine WP.iaload rfl ⟨by decide, by decide, by decide⟩ o28 ?_
            refine WP.iconst rfl ?_
            refine WP.iaddE rfl o29 ?_
            refine WP.istore (L' := [(14, 248), us.getD 0 pU, (0, x2), (0, x3), (0, x4), (1, x5), pU, (0, x7), (0, (1024 * (x2 + 1)) + (pm_or x3 (pm_shl 1 x7))), (0, (h 265 ((1024 * (x2 + 1)) + (pm_or x3 (pm_shl 1 x7)))) + 1), us.getD 3 pU, us.getD 4 pU, us.getD 5 pU]) rfl rfl ?_
            refine WP.aload_n rfl rfl ⟨by decide, by decide⟩ ?_
            refine WP.getRF (b := 266) rfl rfl rfl ?_
            refine WP.iload rfl rfl ?_
            refine WP.laload rfl ⟨by decide, by decide, by decide⟩ o28 ?_
            refine WP.aload_n rfl rfl ⟨by decide, by decide⟩ ?_
            refine WP.aload_n rfl rfl ⟨by decide, by decide⟩ ?_
            refine WP.bipush rfl ?_
            refine WP.iload rfl rfl ?_
            refine WP.iaddE rfl o30 ?_
            refine WP.callF (c_X12_at (84 + x7) h o31) rfl rfl (pm_cok rfl rfl (Or.inr ⟨_, _, rfl⟩) rfl rfl) rfl rfl ?_
            show WP 202 (111, [(14, 248), us.getD 0 pU, (0, x2), (0, x3), (0, x4), (1, x5), pU, (0, x7), (0, (1024 * (x2 + 1)) + (pm_or x3 (pm_shl 1 x7))), (0, (h 265 ((1024 * (x2 + 1)) + (pm_or x3 (pm_shl 1 x7)))) + 1), us.getD 3 pU, us.getD 4 pU, us.getD 5 pU], [(0, h 249 (84 + x7)), (14, 248), (1, h 266 ((1024 * (x2 + 1)) + (pm_or x3 (pm_shl 1 x7))))], h) Q'
            refine WP.callF (c_X12_gauge (h 249 (84 + x7)) h o32) rfl rfl (pm_cok rfl rfl (Or.inr ⟨_, _, rfl⟩) rfl rfl) rfl rfl ?_
            show WP 202 (112, [(14, 248), us.getD 0 pU, (0, x2), (0, x3), (0, x4), (1, x5), pU, (0, x7), (0, (1024 * (x2 + 1)) + (pm_or x3 (pm_shl 1 x7))), (0, (h 265 ((1024 * (x2 + 1)) + (pm_or x3 (pm_shl 1 x7)))) + 1), us.getD 3 pU, us.getD 4 pU, us.getD 5 pU], [(1, s_X12_gauge_1 (h 249 (84 + x7)) h), (1, h 266 ((1024 * (x2 + 1)) + (pm_or x3 (pm_shl 1 x7))))], h) Q'
            refine WP.laddE rfl o33 ?_
            refine WP.lstore (L' := [(14, 248), us.getD 0 pU, (0, x2), (0, x3), (0, x4), (1, x5), pU, (0, x7), (0, (1024 * (x2 + 1)) + (pm_or x3 (pm_shl 1 x7))), (0, (h 265 ((1024 * (x2 + 1)) + (pm_or x3 (pm_shl 1 x7)))) + 1), (1, (h 266 ((1024 * (x2 + 1)) + (pm_or x3 (pm_shl 1 x7)))) + (s_X12_gauge_1 (h 249 (84 + x7)) h)), pU, us.getD 5 pU]) rfl rfl ?_
            refine WP.iload rfl rfl ?_
            refine WP.iload rfl rfl ?_
            have k34 : ∀ Q' : Option pV → pH → Prop, (WP 202 (127, [(14, 248), us.getD 0 pU, (0, x2), (0, x3), (0, x4), (1, x5), pU, (0, x7), (0, (1024 * (x2 + 1)) + (pm_or x3 (pm_shl 1 x7))), (0, (h 265 ((1024 * (x2 + 1)) + (pm_or x3 (pm_shl 1 x7)))) + 1), (1, (h 266 ((1024 * (x2 + 1)) + (pm_or x3 (pm_shl 1 x7)))) + (s_X12_gauge_1 (h 249 (84 + x7)) h)), pU, us.getD 5 pU], [(0, if x4 < (h 265 ((1024 * (x2 + 1)) + (pm_or x3 (pm_shl 1 x7)))) + 1 ∨ ((h 265 ((1024 * (x2 + 1)) + (pm_or x3 (pm_shl 1 x7)))) + 1 = x4 ∧ (h 266 ((1024 * (x2 + 1)) + (pm_or x3 (pm_shl 1 x7)))) + (s_X12_gauge_1 (h 249 (84 + x7)) h) < x5) then 1 else 0)], h) Q') → WP 202 (116, [(14, 248), us.getD 0 pU, (0, x2), (0, x3), (0, x4), (1, x5), pU, (0, x7), (0, (1024 * (x2 + 1)) + (pm_or x3 (pm_shl 1 x7))), (0, (h 265 ((1024 * (x2 + 1)) + (pm_or x3 (pm_shl 1 x7)))) + 1), (1, (h 266 ((1024 * (x2 + 1)) + (pm_or x3 (pm_shl 1 x7)))) + (s_X12_gauge_1 (h 249 (84 + x7)) h)), pU, us.getD 5 pU], [(0, x4), (0, (h 265 ((1024 * (x2 + 1)) + (pm_or x3 (pm_shl 1 x7)))) + 1)], h) Q' := fun Q' kk => by
              refine WP.ni_gt rfl (fun c35 => ?_) (fun c35 => ?_)
              · refine WP.iconst rfl ?_
                refine WP.goto rfl ?_
                have e := kk; simp only [if_pos c35, if_pos (show x4 < (h 265 ((1024 * (x2 + 1)) + (pm_or x3 (pm_shl 1 x7)))) + 1 ∨ ((h 265 ((1024 * (x2 + 1)) + (pm_or x3 (pm_shl 1 x7)))) + 1 = x4 ∧ (h 266 ((1024 * (x2 + 1)) + (pm_or x3 (pm_shl 1 x7)))) + (s_X12_gauge_1 (h 249 (84 + x7)) h) < x5) from Or.inl c35)] at e ⊢; exact e
              · refine WP.iload rfl rfl ?_
                refine WP.iload rfl rfl ?_
                refine WP.ni_ne rfl (fun c36 => ?_) (fun c36 => ?_)
                · refine WP.iconst rfl ?_
                  have e := kk; simp only [if_neg (Int.not_lt.mpr c35), if_neg (c36), if_neg (show ¬ (x4 < (h 265 ((1024 * (x2 + 1)) + (pm_or x3 (pm_shl 1 x7)))) + 1 ∨ ((h 265 ((1024 * (x2 + 1)) + (pm_or x3 (pm_shl 1 x7)))) + 1 = x4 ∧ (h 266 ((1024 * (x2 + 1)) + (pm_or x3 (pm_shl 1 x7)))) + (s_X12_gauge_1 (h 249 (84 + x7)) h) < x5)) from fun q => q.elim (Int.not_lt.mpr c35) (fun q => (c36) q.1))] at e ⊢; exact e
                · refine WP.lload rfl rfl ?_
                  refine WP.lload rfl rfl ?_
                  refine WP.lcmp rfl ?_
                  refine WP.nl_ge rfl (fun c37 => ?_) (fun c37 => ?_)
                  · refine WP.iconst rfl ?_
                    have e := kk; simp only [if_neg (Int.not_lt.mpr c35), if_pos c36, if_pos c37, if_neg (show ¬ (x4 < (h 265 ((1024 * (x2 + 1)) + (pm_or x3 (pm_shl 1 x7)))) + 1 ∨ ((h 265 ((1024 * (x2 + 1)) + (pm_or x3 (pm_shl 1 x7)))) + 1 = x4 ∧ (h 266 ((1024 * (x2 + 1)) + (pm_or x3 (pm_shl 1 x7)))) + (s_X12_gauge_1 (h 249 (84 + x7)) h) < x5)) from fun q => q.elim (Int.not_lt.mpr c35) (fun q => (Int.not_lt.mpr c37) q.2))] at e ⊢; exact e
                  · refine WP.iconst rfl ?_
                    refine WP.goto rfl ?_
                    have e := kk; simp only [if_neg (Int.not_lt.mpr c35), if_pos c36, if_neg (Int.not_le.mpr c37), if_pos (show x4 < (h 265 ((1024 * (x2 + 1)) + (pm_or x3 (pm_shl 1 x7)))) + 1 ∨ ((h 265 ((1024 * (x2 + 1)) + (pm_or x3 (pm_shl 1 x7)))) + 1 = x4 ∧ (h 266 ((1024 * (x2 + 1)) + (pm_or x3 (pm_shl 1 x7)))) + (s_X12_gauge_1 (h 249 (84 + x7)) h) < x5) from Or.inr ⟨c36, c37⟩)] at e ⊢; exact e
            refine k34 _ ?_
            refine WP.istore (L' := [(14, 248), us.getD 0 pU, (0, x2), (0, x3), (0, x4), (1, x5), pU, (0, x7), (0, (1024 * (x2 + 1)) + (pm_or x3 (pm_shl 1 x7))), (0, (h 265 ((1024 * (x2 + 1)) + (pm_or x3 (pm_shl 1 x7)))) + 1), (1, (h 266 ((1024 * (x2 + 1)) + (pm_or x3 (pm_shl 1 x7)))) + (s_X12_gauge_1 (h 249 (84 + x7)) h)), pU, (0, if x4 < (h 265 ((1024 * (x2 + 1)) + (pm_or x3 (pm_shl 1 x7)))) + 1 ∨ ((h 265 ((1024 * (x2 + 1)) + (pm_or x3 (pm_shl 1 x7)))) + 1 = x4 ∧ (h 266 ((1024 * (x2 + 1)) + (pm_or x3 (pm_shl 1 x7)))) + (s_X12_gauge_1 (h 249 (84 + x7)) h) < x5) then 1 else 0)]) rfl rfl ?_
            refine WP.iload rfl rfl ?_
            have k39 : ∀ Q' : Option pV → pH → Prop, (WP 202 (133, [(14, 248), us.getD 0 pU, (0, x2), (0, x3), (0, x4), (1, x5), pU, (0, x7), (0, (1024 * (x2 + 1)) + (pm_or x3 (pm_shl 1 x7))), (0, (h 265 ((1024 * (x2 + 1)) + (pm_or x3 (pm_shl 1 x7)))) + 1), (1, (h 266 ((1024 * (x2 + 1)) + (pm_or x3 (pm_shl 1 x7)))) + (s_X12_gauge_1 (h 249 (84 + x7)) h)), pU, (0, if x4 < (h 265 ((1024 * (x2 + 1)) + (pm_or x3 (pm_shl 1 x7)))) + 1 ∨ ((h 265 ((1024 * (x2 + 1)) + (pm_or x3 (pm_shl 1 x7)))) + 1 = x4 ∧ (h 266 ((1024 * (x2 + 1)) + (pm_or x3 (pm_shl 1 x7)))) + (s_X12_gauge_1 (h 249 (84 + x7)) h) < x5) then 1 else 0)], [(0, s_X12_findPlacing_2 x2 x3 x4 x5 x7 h)], h) Q') → WP 202 (129, [(14, 248), us.getD 0 pU, (0, x2), (0, x3), (0, x4), (1, x5), pU, (0, x7), (0, (1024 * (x2 + 1)) + (pm_or x3 (pm_shl 1 x7))), (0, (h 265 ((1024 * (x2 + 1)) + (pm_or x3 (pm_shl 1 x7)))) + 1), (1, (h 266 ((1024 * (x2 + 1)) + (pm_or x3 (pm_shl 1 x7)))) + (s_X12_gauge_1 (h 249 (84 + x7)) h)), pU, (0, if x4 < (h 265 ((1024 * (x2 + 1)) + (pm_or x3 (pm_shl 1 x7)))) + 1 ∨ ((h 265 ((1024 * (x2 + 1)) + (pm_or x3 (pm_shl 1 x7)))) + 1 = x4 ∧ (h 266 ((1024 * (x2 + 1)) + (pm_or x3 (pm_shl 1 x7)))) + (s_X12_gauge_1 (h 249 (84 + x7)) h) < x5) then 1 else 0)], [(0, if x4 < (h 265 ((1024 * (x2 + 1)) + (pm_or x3 (pm_shl 1 x7)))) + 1 ∨ ((h 265 ((1024 * (x2 + 1)) + (pm_or x3 (pm_shl 1 x7)))) + 1 = x4 ∧ (h 266 ((1024 * (x2 + 1)) + (pm_or x3 (pm_shl 1 x7)))) + (s_X12_gauge_1 (h 249 (84 + x7)) h) < x5) then 1 else 0)], h) Q' := fun Q' kk => by
              refine WP.nb_eq rfl (fun c40 => ?_) (fun c40 => ?_)
              · refine WP.iload rfl rfl ?_
                have e := kk; simp only [s_X12_findPlacing_2, if_neg (c40)] at e ⊢; exact e
              · refine WP.iload rfl rfl ?_
                refine WP.goto rfl ?_
                have e := kk; simp only [s_X12_findPlacing_2, if_pos c40] at e ⊢; exact e
            refine k39 _ ?_
            refine WP.istore (L' := [(14, 248), us.getD 0 pU, (0, x2), (0, x3), (0, s_X12_findPlacing_2 x2 x3 x4 x5 x7 h), (1, x5), pU, (0, x7), (0, (1024 * (x2 + 1)) + (pm_or x3 (pm_shl 1 x7))), (0, (h 265 ((1024 * (x2 + 1)) + (pm_or x3 (pm_shl 1 x7)))) + 1), (1, (h 266 ((1024 * (x2 + 1)) + (pm_or x3 (pm_shl 1 x7)))) + (s_X12_gauge_1 (h 249 (84 + x7)) h)), pU, (0, if x4 < (h 265 ((1024 * (x2 + 1)) + (pm_or x3 (pm_shl 1 x7)))) + 1 ∨ ((h 265 ((1024 * (x2 + 1)) + (pm_or x3 (pm_shl 1 x7)))) + 1 = x4 ∧ (h 266 ((1024 * (x2 + 1)) + (pm_or x3 (pm_shl 1 x7)))) + (s_X12_gauge_1 (h 249 (84 + x7)) h) < x5) then 1 else 0)]) rfl rfl ?_
            refine WP.iload rfl rfl ?_
            have k42 : ∀ Q' : Option pV → pH → Prop, (WP 202 (139, [(14, 248), us.getD 0 pU, (0, x2), (0, x3), (0, s_X12_findPlacing_2 x2 x3 x4 x5 x7 h), (1, x5), pU, (0, x7), (0, (1024 * (x2 + 1)) + (pm_or x3 (pm_shl 1 x7))), (0, (h 265 ((1024 * (x2 + 1)) + (pm_or x3 (pm_shl 1 x7)))) + 1), (1, (h 266 ((1024 * (x2 + 1)) + (pm_or x3 (pm_shl 1 x7)))) + (s_X12_gauge_1 (h 249 (84 + x7)) h)), pU, (0, if x4 < (h 265 ((1024 * (x2 + 1)) + (pm_or x3 (pm_shl 1 x7)))) + 1 ∨ ((h 265 ((1024 * (x2 + 1)) + (pm_or x3 (pm_shl 1 x7)))) + 1 = x4 ∧ (h 266 ((1024 * (x2 + 1)) + (pm_or x3 (pm_shl 1 x7)))) + (s_X12_gauge_1 (h 249 (84 + x7)) h) < x5) then 1 else 0)], [(1, s_X12_findPlacing_3 x2 x3 x4 x5 x7 h)], h) Q') → WP 202 (135, [(14, 248), us.getD 0 pU, (0, x2), (0, x3), (0, s_X12_findPlacing_2 x2 x3 x4 x5 x7 h), (1, x5), pU, (0, x7), (0, (1024 * (x2 + 1)) + (pm_or x3 (pm_shl 1 x7))), (0, (h 265 ((1024 * (x2 + 1)) + (pm_or x3 (pm_shl 1 x7)))) + 1), (1, (h 266 ((1024 * (x2 + 1)) + (pm_or x3 (pm_shl 1 x7)))) + (s_X12_gauge_1 (h 249 (84 + x7)) h)), pU, (0, if x4 < (h 265 ((1024 * (x2 + 1)) + (pm_or x3 (pm_shl 1 x7)))) + 1 ∨ ((h 265 ((1024 * (x2 + 1)) + (pm_or x3 (pm_shl 1 x7)))) + 1 = x4 ∧ (h 266 ((1024 * (x2 + 1)) + (pm_or x3 (pm_shl 1 x7)))) + (s_X12_gauge_1 (h 249 (84 + x7)) h) < x5) then 1 else 0)], [(0, if x4 < (h 265 ((1024 * (x2 + 1)) + (pm_or x3 (pm_shl 1 x7)))) + 1 ∨ ((h 265 ((1024 * (x2 + 1)) + (pm_or x3 (pm_shl 1 x7)))) + 1 = x4 ∧ (h 266 ((1024 * (x2 + 1)) + (pm_or x3 (pm_shl 1 x7)))) + (s_X12_gauge_1 (h 249 (84 + x7)) h) < x5) then 1 else 0)], h) Q' := fun Q' kk => by
              refine WP.nb_eq rfl (fun c43 => ?_) (fun c43 => ?_)
              · refine WP.lload rfl rfl ?_
                have e := kk; simp only [s_X12_findPlacing_3, if_neg (c43)] at e ⊢; exact e
              · refine WP.lload rfl rfl ?_
                refine WP.goto rfl ?_
                have e := kk; simp only [s_X12_findPlacing_3, if_pos c43] at e ⊢; exact e
            refine k42 _ ?_
            refine WP.lstore (L' := [(14, 248), us.getD 0 pU, (0, x2), (0, x3), (0, s_X12_findPlacing_2 x2 x3 x4 x5 x7 h), (1, s_X12_findPlacing_3 x2 x3 x4 x5 x7 h), pU, (0, x7), (0, (1024 * (x2 + 1)) + (pm_or x3 (pm_shl 1 x7))), (0, (h 265 ((1024 * (x2 + 1)) + (pm_or x3 (pm_shl 1 x7)))) + 1), (1, (h 266 ((1024 * (x2 + 1)) + (pm_or x3 (pm_shl 1 x7)))) + (s_X12_gauge_1 (h 249 (84 + x7)) h)), pU, (0, if x4 < (h 265 ((1024 * (x2 + 1)) + (pm_or x3 (pm_shl 1 x7)))) + 1 ∨ ((h 265 ((1024 * (x2 + 1)) + (pm_or x3 (pm_shl 1 x7)))) + 1 = x4 ∧ (h 266 ((1024 * (x2 + 1)) + (pm_or x3 (pm_shl 1 x7)))) + (s_X12_gauge_1 (h 249 (84 + x7)) h) < x5) then 1 else 0)]) rfl rfl ?_
            have e := kk [(0, (1024 * (x2 + 1)) + (pm_or x3 (pm_shl 1 x7))), (0, (h 265 ((1024 * (x2 + 1)) + (pm_or x3 (pm_shl 1 x7)))) + 1), (1, (h 266 ((1024 * (x2 + 1)) + (pm_or x3 (pm_shl 1 x7)))) + (s_X12_gauge_1 (h 249 (84 + x7)) h)), pU, (0, if x4 < (h 265 ((1024 * (x2 + 1)) + (pm_or x3 (pm_shl 1 x7)))) + 1 ∨ ((h 265 ((1024 * (x2 + 1)) + (pm_or x3 (pm_shl 1 x7)))) + 1 = x4 ∧ (h 266 ((1024 * (x2 + 1)) + (pm_or x3 (pm_shl 1 x7)))) + (s_X12_gauge_1 (h 249 (84 + x7)) h) < x5) then 1 else 0)]; simp only [s_X12_findPlacing_4, s_X12_findPlacing_5, if_pos c21, if_pos c24] at e ⊢; exact e
      refine k20 _ (fun us47 => ?_)
      refine WP.iincE (L' := [(14, 248), us.getD 0 pU, (0, x2), (0, x3), (0, s_X12_findPlacing_4 x2 x3 x4 x5 x7 h), (1, s_X12_findPlacing_5 x2 x3 x4 x5 x7 h), pU, (0, x7 + 1), us47.getD 0 pU, us47.getD 1 pU, us47.getD 2 pU, us47.getD 3 pU, us47.getD 4 pU]) rfl rfl o49 rfl ?_
      refine WP.goto rfl ?_
      exact kk [us.getD 0 pU, us47.getD 0 pU, us47.getD 1 pU, us47.getD 2 pU, us47.getD 3 pU, us47.getD 4 pU] (s_X12_findPlacing_4 x2 x3 x4 x5 x7 h, s_X12_findPlacing_5 x2 x3 x4 x5 x7 h, x7 + 1) (rfl)
  · intro hP hc
    generalize hs : (L_X12_findPlacing_60 x2 x3 h x4 x5 x7 : Int × Int × Int) = s at kk
    change P_X12_findPlacing_60 x2 x3 h (L_X12_findPlacing_60 x2 x3 h x4 x5 x7).1 (L_X12_findPlacing_60 x2 x3 h x4 x5 x7).2.1 (L_X12_findPlacing_60 x2 x3 h x4 x5 x7).2.2 at hP
    change ¬ C_X12_findPlacing_60 x2 x3 h (L_X12_findPlacing_60 x2 x3 h x4 x5 x7).1 (L_X12_findPlacing_60 x2 x3 h x4 x5 x7).2.1 (L_X12_findPlacing_60 x2 x3 h x4 x5 x7).2.2 at hc
    intro us
    show WP 202 (60, [(14, 248), us.getD 0 pU, (0, x2), (0, x3), (0, (L_X12_findPlacing_60 x2 x3 h x4 x5 x7).1), (1, (L_X12_findPlacing_60 x2 x3 h x4 x5 x7).2.1), pU, (0, (L_X12_findPlacing_60 x2 x3 h x4 x5 x7).2.2), us.getD 1 pU, us.getD 2 pU, us.getD 3 pU, us.getD 4 pU, us.getD 5 pU], [], h) Q
    rw [hs] at hP hc ⊢
    obtain ⟨x4, x5, x7⟩ := s
    change P_X12_findPlacing_60 x2 x3 h x4 x5 x7 at hP
    change ¬ (x7 < h 249 12) at hc
    unfold P_X12_findPlacing_60 at hP
    show WP 202 (60, [(14, 248), us.getD 0 pU, (0, x2), (0, x3), (0, x4), (1, x5), pU, (0, x7), us.getD 1 pU, us.getD 2 pU, us.getD 3 pU, us.getD 4 pU, us.getD 5 pU], [], h) Q
    refine WP.iload rfl rfl ?_
    refine WP.i2l rfl ?_
    refine WP.aload_n rfl rfl ⟨by decide, by decide⟩ ?_
    refine WP.getRF (b := 249) rfl rfl rfl ?_
    refine WP.bipush rfl ?_
    refine WP.laload rfl ⟨by decide, by decide, by decide⟩ (by decide) ?_
    refine WP.lcmp rfl ?_
    refine WP.nl_ge rfl (fun c18 => ?_) (fun c18 => ?_)
    · exact kk [us.getD 0 pU, us.getD 1 pU, us.getD 2 pU, us.getD 3 pU, us.getD 4 pU, us.getD 5 pU]
    · exact absurd (show x7 < h 249 12 from c18) hc
noncomputable def s_X12_findPlacing_6 (x2 : Int) (x3 : Int) (h : pH) : Int := (L_X12_findPlacing_60 x2 x3 h (h 265 ((1024 * (x2 + 1)) + x3)) (h 266 ((1024 * (x2 + 1)) + x3)) 0).1
noncomputable def s_X12_findPlacing_7 (x2 : Int) (x3 : Int) (h : pH) : Int := (L_X12_findPlacing_60 x2 x3 h (h 265 ((1024 * (x2 + 1)) + x3)) (h 266 ((1024 * (x2 + 1)) + x3)) 0).2.1
noncomputable def s_X12_findPlacing_8 (x2 : Int) (x3 : Int) (h : pH) : Int := (L_X12_findPlacing_60 x2 x3 h (h 265 ((1024 * (x2 + 1)) + x3)) (h 266 ((1024 * (x2 + 1)) + x3)) 0).2.2
noncomputable def s_X12_findPlacing_9 (x2 : Int) (x3 : Int) (h : pH) : pH := pm_upd h 265 ((1024 * x2) + x3) (s_X12_findPlacing_6 x2 x3 h)
noncomputable def s_X12_findPlacing_10 (x2 : Int) (x3 : Int) (h : pH) : pH := pm_upd (s_X12_findPlacing_9 x2 x3 h) 266 ((1024 * x2) + x3) (s_X12_findPlacing_7 x2 x3 h)
def C_X12_findPlacing_33 (x2 : Int) (x3 : Int) (h : pH) : Prop := x3 < 1024
noncomputable def B_X12_findPlacing_33 (x2 : Int) (x3 : Int) (h : pH) : Int × pH := (x3 + 1, s_X12_findPlacing_10 x2 x3 h)
noncomputable def P_X12_findPlacing_33 (x2 : Int) (x3 : Int) (h : pH) : Prop := ((x3 < 1024) → (fx_i (x2 + 1)) ∧ (fx_i (1024 * (x2 + 1))) ∧ (fx_i ((1024 * (x2 + 1)) + x3)) ∧ (0 ≤ (1024 * (x2 + 1)) + x3 ∧ (1024 * (x2 + 1)) + x3 < 9216) ∧ (O_X12_findPlacing_60 x2 x3 h (h 265 ((1024 * (x2 + 1)) + x3)) (h 266 ((1024 * (x2 + 1)) + x3)) 0) ∧ (fx_i (1024 * x2)) ∧ (fx_i ((1024 * x2) + x3)) ∧ (0 ≤ (1024 * x2) + x3 ∧ (1024 * x2) + x3 < 9216) ∧ (fx_i (x3 + 1)))
noncomputable def L_X12_findPlacing_33 (x2 : Int) (x3 : Int) (h : pH) : Int × pH := fx_wh (σ := Int × pH) (fun s => C_X12_findPlacing_33 x2 s.1 s.2) (fun s => B_X12_findPlacing_33 x2 s.1 s.2) (x3, h)
def O_X12_findPlacing_33 (x2 : Int) (x3 : Int) (h : pH) : Prop := fx_ok (σ := Int × pH) (fun s => C_X12_findPlacing_33 x2 s.1 s.2) (fun s => B_X12_findPlacing_33 x2 s.1 s.2) (fun s => P_X12_findPlacing_33 x2 s.1 s.2) (x3, h)
set_option maxHeartbeats 4000000 in
theorem lp_X12_findPlacing_33 (x2 : Int) (x3 : Int) (h : pH) {Q : Option pV → pH → Prop} (hp : O_X12_findPlacing_33 x2 x3 h) (kk : ∀ us : List pV, WP 202 (162, [(14, 248), us.getD 0 pU, (0, x2), (0, (L_X12_findPlacing_33 x2 x3 h).1), us.getD 1 pU, us.getD 2 pU, us.getD 3 pU, us.getD 4 pU, us.getD 5 pU, us.getD 6 pU, us.getD 7 pU, us.getD 8 pU, us.getD 9 pU], [], (L_X12_findPlacing_33 x2 x3 h).2) Q) : ∀ us : List pV, WP 202 (33, [(14, 248), us.getD 0 pU, (0, x2), (0, x3), us.getD 1 pU, us.getD 2 pU, us.getD 3 pU, us.getD 4 pU, us.getD 5 pU, us.getD 6 pU, us.getD 7 pU, us.getD 8 pU, us.getD 9 pU], [], h) Q := by
  refine WP.wh (σ := Int × pH) (fun s => C_X12_findPlacing_33 x2 s.1 s.2) (fun s => B_X12_findPlacing_33 x2 s.1 s.2) (fun s => P_X12_findPlacing_33 x2 s.1 s.2) (fun s us => (33, [(14, 248), us.getD 0 pU, (0, x2), (0, s.1), us.getD 1 pU, us.getD 2 pU, us.getD 3 pU, us.getD 4 pU, us.getD 5 pU, us.getD 6 pU, us.getD 7 pU, us.getD 8 pU, us.getD 9 pU], [], s.2)) (x3, h) hp ?_ ?_
  · intro s us hP hc kk
    obtain ⟨x3, h⟩ := s
    change P_X12_findPlacing_33 x2 x3 h at hP
    change x3 < 1024 at hc
    replace kk : ∀ (us' : List pV) (s' : Int × pH), s' = B_X12_findPlacing_33 x2 x3 h → WP 202 (33, [(14, 248), us'.getD 0 pU, (0, x2), (0, s'.1), us'.getD 1 pU, us'.getD 2 pU, us'.getD 3 pU, us'.getD 4 pU, us'.getD 5 pU, us'.getD 6 pU, us'.getD 7 pU, us'.getD 8 pU, us'.getD 9 pU], [], s'.2) Q := fun us' s' e => by subst e; exact kk us'
    unfold P_X12_findPlacing_33 at hP
    obtain ⟨o14, o15, o16, o17, o50, o52, o53, o54, o55⟩ := hP hc
    show WP 202 (33, [(14, 248), us.getD 0 pU, (0, x2), (0, x3), us.getD 1 pU, us.getD 2 pU, us.getD 3 pU, us.getD 4 pU, us.getD 5 pU, us.getD 6 pU, us.getD 7 pU, us.getD 8 pU, us.getD 9 pU], [], h) Q
    refine WP.iload_n rfl rfl ?_
    refine WP.sipush rfl ?_
    refine WP.ni_ge rfl (fun c13 => ?_) (fun c13 => ?_)
    · exact absurd hc (Int.not_lt.mpr c13)
    · refine WP.aload_n rfl rfl ⟨by decide, by decide⟩ ?_
      refine WP.getRF (b := 265) rfl rfl rfl ?_
      refine WP.sipush rfl ?_
      refine WP.iload_n rfl rfl ?_
      refine WP.iconst rfl ?_
      refine WP.iaddE rfl o14 ?_
      refine WP.imulE rfl o15 ?_
      refine WP.iload_n rfl rfl ?_
      refine WP.iaddE rfl o16 ?_
      refine WP.iaload rfl ⟨by decide, by decide, by decide⟩ o17 ?_
      refine WP.istore (L' := [(14, 248), us.getD 0 pU, (0, x2), (0, x3), (0, h 265 ((1024 * (x2 + 1)) + x3)), us.getD 2 pU, us.getD 3 pU, us.getD 4 pU, us.getD 5 pU, us.getD 6 pU, us.getD 7 pU, us.getD 8 pU, us.getD 9 pU]) rfl rfl ?_
      refine WP.aload_n rfl rfl ⟨by decide, by decide⟩ ?_
      refine WP.getRF (b := 266) rfl rfl rfl ?_
      refine WP.sipush rfl ?_
      refine WP.iload_n rfl rfl ?_
      refine WP.iconst rfl ?_
      refine WP.iaddE rfl o14 ?_
      refine WP.imulE rfl o15 ?_
      refine WP.iload_n rfl rfl ?_
      refine WP.iaddE rfl o16 ?_
      refine WP.laload rfl ⟨by decide, by decide, by decide⟩ o17 ?_
      refine WP.lstore (L' := [(14, 248), us.getD 0 pU, (0, x2), (0, x3), (0, h 265 ((1024 * (x2 + 1)) + x3)), (1, h 266 ((1024 * (x2 + 1)) + x3)), pU, us.getD 4 pU, us.getD 5 pU, us.getD 6 pU, us.getD 7 pU, us.getD 8 pU, us.getD 9 pU]) rfl rfl ?_
      refine WP.iconst rfl ?_
      refine WP.istore (L' := [(14, 248), us.getD 0 pU, (0, x2), (0, x3), (0, h 265 ((1024 * (x2 + 1)) + x3)), (1, h 266 ((1024 * (x2 + 1)) + x3)), pU, (0, 0), us.getD 5 pU, us.getD 6 pU, us.getD 7 pU, us.getD 8 pU, us.getD 9 pU]) rfl rfl ?_
      refine lp_X12_findPlacing_60 x2 x3 h (h 265 ((1024 * (x2 + 1)) + x3)) (h 266 ((1024 * (x2 + 1)) + x3)) 0 o50 (fun us51 => ?_) [us.getD 0 pU, us.getD 5 pU, us.getD 6 pU, us.getD 7 pU, us.getD 8 pU, us.getD 9 pU]
      show WP 202 (142, [(14, 248), us51.getD 0 pU, (0, x2), (0, x3), (0, s_X12_findPlacing_6 x2 x3 h), (1, s_X12_findPlacing_7 x2 x3 h), pU, (0, s_X12_findPlacing_8 x2 x3 h), us51.getD 1 pU, us51.getD 2 pU, us51.getD 3 pU, us51.getD 4 pU, us51.getD 5 pU], [], h) Q
      refine WP.aload_n rfl rfl ⟨by decide, by decide⟩ ?_
      refine WP.getRF (b := 265) rfl rfl rfl ?_
      refine WP.sipush rfl ?_
      refine WP.iload_n rfl rfl ?_
      refine WP.imulE rfl o52 ?_
      refine WP.iload_n rfl rfl ?_
      refine WP.iaddE rfl o53 ?_
      refine WP.iload rfl rfl ?_
      refine WP.iastore rfl ⟨by decide, by decide, by decide⟩ o54 ?_
      show WP 202 (151, [(14, 248), us51.getD 0 pU, (0, x2), (0, x3), (0, s_X12_findPlacing_6 x2 x3 h), (1, s_X12_findPlacing_7 x2 x3 h), pU, (0, s_X12_findPlacing_8 x2 x3 h), us51.getD 1 pU, us51.getD 2 pU, us51.getD 3 pU, us51.getD 4 pU, us51.getD 5 pU], [], s_X12_findPlacing_9 x2 x3 h) Q
      refine WP.aload_n rfl rfl ⟨by decide, by decide⟩ ?_
      refine WP.getRF (b := 266) rfl rfl rfl ?_
      refine WP.sipush rfl ?_
      refine WP.iload_n rfl rfl ?_
      refine WP.imulE rfl o52 ?_
      refine WP.iload_n rfl rfl ?_
      refine WP.iaddE rfl o53 ?_
      refine WP.lload rfl rfl ?_
      refine WP.lastore rfl ⟨by decide, by decide, by decide⟩ o54 ?_
      show WP 202 (160, [(14, 248), us51.getD 0 pU, (0, x2), (0, x3), (0, s_X12_findPlacing_6 x2 x3 h), (1, s_X12_findPlacing_7 x2 x3 h), pU, (0, s_X12_findPlacing_8 x2 x3 h), us51.getD 1 pU, us51.getD 2 pU, us51.getD 3 pU, us51.getD 4 pU, us51.getD 5 pU], [], s_X12_findPlacing_10 x2 x3 h) Q
      refine WP.iincE (L' := [(14, 248), us51.getD 0 pU, (0, x2), (0, x3 + 1), (0, s_X12_findPlacing_6 x2 x3 h), (1, s_X12_findPlacing_7 x2 x3 h), pU, (0, s_X12_findPlacing_8 x2 x3 h), us51.getD 1 pU, us51.getD 2 pU, us51.getD 3 pU, us51.getD 4 pU, us51.getD 5 pU]) rfl rfl o55 rfl ?_
      refine WP.goto rfl ?_
      exact kk [us51.getD 0 pU, (0, s_X12_findPlacing_6 x2 x3 h), (1, s_X12_findPlacing_7 x2 x3 h), pU, (0, s_X12_findPlacing_8 x2 x3 h), us51.getD 1 pU, us51.getD 2 pU, us51.getD 3 pU, us51.getD 4 pU, us51.getD 5 pU] (x3 + 1, s_X12_findPlacing_10 x2 x3 h) (rfl)
  · intro hP hc
    generalize hs : (L_X12_findPlacing_33 x2 x3 h : Int × pH) = s at kk
    change P_X12_findPlacing_33 x2 (L_X12_findPlacing_33 x2 x3 h).1 (L_X12_findPlacing_33 x2 x3 h).2 at hP
    change ¬ C_X12_findPlacing_33 x2 (L_X12_findPlacing_33 x2 x3 h).1 (L_X12_findPlacing_33 x2 x3 h).2 at hc
    intro us
    show WP 202 (33, [(14, 248), us.getD 0 pU, (0, x2), (0, (L_X12_findPlacing_33 x2 x3 h).1), us.getD 1 pU, us.getD 2 pU, us.getD 3 pU, us.getD 4 pU, us.getD 5 pU, us.getD 6 pU, us.getD 7 pU, us.getD 8 pU, us.getD 9 pU], [], (L_X12_findPlacing_33 x2 x3 h).2) Q
    rw [hs] at hP hc ⊢
    obtain ⟨x3, h⟩ := s
    change P_X12_findPlacing_33 x2 x3 h at hP
    change ¬ (x3 < 1024) at hc
    unfold P_X12_findPlacing_33 at hP
    show WP 202 (33, [(14, 248), us.getD 0 pU, (0, x2), (0, x3), us.getD 1 pU, us.getD 2 pU, us.getD 3 pU, us.getD 4 pU, us.getD 5 pU, us.getD 6 pU, us.getD 7 pU, us.getD 8 pU, us.getD 9 pU], [], h) Q
    refine WP.iload_n rfl rfl ?_
    refine WP.sipush rfl ?_
    refine WP.ni_ge rfl (fun c12 => ?_) (fun c12 => ?_)
    · exact kk [us.getD 0 pU, us.getD 1 pU, us.getD 2 pU, us.getD 3 pU, us.getD 4 pU, us.getD 5 pU, us.getD 6 pU, us.getD 7 pU, us.getD 8 pU, us.getD 9 pU]
    · exact absurd (show x3 < 1024 from c12) hc
noncomputable def s_X12_findPlacing_11 (x2 : Int) (h : pH) : Int := (L_X12_findPlacing_33 x2 0 h).1
noncomputable def s_X12_findPlacing_12 (x2 : Int) (h : pH) : pH := (L_X12_findPlacing_33 x2 0 h).2
def C_X12_findPlacing_29 (x2 : Int) (h : pH) : Prop := 0 ≤ x2
noncomputable def B_X12_findPlacing_29 (x2 : Int) (h : pH) : Int × pH := (x2 + (-1), s_X12_findPlacing_12 x2 h)
noncomputable def P_X12_findPlacing_29 (x2 : Int) (h : pH) : Prop := ((0 ≤ x2) → O_X12_findPlacing_33 x2 0 h ∧ (fx_i (x2 + (-1))))
noncomputable def L_X12_findPlacing_29 (x2 : Int) (h : pH) : Int × pH := fx_wh (σ := Int × pH) (fun s => C_X12_findPlacing_29 s.1 s.2) (fun s => B_X12_findPlacing_29 s.1 s.2) (x2, h)
def O_X12_findPlacing_29 (x2 : Int) (h : pH) : Prop := fx_ok (σ := Int × pH) (fun s => C_X12_findPlacing_29 s.1 s.2) (fun s => B_X12_findPlacing_29 s.1 s.2) (fun s => P_X12_findPlacing_29 s.1 s.2) (x2, h)
set_option maxHeartbeats 4000000 in
theorem lp_X12_findPlacing_29 (x2 : Int) (h : pH) {Q : Option pV → pH → Prop} (hp : O_X12_findPlacing_29 x2 h) (kk : ∀ us : List pV, WP 202 (164, [(14, 248), us.getD 0 pU, (0, (L_X12_findPlacing_29 x2 h).1), us.getD 1 pU, us.getD 2 pU, us.getD 3 pU, us.getD 4 pU, us.getD 5 pU, us.getD 6 pU, us.getD 7 pU, us.getD 8 pU, us.getD 9 pU, us.getD 10 pU], [], (L_X12_findPlacing_29 x2 h).2) Q) : ∀ us : List pV, WP 202 (29, [(14, 248), us.getD 0 pU, (0, x2), us.getD 1 pU, us.getD 2 pU, us.getD 3 pU, us.getD 4 pU, us.getD 5 pU, us.getD 6 pU, us.getD 7 pU, us.getD 8 pU, us.getD 9 pU, us.getD 10 pU], [], h) Q := by
  refine WP.wh (σ := Int × pH) (fun s => C_X12_findPlacing_29 s.1 s.2) (fun s => B_X12_findPlacing_29 s.1 s.2) (fun s => P_X12_findPlacing_29 s.1 s.2) (fun s us => (29, [(14, 248), us.getD 0 pU, (0, s.1), us.getD 1 pU, us.getD 2 pU, us.getD 3 pU, us.getD 4 pU, us.getD 5 pU, us.getD 6 pU, us.getD 7 pU, us.getD 8 pU, us.getD 9 pU, us.getD 10 pU], [], s.2)) (x2, h) hp ?_ ?_
  · intro s us hP hc kk
    obtain ⟨x2, h⟩ := s
    change P_X12_findPlacing_29 x2 h at hP
    change 0 ≤ x2 at hc
    replace kk : ∀ (us' : List pV) (s' : Int × pH), s' = B_X12_findPlacing_29 x2 h → WP 202 (29, [(14, 248), us'.getD 0 pU, (0, s'.1), us'.getD 1 pU, us'.getD 2 pU, us'.getD 3 pU, us'.getD 4 pU, us'.getD 5 pU, us'.getD 6 pU, us'.getD 7 pU, us'.getD 8 pU, us'.getD 9 pU, us'.getD 10 pU], [], s'.2) Q := fun us' s' e => by subst e; exact kk us'
    unfold P_X12_findPlacing_29 at hP
    obtain ⟨o56, o58⟩ := hP hc
    show WP 202 (29, [(14, 248), us.getD 0 pU, (0, x2), us.getD 1 pU, us.getD 2 pU, us.getD 3 pU, us.getD 4 pU, us.getD 5 pU, us.getD 6 pU, us.getD 7 pU, us.getD 8 pU, us.getD 9 pU, us.getD 10 pU], [], h) Q
    refine WP.iload_n rfl rfl ?_
    refine WP.nz_lt rfl (fun c11 => ?_) (fun c11 => ?_)
    · exact absurd hc (Int.not_le.mpr c11)
    · refine WP.iconst rfl ?_
      refine WP.istore_n (L' := [(14, 248), us.getD 0 pU, (0, x2), (0, 0), us.getD 2 pU, us.getD 3 pU, us.getD 4 pU, us.getD 5 pU, us.getD 6 pU, us.getD 7 pU, us.getD 8 pU, us.getD 9 pU, us.getD 10 pU]) rfl rfl ?_
      refine lp_X12_findPlacing_33 x2 0 h o56 (fun us57 => ?_) [us.getD 0 pU, us.getD 2 pU, us.getD 3 pU, us.getD 4 pU, us.getD 5 pU, us.getD 6 pU, us.getD 7 pU, us.getD 8 pU, us.getD 9 pU, us.getD 10 pU]
      show WP 202 (162, [(14, 248), us57.getD 0 pU, (0, x2), (0, s_X12_findPlacing_11 x2 h), us57.getD 1 pU, us57.getD 2 pU, us57.getD 3 pU, us57.getD 4 pU, us57.getD 5 pU, us57.getD 6 pU, us57.getD 7 pU, us57.getD 8 pU, us57.getD 9 pU], [], s_X12_findPlacing_12 x2 h) Q
      refine WP.iincE (L' := [(14, 248), if (us57.getD 0 pU).1 = 1 then pU else us57.getD 0 pU, (0, x2 + (-1)), (0, s_X12_findPlacing_11 x2 h), us57.getD 1 pU, us57.getD 2 pU, us57.getD 3 pU, us57.getD 4 pU, us57.getD 5 pU, us57.getD 6 pU, us57.getD 7 pU, us57.getD 8 pU, us57.getD 9 pU]) rfl rfl o58 rfl ?_
      refine WP.goto rfl ?_
      exact kk [if (us57.getD 0 pU).1 = 1 then pU else us57.getD 0 pU, (0, s_X12_findPlacing_11 x2 h), us57.getD 1 pU, us57.getD 2 pU, us57.getD 3 pU, us57.getD 4 pU, us57.getD 5 pU, us57.getD 6 pU, us57.getD 7 pU, us57.getD 8 pU, us57.getD 9 pU] (x2 + (-1), s_X12_findPlacing_12 x2 h) (rfl)
  · intro hP hc
    generalize hs : (L_X12_findPlacing_29 x2 h : Int × pH) = s at kk
    change P_X12_findPlacing_29 (L_X12_findPlacing_29 x2 h).1 (L_X12_findPlacing_29 x2 h).2 at hP
    change ¬ C_X12_findPlacing_29 (L_X12_findPlacing_29 x2 h).1 (L_X12_findPlacing_29 x2 h).2 at hc
    intro us
    show WP 202 (29, [(14, 248), us.getD 0 pU, (0, (L_X12_findPlacing_29 x2 h).1), us.getD 1 pU, us.getD 2 pU, us.getD 3 pU, us.getD 4 pU, us.getD 5 pU, us.getD 6 pU, us.getD 7 pU, us.getD 8 pU, us.getD 9 pU, us.getD 10 pU], [], (L_X12_findPlacing_29 x2 h).2) Q
    rw [hs] at hP hc ⊢
    obtain ⟨x2, h⟩ := s
    change P_X12_findPlacing_29 x2 h at hP
    change ¬ (0 ≤ x2) at hc
    unfold P_X12_findPlacing_29 at hP
    show WP 202 (29, [(14, 248), us.getD 0 pU, (0, x2), us.getD 1 pU, us.getD 2 pU, us.getD 3 pU, us.getD 4 pU, us.getD 5 pU, us.getD 6 pU, us.getD 7 pU, us.getD 8 pU, us.getD 9 pU, us.getD 10 pU], [], h) Q
    refine WP.iload_n rfl rfl ?_
    refine WP.nz_lt rfl (fun c10 => ?_) (fun c10 => ?_)
    · exact kk [us.getD 0 pU, us.getD 1 pU, us.getD 2 pU, us.getD 3 pU, us.getD 4 pU, us.getD 5 pU, us.getD 6 pU, us.getD 7 pU, us.getD 8 pU, us.getD 9 pU, us.getD 10 pU]
    · exact absurd (show 0 ≤ x2 from c10) hc
noncomputable def s_X12_findPlacing_13 (a1 : Int) (h : pH) : Int := (L_X12_findPlacing_29 (a1 - 1) ((L_X12_findPlacing_2 a1 0 h).2)).1
noncomputable def s_X12_findPlacing_14 (a1 : Int) (h : pH) : pH := (L_X12_findPlacing_29 (a1 - 1) ((L_X12_findPlacing_2 a1 0 h).2)).2
noncomputable def H_X12_findPlacing (a1 : Int) (h : pH) : pH := s_X12_findPlacing_14 a1 h
noncomputable def P_X12_findPlacing (a1 : Int) (h : pH) : Prop := O_X12_findPlacing_2 a1 0 h ∧ (fx_i (a1 - 1)) ∧ (O_X12_findPlacing_29 (a1 - 1) ((L_X12_findPlacing_2 a1 0 h).2))
set_option maxHeartbeats 4000000 in
theorem w_X12_findPlacing (a1 : Int) (h : pH) {Q : Option pV → pH → Prop} (hp : P_X12_findPlacing a1 h) (kk : Q (none) (H_X12_findPlacing a1 h)) : WP 202 (0, [(14, 248), (0, a1), pU, pU, pU, pU, pU, pU, pU, pU, pU, pU, pU], [], h) Q := by
  unfold P_X12_findPlacing at hp
  obtain ⟨o7, o9, o59⟩ := hp
  refine WP.iconst rfl ?_
  refine WP.istore_n (L' := [(14, 248), (0, a1), (0, 0), pU, pU, pU, pU, pU, pU, pU, pU, pU, pU]) rfl rfl ?_
  refine lp_X12_findPlacing_2 a1 0 h o7 (fun us8 => ?_) [pU, pU, pU, pU, pU, pU, pU, pU, pU, pU]
  show WP 202 (25, [(14, 248), (0, a1), (0, (L_X12_findPlacing_2 a1 0 h).1), us8.getD 0 pU, us8.getD 1 pU, us8.getD 2 pU, us8.getD 3 pU, us8.getD 4 pU, us8.getD 5 pU, us8.getD 6 pU, us8.getD 7 pU, us8.getD 8 pU, us8.getD 9 pU], [], (L_X12_findPlacing_2 a1 0 h).2) Q
  refine WP.iload_n rfl rfl ?_
  refine WP.iconst rfl ?_
  refine WP.isubE rfl o9 ?_
  refine WP.istore_n (L' := [(14, 248), (0, a1), (0, a1 - 1), us8.getD 0 pU, us8.getD 1 pU, us8.getD 2 pU, us8.getD 3 pU, us8.getD 4 pU, us8.getD 5 pU, us8.getD 6 pU, us8.getD 7 pU, us8.getD 8 pU, us8.getD 9 pU]) rfl rfl ?_
  refine lp_X12_findPlacing_29 (a1 - 1) ((L_X12_findPlacing_2 a1 0 h).2) o59 (fun us60 => ?_) [(0, a1), us8.getD 0 pU, us8.getD 1 pU, us8.getD 2 pU, us8.getD 3 pU, us8.getD 4 pU, us8.getD 5 pU, us8.getD 6 pU, us8.getD 7 pU, us8.getD 8 pU, us8.getD 9 pU]
  show WP 202 (164, [(14, 248), us60.getD 0 pU, (0, s_X12_findPlacing_13 a1 h), us60.getD 1 pU, us60.getD 2 pU, us60.getD 3 pU, us60.getD 4 pU, us60.getD 5 pU, us60.getD 6 pU, us60.getD 7 pU, us60.getD 8 pU, us60.getD 9 pU, us60.getD 10 pU], [], s_X12_findPlacing_14 a1 h) Q
  refine WP.retv rfl ?_; exact kk
theorem c_X12_findPlacing (a1 : Int) (h : pH) (hp : P_X12_findPlacing a1 h) : CP 202 [(14, 248), (0, a1)] h (fun r h1 => r = none ∧ h1 = H_X12_findPlacing a1 h) := w_X12_findPlacing a1 h hp ⟨rfl, rfl⟩
noncomputable def s_X12_findOpen_1 (x1 : Int) (x2 : Int) (h : pH) : pH := if h 249 (328 + x2) = 0 ∧ (h 249 (200 + x2) = 0 ∨ ((h 249 (248 + x2)) ≤ (h 249 15) ∧ (h 249 15) ≤ (h 249 (264 + x2)))) then pm_upd h 267 x1 x2 else h
noncomputable def s_X12_findOpen_2 (x1 : Int) (x2 : Int) (h : pH) : Int := if h 249 (328 + x2) = 0 ∧ (h 249 (200 + x2) = 0 ∨ ((h 249 (248 + x2)) ≤ (h 249 15) ∧ (h 249 15) ≤ (h 249 (264 + x2)))) then x1 + 1 else x1
def C_X12_findOpen_4 (x1 : Int) (x2 : Int) (h : pH) : Prop := x2 < h 249 13
noncomputable def B_X12_findOpen_4 (x1 : Int) (x2 : Int) (h : pH) : Int × Int × pH := (s_X12_findOpen_2 x1 x2 h, x2 + 1, s_X12_findOpen_1 x1 x2 h)
noncomputable def P_X12_findOpen_4 (x1 : Int) (x2 : Int) (h : pH) : Prop := ((x2 < h 249 13) → P_X12_isOpen x2 h ∧ (((h 249 (328 + x2) = 0 ∧ (h 249 (200 + x2) = 0 ∨ ((h 249 (248 + x2)) ≤ (h 249 15) ∧ (h 249 15) ≤ (h 249 (264 + x2))))) → ((0 ≤ x1 ∧ x1 < 16) ∧ (fx_i (x1 + 1))))) ∧ (fx_i (x2 + 1)))
noncomputable def L_X12_findOpen_4 (x1 : Int) (x2 : Int) (h : pH) : Int × Int × pH := fx_wh (σ := Int × Int × pH) (fun s => C_X12_findOpen_4 s.1 s.2.1 s.2.2) (fun s => B_X12_findOpen_4 s.1 s.2.1 s.2.2) (x1, x2, h)
def O_X12_findOpen_4 (x1 : Int) (x2 : Int) (h : pH) : Prop := fx_ok (σ := Int × Int × pH) (fun s => C_X12_findOpen_4 s.1 s.2.1 s.2.2) (fun s => B_X12_findOpen_4 s.1 s.2.1 s.2.2) (fun s => P_X12_findOpen_4 s.1 s.2.1 s.2.2) (x1, x2, h)
set_option maxHeartbeats 4000000 in
theorem lp_X12_findOpen_4 (x1 : Int) (x2 : Int) (h : pH) {Q : Option pV → pH → Prop} (hp : O_X12_findOpen_4 x1 x2 h) (kk : ∀ us : List pV, WP 203 (24, [(14, 248), (0, (L_X12_findOpen_4 x1 x2 h).1), (0, (L_X12_findOpen_4 x1 x2 h).2.1)], [], (L_X12_findOpen_4 x1 x2 h).2.2) Q) : ∀ us : List pV, WP 203 (4, [(14, 248), (0, x1), (0, x2)], [], h) Q := by
  refine WP.wh (σ := Int × Int × pH) (fun s => C_X12_findOpen_4 s.1 s.2.1 s.2.2) (fun s => B_X12_findOpen_4 s.1 s.2.1 s.2.2) (fun s => P_X12_findOpen_4 s.1 s.2.1 s.2.2) (fun s us => (4, [(14, 248), (0, s.1), (0, s.2.1)], [], s.2.2)) (x1, x2, h) hp ?_ ?_
  · intro s us hP hc kk
    obtain ⟨x1, x2, h⟩ := s
    change P_X12_findOpen_4 x1 x2 h at hP
    change x2 < h 249 13 at hc
    replace kk : ∀ (us' : List pV) (s' : Int × Int × pH), s' = B_X12_findOpen_4 x1 x2 h → WP 203 (4, [(14, 248), (0, s'.1), (0, s'.2.1)], [], s'.2.2) Q := fun us' s' e => by subst e; exact kk us'
    unfold P_X12_findOpen_4 at hP
    obtain ⟨o3, q10, o11⟩ := hP hc
    show WP 203 (4, [(14, 248), (0, x1), (0, x2)], [], h) Q
    refine WP.iload_n rfl rfl ?_
    refine WP.i2l rfl ?_
    refine WP.aload_n rfl rfl ⟨by decide, by decide⟩ ?_
    refine WP.getRF (b := 249) rfl rfl rfl ?_
    refine WP.bipush rfl ?_
    refine WP.laload rfl ⟨by decide, by decide, by decide⟩ (by decide) ?_
    refine WP.lcmp rfl ?_
    refine WP.nl_ge rfl (fun c2 => ?_) (fun c2 => ?_)
    · exact absurd hc (Int.not_lt.mpr c2)
    · refine WP.aload_n rfl rfl ⟨by decide, by decide⟩ ?_
      refine WP.iload_n rfl rfl ?_
      refine WP.callF (c_X12_isOpen x2 h o3) rfl rfl (pm_cok rfl rfl (Or.inr ⟨_, _, rfl⟩) rfl rfl) rfl rfl ?_
      show WP 203 (15, [(14, 248), (0, x1), (0, x2)], [(0, if h 249 (328 + x2) = 0 ∧ (h 249 (200 + x2) = 0 ∨ ((h 249 (248 + x2)) ≤ (h 249 15) ∧ (h 249 15) ≤ (h 249 (264 + x2)))) then 1 else 0)], h) Q
      have k4 : ∀ Q' : Option pV → pH → Prop, (WP 203 (22, [(14, 248), (0, s_X12_findOpen_2 x1 x2 h), (0, x2)], [], s_X12_findOpen_1 x1 x2 h) Q') → WP 203 (15, [(14, 248), (0, x1), (0, x2)], [(0, if h 249 (328 + x2) = 0 ∧ (h 249 (200 + x2) = 0 ∨ ((h 249 (248 + x2)) ≤ (h 249 15) ∧ (h 249 15) ≤ (h 249 (264 + x2)))) then 1 else 0)], h) Q' := fun Q' kk => by
        have q8 := q10
        refine WP.nb_eq rfl (fun c5 => ?_) (fun c5 => ?_)
        · have e := kk; simp only [s_X12_findOpen_2, s_X12_findOpen_1, if_neg (c5)] at e ⊢; exact e
        · obtain ⟨o6, o7⟩ := q8 c5
          refine WP.aload_n rfl rfl ⟨by decide, by decide⟩ ?_
          refine WP.getRF (b := 267) rfl rfl rfl ?_
          refine WP.iload_n rfl rfl ?_
          refine WP.iload_n rfl rfl ?_
          refine WP.iastore rfl ⟨by decide, by decide, by decide⟩ o6 ?_
          refine WP.iincE (L' := [(14, 248), (0, x1 + 1), (0, x2)]) rfl rfl o7 rfl ?_
          have e := kk; simp only [s_X12_findOpen_2, s_X12_findOpen_1, if_pos c5] at e ⊢; exact e
      refine k4 _ ?_
      refine WP.iincE (L' := [(14, 248), (0, s_X12_findOpen_2 x1 x2 h), (0, x2 + 1)]) rfl rfl o11 rfl ?_
      refine WP.goto rfl ?_
      exact kk [] (s_X12_findOpen_2 x1 x2 h, x2 + 1, s_X12_findOpen_1 x1 x2 h) (rfl)
  · intro hP hc
    generalize hs : (L_X12_findOpen_4 x1 x2 h : Int × Int × pH) = s at kk
    change P_X12_findOpen_4 (L_X12_findOpen_4 x1 x2 h).1 (L_X12_findOpen_4 x1 x2 h).2.1 (L_X12_findOpen_4 x1 x2 h).2.2 at hP
    change ¬ C_X12_findOpen_4 (L_X12_findOpen_4 x1 x2 h).1 (L_X12_findOpen_4 x1 x2 h).2.1 (L_X12_findOpen_4 x1 x2 h).2.2 at hc
    intro us
    show WP 203 (4, [(14, 248), (0, (L_X12_findOpen_4 x1 x2 h).1), (0, (L_X12_findOpen_4 x1 x2 h).2.1)], [], (L_X12_findOpen_4 x1 x2 h).2.2) Q
    rw [hs] at hP hc ⊢
    obtain ⟨x1, x2, h⟩ := s
    change P_X12_findOpen_4 x1 x2 h at hP
    change ¬ (x2 < h 249 13) at hc
    unfold P_X12_findOpen_4 at hP
    show WP 203 (4, [(14, 248), (0, x1), (0, x2)], [], h) Q
    refine WP.iload_n rfl rfl ?_
    refine WP.i2l rfl ?_
    refine WP.aload_n rfl rfl ⟨by decide, by decide⟩ ?_
    refine WP.getRF (b := 249) rfl rfl rfl ?_
    refine WP.bipush rfl ?_
    refine WP.laload rfl ⟨by decide, by decide, by decide⟩ (by decide) ?_
    refine WP.lcmp rfl ?_
    refine WP.nl_ge rfl (fun c1 => ?_) (fun c1 => ?_)
    · exact kk []
    · exact absurd (show x2 < h 249 13 from c1) hc
noncomputable def F_X12_findOpen (h : pH) : Int := (L_X12_findOpen_4 0 0 h).1
noncomputable def H_X12_findOpen (h : pH) : pH := (L_X12_findOpen_4 0 0 h).2.2
noncomputable def P_X12_findOpen (h : pH) : Prop := O_X12_findOpen_4 0 0 h
set_option maxHeartbeats 4000000 in
theorem w_X12_findOpen (h : pH) {Q : Option pV → pH → Prop} (hp : P_X12_findOpen h) (kk : Q (some (0, F_X12_findOpen h)) (H_X12_findOpen h)) : WP 203 (0, [(14, 248), pU, pU], [], h) Q := by
  unfold P_X12_findOpen at hp
  have o12 := hp
  refine WP.iconst rfl ?_
  refine WP.istore_n (L' := [(14, 248), (0, 0), pU]) rfl rfl ?_
  refine WP.iconst rfl ?_
  refine WP.istore_n (L' := [(14, 248), (0, 0), (0, 0)]) rfl rfl ?_
  refine lp_X12_findOpen_4 0 0 h o12 (fun us13 => ?_) []
  show WP 203 (24, [(14, 248), (0, (L_X12_findOpen_4 0 0 h).1), (0, (L_X12_findOpen_4 0 0 h).2.1)], [], (L_X12_findOpen_4 0 0 h).2.2) Q
  refine WP.iload_n rfl rfl ?_
  refine WP.reti rfl ?_; exact kk
theorem c_X12_findOpen (h : pH) (hp : P_X12_findOpen h) : CP 203 [(14, 248)] h (fun r h1 => r = some (0, F_X12_findOpen h) ∧ h1 = H_X12_findOpen h) := w_X12_findOpen h hp ⟨rfl, rfl⟩
noncomputable def s_X12_bill_1 (a1 : Int) (x3 : Int) (h : pH) : Int := if h 249 (328 + x3) = 2 then h 249 (182 + a1) else if h 249 (328 + x3) = 3 then -(h 249 (190 + a1)) else 0
noncomputable def s_X12_bill_2 (a1 : Int) (x2 : Int) (x3 : Int) (h : pH) : Int := if h 249 (216 + x3) = a1 then x2 + (s_X12_bill_1 a1 x3 h) else x2
def C_X12_bill_9 (a1 : Int) (h : pH) (x2 : Int) (x3 : Int) : Prop := x3 < h 249 13
noncomputable def B_X12_bill_9 (a1 : Int) (h : pH) (x2 : Int) (x3 : Int) : Int × Int := (s_X12_bill_2 a1 x2 x3 h, x3 + 1)
noncomputable def P_X12_bill_9 (a1 : Int) (h : pH) (x2 : Int) (x3 : Int) : Prop := ((x3 < h 249 13) → (fx_i (216 + x3)) ∧ (0 ≤ 216 + x3 ∧ 216 + x3 < 620) ∧ (((h 249 (216 + x3) = a1) → ((fx_i (328 + x3)) ∧ (0 ≤ 328 + x3 ∧ 328 + x3 < 620) ∧ ((((h 249 (328 + x3) = 2) → ((fx_i (182 + a1)) ∧ (P_X12_at (182 + a1) h))) ∧ ((¬ h 249 (328 + x3) = 2) → (((h 249 (328 + x3) = 3) → ((fx_i (190 + a1)) ∧ (P_X12_at (190 + a1) h) ∧ (fx_i (-(h 249 (190 + a1)))))))))) ∧ (fx_i (x2 + (s_X12_bill_1 a1 x3 h)))))) ∧ (fx_i (x3 + 1)))
noncomputable def L_X12_bill_9 (a1 : Int) (h : pH) (x2 : Int) (x3 : Int) : Int × Int := fx_wh (σ := Int × Int) (fun s => C_X12_bill_9 a1 h s.1 s.2) (fun s => B_X12_bill_9 a1 h s.1 s.2) (x2, x3)
def O_X12_bill_9 (a1 : Int) (h : pH) (x2 : Int) (x3 : Int) : Prop := fx_ok (σ := Int × Int) (fun s => C_X12_bill_9 a1 h s.1 s.2) (fun s => B_X12_bill_9 a1 h s.1 s.2) (fun s => P_X12_bill_9 a1 h s.1 s.2) (x2, x3)
set_option maxHeartbeats 4000000 in
theorem lp_X12_bill_9 (a1 : Int) (h : pH) (x2 : Int) (x3 : Int) {Q : Option pV → pH → Prop} (hp : O_X12_bill_9 a1 h x2 x3) (kk : ∀ us : List pV, WP 214 (64, [(14, 248), (0, a1), (0, (L_X12_bill_9 a1 h x2 x3).1), (0, (L_X12_bill_9 a1 h x2 x3).2)], [], h) Q) : ∀ us : List pV, WP 214 (9, [(14, 248), (0, a1), (0, x2), (0, x3)], [], h) Q := by
  refine WP.wh (σ := Int × Int) (fun s => C_X12_bill_9 a1 h s.1 s.2) (fun s => B_X12_bill_9 a1 h s.1 s.2) (fun s => P_X12_bill_9 a1 h s.1 s.2) (fun s us => (9, [(14, 248), (0, a1), (0, s.1), (0, s.2)], [], h)) (x2, x3) hp ?_ ?_
  · intro s us hP hc kk
    obtain ⟨x2, x3⟩ := s
    change P_X12_bill_9 a1 h x2 x3 at hP
    change x3 < h 249 13 at hc
    replace kk : ∀ (us' : List pV) (s' : Int × Int), s' = B_X12_bill_9 a1 h x2 x3 → WP 214 (9, [(14, 248), (0, a1), (0, s'.1), (0, s'.2)], [], h) Q := fun us' s' e => by subst e; exact kk us'
    unfold P_X12_bill_9 at hP
    obtain ⟨o4, o5, q25, o26⟩ := hP hc
    show WP 214 (9, [(14, 248), (0, a1), (0, x2), (0, x3)], [], h) Q
    refine WP.iload_n rfl rfl ?_
    refine WP.i2l rfl ?_
    refine WP.aload_n rfl rfl ⟨by decide, by decide⟩ ?_
    refine WP.getRF (b := 249) rfl rfl rfl ?_
    refine WP.bipush rfl ?_
    refine WP.laload rfl ⟨by decide, by decide, by decide⟩ (by decide) ?_
    refine WP.lcmp rfl ?_
    refine WP.nl_ge rfl (fun c3 => ?_) (fun c3 => ?_)
    · exact absurd hc (Int.not_lt.mpr c3)
    · refine WP.aload_n rfl rfl ⟨by decide, by decide⟩ ?_
      refine WP.getRF (b := 249) rfl rfl rfl ?_
      refine WP.sipush rfl ?_
      refine WP.iload_n rfl rfl ?_
      refine WP.iaddE rfl o4 ?_
      refine WP.laload rfl ⟨by decide, by decide, by decide⟩ o5 ?_
      refine WP.iload_n rfl rfl ?_
      refine WP.i2l rfl ?_
      refine WP.lcmp rfl ?_
      have k6 : ∀ Q' : Option pV → pH → Prop, (WP 214 (62, [(14, 248), (0, a1), (0, s_X12_bill_2 a1 x2 x3 h), (0, x3)], [], h) Q') → WP 214 (26, [(14, 248), (0, a1), (0, x2), (0, x3)], [(0, pm_lcmp (h 249 (216 + x3)) a1)], h) Q' := fun Q' kk => by
        have q23 := q25
        refine WP.nl_ne rfl (fun c7 => ?_) (fun c7 => ?_)
        · have e := kk; simp only [s_X12_bill_2, if_neg (c7)] at e ⊢; exact e
        · obtain ⟨o8, o9, q21, o22⟩ := q23 c7
          refine WP.iload_n rfl rfl ?_
          refine WP.aload_n rfl rfl ⟨by decide, by decide⟩ ?_
          refine WP.getRF (b := 249) rfl rfl rfl ?_
          refine WP.sipush rfl ?_
          refine WP.iload_n rfl rfl ?_
          refine WP.iaddE rfl o8 ?_
          refine WP.laload rfl ⟨by decide, by decide, by decide⟩ o9 ?_
          refine WP.ldc2_w rfl ?_
          refine WP.lcmp rfl ?_
          have k10 : ∀ Q' : Option pV → pH → Prop, (WP 214 (60, [(14, 248), (0, a1), (0, x2), (0, x3)], [(0, s_X12_bill_1 a1 x3 h), (0, x2)], h) Q') → WP 214 (36, [(14, 248), (0, a1), (0, x2), (0, x3)], [(0, pm_lcmp (h 249 (328 + x3)) 2), (0, x2)], h) Q' := fun Q' kk => by
            have q19 := q21
            refine WP.nl_ne rfl (fun c11 => ?_) (fun c11 => ?_)
            · have q18 := q19.2 c11
              refine WP.aload_n rfl rfl ⟨by decide, by decide⟩ ?_
              refine WP.getRF (b := 249) rfl rfl rfl ?_
              refine WP.sipush rfl ?_
              refine WP.iload_n rfl rfl ?_
              refine WP.iaddE rfl o8 ?_
              refine WP.laload rfl ⟨by decide, by decide, by decide⟩ o9 ?_
              refine WP.ldc2_w rfl ?_
              refine WP.lcmp rfl ?_
              refine WP.nl_ne rfl (fun c14 => ?_) (fun c14 => ?_)
              · refine WP.iconst rfl ?_
                have e := kk; simp only [s_X12_bill_1, if_neg (c11), if_neg (c14)] at e ⊢; exact e
              · obtain ⟨o15, o16, o17⟩ := q18 c14
                refine WP.aload_n rfl rfl ⟨by decide, by decide⟩ ?_
                refine WP.sipush rfl ?_
                refine WP.iload_n rfl rfl ?_
                refine WP.iaddE rfl o15 ?_
                refine WP.callF (c_X12_at (190 + a1) h o16) rfl rfl (pm_cok rfl rfl (Or.inr ⟨_, _, rfl⟩) rfl rfl) rfl rfl ?_
                show WP 214 (57, [(14, 248), (0, a1), (0, x2), (0, x3)], [(0, h 249 (190 + a1)), (0, x2)], h) Q'
                refine WP.inegE rfl o17 ?_
                refine WP.goto rfl ?_
                have e := kk; simp only [s_X12_bill_1, if_neg (c11), if_pos c14] at e ⊢; exact e
            · obtain ⟨o12, o13⟩ := q19.1 c11
              refine WP.aload_n rfl rfl ⟨by decide, by decide⟩ ?_
              refine WP.sipush rfl ?_
              refine WP.iload_n rfl rfl ?_
              refine WP.iaddE rfl o12 ?_
              refine WP.callF (c_X12_at (182 + a1) h o13) rfl rfl (pm_cok rfl rfl (Or.inr ⟨_, _, rfl⟩) rfl rfl) rfl rfl ?_
              show WP 214 (42, [(14, 248), (0, a1), (0, x2), (0, x3)], [(0, h 249 (182 + a1)), (0, x2)], h) Q'
              refine WP.goto rfl ?_
              have e := kk; simp only [s_X12_bill_1, if_pos c11] at e ⊢; exact e
          refine k10 _ ?_
          refine WP.iaddE rfl o22 ?_
          refine WP.istore_n (L' := [(14, 248), (0, a1), (0, x2 + (s_X12_bill_1 a1 x3 h)), (0, x3)]) rfl rfl ?_
          have e := kk; simp only [s_X12_bill_2, if_pos c7] at e ⊢; exact e
      refine k6 _ ?_
      refine WP.iincE (L' := [(14, 248), (0, a1), (0, s_X12_bill_2 a1 x2 x3 h), (0, x3 + 1)]) rfl rfl o26 rfl ?_
      refine WP.goto rfl ?_
      exact kk [] (s_X12_bill_2 a1 x2 x3 h, x3 + 1) (rfl)
  · intro hP hc
    generalize hs : (L_X12_bill_9 a1 h x2 x3 : Int × Int) = s at kk
    change P_X12_bill_9 a1 h (L_X12_bill_9 a1 h x2 x3).1 (L_X12_bill_9 a1 h x2 x3).2 at hP
    change ¬ C_X12_bill_9 a1 h (L_X12_bill_9 a1 h x2 x3).1 (L_X12_bill_9 a1 h x2 x3).2 at hc
    intro us
    show WP 214 (9, [(14, 248), (0, a1), (0, (L_X12_bill_9 a1 h x2 x3).1), (0, (L_X12_bill_9 a1 h x2 x3).2)], [], h) Q
    rw [hs] at hP hc ⊢
    obtain ⟨x2, x3⟩ := s
    change P_X12_bill_9 a1 h x2 x3 at hP
    change ¬ (x3 < h 249 13) at hc
    unfold P_X12_bill_9 at hP
    show WP 214 (9, [(14, 248), (0, a1), (0, x2), (0, x3)], [], h) Q
    refine WP.iload_n rfl rfl ?_
    refine WP.i2l rfl ?_
    refine WP.aload_n rfl rfl ⟨by decide, by decide⟩ ?_
    refine WP.getRF (b := 249) rfl rfl rfl ?_
    refine WP.bipush rfl ?_
    refine WP.laload rfl ⟨by decide, by decide, by decide⟩ (by decide) ?_
    refine WP.lcmp rfl ?_
    refine WP.nl_ge rfl (fun c2 => ?_) (fun c2 => ?_)
    · exact kk []
    · exact absurd (show x3 < h 249 13 from c2) hc
noncomputable def F_X12_bill (a1 : Int) (h : pH) : Int := if 0 ≤ a1 ∧ a1 ≤ 7 then (L_X12_bill_9 a1 h 0 0).1 else (-100000000)
noncomputable def P_X12_bill (a1 : Int) (h : pH) : Prop := ((0 ≤ a1 ∧ a1 ≤ 7) → O_X12_bill_9 a1 h 0 0)
set_option maxHeartbeats 4000000 in
theorem w_X12_bill (a1 : Int) (h : pH) {Q : Option pV → pH → Prop} (hp : P_X12_bill a1 h) (kk : Q (some (0, F_X12_bill a1 h)) (h)) : WP 214 (0, [(14, 248), (0, a1), pU, pU], [], h) Q := by
  unfold P_X12_bill at hp
  have q29 := hp
  refine WP.iload_n rfl rfl ?_
  refine WP.callF (c_X12_isHouse a1 h) rfl rfl (pm_cok rfl rfl (Or.inl rfl) rfl rfl) rfl rfl ?_
  show WP 214 (2, [(14, 248), (0, a1), pU, pU], [(0, if 0 ≤ a1 ∧ a1 ≤ 7 then 1 else 0)], h) Q
  refine WP.nb_ne rfl (fun c1 => ?_) (fun c1 => ?_)
  · have o27 := q29 c1
    refine WP.iconst rfl ?_
    refine WP.istore_n (L' := [(14, 248), (0, a1), (0, 0), pU]) rfl rfl ?_
    refine WP.iconst rfl ?_
    refine WP.istore_n (L' := [(14, 248), (0, a1), (0, 0), (0, 0)]) rfl rfl ?_
    refine lp_X12_bill_9 a1 h 0 0 o27 (fun us28 => ?_) []
    show WP 214 (64, [(14, 248), (0, a1), (0, (L_X12_bill_9 a1 h 0 0).1), (0, (L_X12_bill_9 a1 h 0 0).2)], [], h) Q
    refine WP.iload_n rfl rfl ?_
    refine WP.reti rfl ?_; have e := kk; simp only [F_X12_bill, if_pos c1] at e ⊢; exact e
  · refine WP.ldc_w rfl ?_
    refine WP.reti rfl ?_; have e := kk; simp only [F_X12_bill, if_neg (c1)] at e ⊢; exact e
theorem c_X12_bill (a1 : Int) (h : pH) (hp : P_X12_bill a1 h) : CP 214 [(14, 248), (0, a1)] h (fun r h1 => r = some (0, F_X12_bill a1 h) ∧ h1 = h) := w_X12_bill a1 h hp ⟨rfl, rfl⟩
noncomputable def s_X4_step_1 (a0 : Int) (h : pH) : pH := H_X4_placeWorks a0 (H_X4_readGauges a0 (H_X4_tellSpeed a0 h))
noncomputable def s_X4_step_2 (a0 : Int) (h : pH) : pH := H_X4_shedWorks a0 (H_X4_tripFeeds a0 (H_X4_setSpeeds a0 (s_X4_step_1 a0 h)))
noncomputable def s_X4_step_3 (a0 : Int) (h : pH) : pH := H_X8_supply (a0 + 18) ((s_X4_step_2 a0 h) a0 7) (s_X4_step_2 a0 h)
noncomputable def s_X4_step_4 (a0 : Int) (h : pH) : pH := H_X6_warm (a0 + 7) (a0 + 1) (H_X0_remember (a0 + 1) (s_X4_step_3 a0 h))
noncomputable def s_X4_step_5 (a0 : Int) (h : pH) : pH := H_X4_failMachines a0 (H_X0_settle (a0 + 1) (s_X4_step_4 a0 h))
noncomputable def s_X4_step_6 (a0 : Int) (h : pH) : pH := H_X6_endTrips (a0 + 7) (H_X4_finishWorks a0 (s_X4_step_5 a0 h))
noncomputable def s_X4_step_7 (a0 : Int) (h : pH) : pH := pm_upd (s_X4_step_6 a0 h) a0 7 (((s_X4_step_6 a0 h) a0 7) + 1)
noncomputable def s_X4_step_8 (a0 : Int) (h : pH) : pH := H_X10_close (a0 + 21) ((s_X4_step_7 a0 h) a0 7) (s_X4_step_7 a0 h)
noncomputable def F_X4_step (a0 : Int) (h : pH) : Int := F_X10_close (a0 + 21) ((s_X4_step_7 a0 h) a0 7) (s_X4_step_7 a0 h)
noncomputable def H_X4_step (a0 : Int) (h : pH) : pH := s_X4_step_8 a0 h
noncomputable def P_X4_step (a0 : Int) (h : pH) : Prop := P_X4_tellSpeed a0 h ∧ (P_X4_readGauges a0 (H_X4_tellSpeed a0 h)) ∧ (P_X4_placeWorks a0 (H_X4_readGauges a0 (H_X4_tellSpeed a0 h))) ∧ (P_X4_setSpeeds a0 (s_X4_step_1 a0 h)) ∧ (P_X4_tripFeeds a0 (H_X4_setSpeeds a0 (s_X4_step_1 a0 h))) ∧ (P_X4_shedWorks a0 (H_X4_tripFeeds a0 (H_X4_setSpeeds a0 (s_X4_step_1 a0 h)))) ∧ (P_X8_supply (a0 + 18) ((s_X4_step_2 a0 h) a0 7) (s_X4_step_2 a0 h)) ∧ (P_X6_warm (a0 + 7) (a0 + 1) (H_X0_remember (a0 + 1) (s_X4_step_3 a0 h))) ∧ (P_X0_settle (a0 + 1) (s_X4_step_4 a0 h)) ∧ (P_X4_failMachines a0 (H_X0_settle (a0 + 1) (s_X4_step_4 a0 h))) ∧ (P_X4_finishWorks a0 (s_X4_step_5 a0 h)) ∧ (P_X6_endTrips (a0 + 7) (H_X4_finishWorks a0 (s_X4_step_5 a0 h))) ∧ (fx_i (((s_X4_step_6 a0 h) a0 7) + 1)) ∧ (P_X10_close (a0 + 21) ((s_X4_step_7 a0 h) a0 7) (s_X4_step_7 a0 h))
set_option maxHeartbeats 4000000 in
theorem w_X4_step (a0 : Int) (h : pH) {Q : Option pV → pH → Prop} (hp : P_X4_step a0 h) (kk : Q (some (0, F_X4_step a0 h)) (H_X4_step a0 h)) : WP 20 (0, [(6, a0)], [], h) Q := by
  unfold P_X4_step at hp
  obtain ⟨o1, o2, o3, o4, o5, o6, o7, o8, o9, o10, o11, o12, o13, o14⟩ := hp
  refine WP.aload_n rfl rfl ⟨by decide, by decide⟩ ?_
  refine WP.callF (c_X4_tellSpeed a0 h o1) rfl rfl (pm_cok rfl rfl (Or.inr ⟨_, _, rfl⟩) rfl rfl) rfl rfl ?_
  show WP 20 (2, [(6, a0)], [], H_X4_tellSpeed a0 h) Q
  refine WP.aload_n rfl rfl ⟨by decide, by decide⟩ ?_
  refine WP.callF (c_X4_readGauges a0 (H_X4_tellSpeed a0 h) o2) rfl rfl (pm_cok rfl rfl (Or.inr ⟨_, _, rfl⟩) rfl rfl) rfl rfl ?_
  show WP 20 (4, [(6, a0)], [], H_X4_readGauges a0 (H_X4_tellSpeed a0 h)) Q
  refine WP.aload_n rfl rfl ⟨by decide, by decide⟩ ?_
  refine WP.callF (c_X4_placeWorks a0 (H_X4_readGauges a0 (H_X4_tellSpeed a0 h)) o3) rfl rfl (pm_cok rfl rfl (Or.inr ⟨_, _, rfl⟩) rfl rfl) rfl rfl ?_
  show WP 20 (6, [(6, a0)], [], s_X4_step_1 a0 h) Q
  refine WP.aload_n rfl rfl ⟨by decide, by decide⟩ ?_
  refine WP.callF (c_X4_setSpeeds a0 (s_X4_step_1 a0 h) o4) rfl rfl (pm_cok rfl rfl (Or.inr ⟨_, _, rfl⟩) rfl rfl) rfl rfl ?_
  show WP 20 (8, [(6, a0)], [], H_X4_setSpeeds a0 (s_X4_step_1 a0 h)) Q
  refine WP.aload_n rfl rfl ⟨by decide, by decide⟩ ?_
  refine WP.callF (c_X4_tripFeeds a0 (H_X4_setSpeeds a0 (s_X4_step_1 a0 h)) o5) rfl rfl (pm_cok rfl rfl (Or.inr ⟨_, _, rfl⟩) rfl rfl) rfl rfl ?_
  show WP 20 (10, [(6, a0)], [], H_X4_tripFeeds a0 (H_X4_setSpeeds a0 (s_X4_step_1 a0 h))) Q
  refine WP.aload_n rfl rfl ⟨by decide, by decide⟩ ?_
  refine WP.callF (c_X4_shedWorks a0 (H_X4_tripFeeds a0 (H_X4_setSpeeds a0 (s_X4_step_1 a0 h))) o6) rfl rfl (pm_cok rfl rfl (Or.inr ⟨_, _, rfl⟩) rfl rfl) rfl rfl ?_
  show WP 20 (12, [(6, a0)], [], s_X4_step_2 a0 h) Q
  refine WP.aload_n rfl rfl ⟨by decide, by decide⟩ ?_
  refine WP.getR rfl rfl ?_
  refine WP.aload_n rfl rfl ⟨by decide, by decide⟩ ?_
  refine WP.getI rfl rfl ?_
  refine WP.callF (c_X8_supply (a0 + 18) ((s_X4_step_2 a0 h) a0 7) (s_X4_step_2 a0 h) o7) rfl rfl (pm_cok rfl rfl (Or.inr ⟨_, _, rfl⟩) rfl rfl) rfl rfl ?_
  show WP 20 (17, [(6, a0)], [], s_X4_step_3 a0 h) Q
  refine WP.aload_n rfl rfl ⟨by decide, by decide⟩ ?_
  refine WP.getR rfl rfl ?_
  refine WP.callF (c_X0_remember (a0 + 1) (s_X4_step_3 a0 h)) rfl rfl (pm_cok rfl rfl (Or.inr ⟨_, _, rfl⟩) rfl rfl) rfl rfl ?_
  show WP 20 (20, [(6, a0)], [], H_X0_remember (a0 + 1) (s_X4_step_3 a0 h)) Q
  refine WP.aload_n rfl rfl ⟨by decide, by decide⟩ ?_
  refine WP.getR rfl rfl ?_
  refine WP.aload_n rfl rfl ⟨by decide, by decide⟩ ?_
  refine WP.getR rfl rfl ?_
  refine WP.callF (c_X6_warm (a0 + 7) (a0 + 1) (H_X0_remember (a0 + 1) (s_X4_step_3 a0 h)) o8) rfl rfl (pm_cok rfl rfl (Or.inr ⟨_, _, rfl⟩) rfl rfl) rfl rfl ?_
  show WP 20 (25, [(6, a0)], [], s_X4_step_4 a0 h) Q
  refine WP.aload_n rfl rfl ⟨by decide, by decide⟩ ?_
  refine WP.getR rfl rfl ?_
  refine WP.callF (c_X0_settle (a0 + 1) (s_X4_step_4 a0 h) o9) rfl rfl (pm_cok rfl rfl (Or.inr ⟨_, _, rfl⟩) rfl rfl) rfl rfl ?_
  show WP 20 (28, [(6, a0)], [], H_X0_settle (a0 + 1) (s_X4_step_4 a0 h)) Q
  refine WP.aload_n rfl rfl ⟨by decide, by decide⟩ ?_
  refine WP.callF (c_X4_failMachines a0 (H_X0_settle (a0 + 1) (s_X4_step_4 a0 h)) o10) rfl rfl (pm_cok rfl rfl (Or.inr ⟨_, _, rfl⟩) rfl rfl) rfl rfl ?_
  show WP 20 (30, [(6, a0)], [], s_X4_step_5 a0 h) Q
  refine WP.aload_n rfl rfl ⟨by decide, by decide⟩ ?_
  refine WP.callF (c_X4_finishWorks a0 (s_X4_step_5 a0 h) o11) rfl rfl (pm_cok rfl rfl (Or.inr ⟨_, _, rfl⟩) rfl rfl) rfl rfl ?_
  show WP 20 (32, [(6, a0)], [], H_X4_finishWorks a0 (s_X4_step_5 a0 h)) Q
  refine WP.aload_n rfl rfl ⟨by decide, by decide⟩ ?_
  refine WP.getR rfl rfl ?_
  refine WP.callF (c_X6_endTrips (a0 + 7) (H_X4_finishWorks a0 (s_X4_step_5 a0 h)) o12) rfl rfl (pm_cok rfl rfl (Or.inr ⟨_, _, rfl⟩) rfl rfl) rfl rfl ?_
  show WP 20 (35, [(6, a0)], [], s_X4_step_6 a0 h) Q
  refine WP.aload_n rfl rfl ⟨by decide, by decide⟩ ?_
  refine WP.dup rfl (by decide) ?_
  refine WP.getI rfl rfl ?_
  refine WP.iconst rfl ?_
  refine WP.iaddE rfl o13 ?_
  refine WP.putI rfl rfl ?_
  show WP 20 (41, [(6, a0)], [], s_X4_step_7 a0 h) Q
  refine WP.aload_n rfl rfl ⟨by decide, by decide⟩ ?_
  refine WP.getR rfl rfl ?_
  refine WP.aload_n rfl rfl ⟨by decide, by decide⟩ ?_
  refine WP.getI rfl rfl ?_
  refine WP.callF (c_X10_close (a0 + 21) ((s_X4_step_7 a0 h) a0 7) (s_X4_step_7 a0 h) o14) rfl rfl (pm_cok rfl rfl (Or.inr ⟨_, _, rfl⟩) rfl rfl) rfl rfl ?_
  show WP 20 (46, [(6, a0)], [(0, F_X10_close (a0 + 21) ((s_X4_step_7 a0 h) a0 7) (s_X4_step_7 a0 h))], s_X4_step_8 a0 h) Q
  refine WP.reti rfl ?_; exact kk
theorem c_X4_step (a0 : Int) (h : pH) (hp : P_X4_step a0 h) : CP 20 [(6, a0)] h (fun r h1 => r = some (0, F_X4_step a0 h) ∧ h1 = H_X4_step a0 h) := w_X4_step a0 h hp ⟨rfl, rfl⟩
noncomputable def s_X7_place_1 (a1 : Int) (h : pH) : Int := F_X7_bestFrom 0 (F_X7_takeMachines a1 (H_X7_takeWorks (a1 + 21) h)) (H_X7_takeMachines a1 (H_X7_takeWorks (a1 + 21) h))
noncomputable def s_X7_place_2 (x2 : Int) (x3 : Int) (x5 : Int) (h : pH) : Int := 1099511627776 - ((pm_upd h 150 x5 (F_X7_firstChoice x5 x2 x3 h)) 151 ((pm_upd h 150 x5 (F_X7_firstChoice x5 x2 x3 h)) 150 x5))
noncomputable def s_X7_place_3 (x2 : Int) (x3 : Int) (x5 : Int) (h : pH) : Int := if (pm_upd h 150 x5 (F_X7_firstChoice x5 x2 x3 h)) 150 x5 = (-1) then x2 else pm_and x2 (pm_xor (pm_shl 1 ((pm_upd h 150 x5 (F_X7_firstChoice x5 x2 x3 h)) 150 x5)) (-1))
noncomputable def s_X7_place_4 (x2 : Int) (x3 : Int) (x5 : Int) (h : pH) : Int := if (pm_upd h 150 x5 (F_X7_firstChoice x5 x2 x3 h)) 150 x5 = (-1) then x3 else x3 - (s_X7_place_2 x2 x3 x5 h)
def C_X7_place_15 (x2 : Int) (x3 : Int) (x5 : Int) (h : pH) : Prop := x5 < h 147 5
noncomputable def B_X7_place_15 (x2 : Int) (x3 : Int) (x5 : Int) (h : pH) : Int × Int × Int × pH := (s_X7_place_3 x2 x3 x5 h, s_X7_place_4 x2 x3 x5 h, x5 + 1, pm_upd h 150 x5 (F_X7_firstChoice x5 x2 x3 h))
noncomputable def P_X7_place_15 (x2 : Int) (x3 : Int) (x5 : Int) (h : pH) : Prop := ((x5 < h 147 5) → P_X7_firstChoice x5 x2 x3 h ∧ (0 ≤ x5 ∧ x5 < 8) ∧ (((¬ (pm_upd h 150 x5 (F_X7_firstChoice x5 x2 x3 h)) 150 x5 = (-1)) → ((P_X7_worth ((pm_upd h 150 x5 (F_X7_firstChoice x5 x2 x3 h)) 150 x5) (pm_upd h 150 x5 (F_X7_firstChoice x5 x2 x3 h))) ∧ (fx_l (x3 - (s_X7_place_2 x2 x3 x5 h)))))) ∧ (fx_i (x5 + 1)))
noncomputable def L_X7_place_15 (x2 : Int) (x3 : Int) (x5 : Int) (h : pH) : Int × Int × Int × pH := fx_wh (σ := Int × Int × Int × pH) (fun s => C_X7_place_15 s.1 s.2.1 s.2.2.1 s.2.2.2) (fun s => B_X7_place_15 s.1 s.2.1 s.2.2.1 s.2.2.2) (x2, x3, x5, h)
def O_X7_place_15 (x2 : Int) (x3 : Int) (x5 : Int) (h : pH) : Prop := fx_ok (σ := Int × Int × Int × pH) (fun s => C_X7_place_15 s.1 s.2.1 s.2.2.1 s.2.2.2) (fun s => B_X7_place_15 s.1 s.2.1 s.2.2.1 s.2.2.2) (fun s => P_X7_place_15 s.1 s.2.1 s.2.2.1 s.2.2.2) (x2, x3, x5, h)
set_option maxHeartbeats 4000000 in
theorem lp_X7_place_15 (x2 : Int) (x3 : Int) (x5 : Int) (h : pH) {Q : Option pV → pH → Prop} (hp : O_X7_place_15 x2 x3 x5 h) (kk : ∀ us : List pV, WP 46 (56, [(9, 147), us.getD 0 pU, (0, (L_X7_place_15 x2 x3 x5 h).1), (1, (L_X7_place_15 x2 x3 x5 h).2.1), pU, (0, (L_X7_place_15 x2 x3 x5 h).2.2.1)], [], (L_X7_place_15 x2 x3 x5 h).2.2.2) Q) : ∀ us : List pV, WP 46 (15, [(9, 147), us.getD 0 pU, (0, x2), (1, x3), pU, (0, x5)], [], h) Q := by
  refine WP.wh (σ := Int × Int × Int × pH) (fun s => C_X7_place_15 s.1 s.2.1 s.2.2.1 s.2.2.2) (fun s => B_X7_place_15 s.1 s.2.1 s.2.2.1 s.2.2.2) (fun s => P_X7_place_15 s.1 s.2.1 s.2.2.1 s.2.2.2) (fun s us => (15, [(9, 147), us.getD 0 pU, (0, s.1), (1, s.2.1), pU, (0, s.2.2.1)], [], s.2.2.2)) (x2, x3, x5, h) hp ?_ ?_
  · intro s us hP hc kk
    obtain ⟨x2, x3, x5, h⟩ := s
    change P_X7_place_15 x2 x3 x5 h at hP
    change x5 < h 147 5 at hc
    replace kk : ∀ (us' : List pV) (s' : Int × Int × Int × pH), s' = B_X7_place_15 x2 x3 x5 h → WP 46 (15, [(9, 147), us'.getD 0 pU, (0, s'.1), (1, s'.2.1), pU, (0, s'.2.2.1)], [], s'.2.2.2) Q := fun us' s' e => by subst e; exact kk us'
    unfold P_X7_place_15 at hP
    obtain ⟨o6, o7, q14, o15⟩ := hP hc
    show WP 46 (15, [(9, 147), us.getD 0 pU, (0, x2), (1, x3), pU, (0, x5)], [], h) Q
    refine WP.iload rfl rfl ?_
    refine WP.aload_n rfl rfl ⟨by decide, by decide⟩ ?_
    refine WP.getI rfl rfl ?_
    refine WP.ni_ge rfl (fun c5 => ?_) (fun c5 => ?_)
    · exact absurd hc (Int.not_lt.mpr c5)
    · refine WP.aload_n rfl rfl ⟨by decide, by decide⟩ ?_
      refine WP.getRF (b := 150) rfl rfl rfl ?_
      refine WP.iload rfl rfl ?_
      refine WP.aload_n rfl rfl ⟨by decide, by decide⟩ ?_
      refine WP.iload rfl rfl ?_
      refine WP.iload_n rfl rfl ?_
      refine WP.lload_n rfl rfl ?_
      refine WP.callF (c_X7_firstChoice x5 x2 x3 h o6) rfl rfl (pm_cok rfl rfl (Or.inr ⟨_, _, rfl⟩) rfl rfl) rfl rfl ?_
      show WP 46 (27, [(9, 147), us.getD 0 pU, (0, x2), (1, x3), pU, (0, x5)], [(0, F_X7_firstChoice x5 x2 x3 h), (0, x5), (1032, 150)], h) Q
      refine WP.iastore rfl ⟨by decide, by decide, by decide⟩ o7 ?_
      refine WP.aload_n rfl rfl ⟨by decide, by decide⟩ ?_
      refine WP.getRF (b := 150) rfl rfl rfl ?_
      refine WP.iload rfl rfl ?_
      refine WP.iaload rfl ⟨by decide, by decide, by decide⟩ o7 ?_
      refine WP.iconst rfl ?_
      have k8 : ∀ Q' : Option pV → pH → Prop, (∀ us13 : List pV, WP 46 (54, [(9, 147), us13.getD 0 pU, (0, s_X7_place_3 x2 x3 x5 h), (1, s_X7_place_4 x2 x3 x5 h), pU, (0, x5)], [], pm_upd h 150 x5 (F_X7_firstChoice x5 x2 x3 h)) Q') → WP 46 (33, [(9, 147), us.getD 0 pU, (0, x2), (1, x3), pU, (0, x5)], [(0, (-1)), (0, (pm_upd h 150 x5 (F_X7_firstChoice x5 x2 x3 h)) 150 x5)], pm_upd h 150 x5 (F_X7_firstChoice x5 x2 x3 h)) Q' := fun Q' kk => by
        have q12 := q14
        refine WP.ni_eq rfl (fun c9 => ?_) (fun c9 => ?_)
        · have e := kk [us.getD 0 pU]; simp only [s_X7_place_3, s_X7_place_4, if_pos c9] at e ⊢; exact e
        · obtain ⟨o10, o11⟩ := q12 c9
          refine WP.iload_n rfl rfl ?_
          refine WP.iconst rfl ?_
          refine WP.aload_n rfl rfl ⟨by decide, by decide⟩ ?_
          refine WP.getRF (b := 150) rfl rfl rfl ?_
          refine WP.iload rfl rfl ?_
          refine WP.iaload rfl ⟨by decide, by decide, by decide⟩ o7 ?_
          refine WP.ishl rfl ?_
          refine WP.iconst rfl ?_
          refine WP.ixor rfl ?_
          refine WP.iand rfl ?_
          refine WP.istore_n (L' := [(9, 147), if (us.getD 0 pU).1 = 1 then pU else us.getD 0 pU, (0, pm_and x2 (pm_xor (pm_shl 1 ((pm_upd h 150 x5 (F_X7_firstChoice x5 x2 x3 h)) 150 x5)) (-1))), (1, x3), pU, (0, x5)]) rfl rfl ?_
          refine WP.lload_n rfl rfl ?_
          refine WP.aload_n rfl rfl ⟨by decide, by decide⟩ ?_
          refine WP.aload_n rfl rfl ⟨by decide, by decide⟩ ?_
          refine WP.getRF (b := 150) rfl rfl rfl ?_
          refine WP.iload rfl rfl ?_
          refine WP.iaload rfl ⟨by decide, by decide, by decide⟩ o7 ?_
          refine WP.callF (c_X7_worth ((pm_upd h 150 x5 (F_X7_firstChoice x5 x2 x3 h)) 150 x5) (pm_upd h 150 x5 (F_X7_firstChoice x5 x2 x3 h)) o10) rfl rfl (pm_cok rfl rfl (Or.inr ⟨_, _, rfl⟩) rfl rfl) rfl rfl ?_
          show WP 46 (52, [(9, 147), if (us.getD 0 pU).1 = 1 then pU else us.getD 0 pU, (0, pm_and x2 (pm_xor (pm_shl 1 ((pm_upd h 150 x5 (F_X7_firstChoice x5 x2 x3 h)) 150 x5)) (-1))), (1, x3), pU, (0, x5)], [(1, s_X7_place_2 x2 x3 x5 h), (1, x3)], pm_upd h 150 x5 (F_X7_firstChoice x5 x2 x3 h)) Q'
          refine WP.lsubE rfl o11 ?_
          refine WP.lstore_n (L' := [(9, 147), if (us.getD 0 pU).1 = 1 then pU else us.getD 0 pU, (0, pm_and x2 (pm_xor (pm_shl 1 ((pm_upd h 150 x5 (F_X7_firstChoice x5 x2 x3 h)) 150 x5)) (-1))), (1, x3 - (s_X7_place_2 x2 x3 x5 h)), pU, (0, x5)]) rfl rfl ?_
          have e := kk [if (us.getD 0 pU).1 = 1 then pU else us.getD 0 pU]; simp only [s_X7_place_3, s_X7_place_4, if_neg (c9)] at e ⊢; exact e
      refine k8 _ (fun us13 => ?_)
      refine WP.iincE (L' := [(9, 147), us13.getD 0 pU, (0, s_X7_place_3 x2 x3 x5 h), (1, s_X7_place_4 x2 x3 x5 h), pU, (0, x5 + 1)]) rfl rfl o15 rfl ?_
      refine WP.goto rfl ?_
      exact kk [us13.getD 0 pU] (s_X7_place_3 x2 x3 x5 h, s_X7_place_4 x2 x3 x5 h, x5 + 1, pm_upd h 150 x5 (F_X7_firstChoice x5 x2 x3 h)) (rfl)
  · intro hP hc
    generalize hs : (L_X7_place_15 x2 x3 x5 h : Int × Int × Int × pH) = s at kk
    change P_X7_place_15 (L_X7_place_15 x2 x3 x5 h).1 (L_X7_place_15 x2 x3 x5 h).2.1 (L_X7_place_15 x2 x3 x5 h).2.2.1 (L_X7_place_15 x2 x3 x5 h).2.2.2 at hP
    change ¬ C_X7_place_15 (L_X7_place_15 x2 x3 x5 h).1 (L_X7_place_15 x2 x3 x5 h).2.1 (L_X7_place_15 x2 x3 x5 h).2.2.1 (L_X7_place_15 x2 x3 x5 h).2.2.2 at hc
    intro us
    show WP 46 (15, [(9, 147), us.getD 0 pU, (0, (L_X7_place_15 x2 x3 x5 h).1), (1, (L_X7_place_15 x2 x3 x5 h).2.1), pU, (0, (L_X7_place_15 x2 x3 x5 h).2.2.1)], [], (L_X7_place_15 x2 x3 x5 h).2.2.2) Q
    rw [hs] at hP hc ⊢
    obtain ⟨x2, x3, x5, h⟩ := s
    change P_X7_place_15 x2 x3 x5 h at hP
    change ¬ (x5 < h 147 5) at hc
    unfold P_X7_place_15 at hP
    show WP 46 (15, [(9, 147), us.getD 0 pU, (0, x2), (1, x3), pU, (0, x5)], [], h) Q
    refine WP.iload rfl rfl ?_
    refine WP.aload_n rfl rfl ⟨by decide, by decide⟩ ?_
    refine WP.getI rfl rfl ?_
    refine WP.ni_ge rfl (fun c4 => ?_) (fun c4 => ?_)
    · exact kk [us.getD 0 pU]
    · exact absurd (show x5 < h 147 5 from c4) hc
noncomputable def s_X7_place_5 (a1 : Int) (h : pH) : Int := (L_X7_place_15 (F_X7_takeMachines a1 (H_X7_takeWorks (a1 + 21) h)) (s_X7_place_1 a1 h) 0 (H_X7_takeMachines a1 (H_X7_takeWorks (a1 + 21) h))).1
noncomputable def s_X7_place_6 (a1 : Int) (h : pH) : Int := (L_X7_place_15 (F_X7_takeMachines a1 (H_X7_takeWorks (a1 + 21) h)) (s_X7_place_1 a1 h) 0 (H_X7_takeMachines a1 (H_X7_takeWorks (a1 + 21) h))).2.1
noncomputable def s_X7_place_7 (a1 : Int) (h : pH) : Int := (L_X7_place_15 (F_X7_takeMachines a1 (H_X7_takeWorks (a1 + 21) h)) (s_X7_place_1 a1 h) 0 (H_X7_takeMachines a1 (H_X7_takeWorks (a1 + 21) h))).2.2.1
noncomputable def s_X7_place_8 (a1 : Int) (h : pH) : pH := (L_X7_place_15 (F_X7_takeMachines a1 (H_X7_takeWorks (a1 + 21) h)) (s_X7_place_1 a1 h) 0 (H_X7_takeMachines a1 (H_X7_takeWorks (a1 + 21) h))).2.2.2
noncomputable def H_X7_place (a1 : Int) (h : pH) : pH := s_X7_place_8 a1 h
noncomputable def P_X7_place (a1 : Int) (h : pH) : Prop := (P_X7_takeWorks (a1 + 21) h) ∧ (P_X7_takeMachines a1 (H_X7_takeWorks (a1 + 21) h)) ∧ (P_X7_bestFrom 0 (F_X7_takeMachines a1 (H_X7_takeWorks (a1 + 21) h)) (H_X7_takeMachines a1 (H_X7_takeWorks (a1 + 21) h))) ∧ (O_X7_place_15 (F_X7_takeMachines a1 (H_X7_takeWorks (a1 + 21) h)) (s_X7_place_1 a1 h) 0 (H_X7_takeMachines a1 (H_X7_takeWorks (a1 + 21) h)))
set_option maxHeartbeats 4000000 in
theorem w_X7_place (a1 : Int) (h : pH) {Q : Option pV → pH → Prop} (hp : P_X7_place a1 h) (kk : Q (none) (H_X7_place a1 h)) : WP 46 (0, [(9, 147), (6, a1), pU, pU, pU, pU], [], h) Q := by
  unfold P_X7_place at hp
  obtain ⟨o1, o2, o3, o16⟩ := hp
  refine WP.aload_n rfl rfl ⟨by decide, by decide⟩ ?_
  refine WP.aload_n rfl rfl ⟨by decide, by decide⟩ ?_
  refine WP.getR rfl rfl ?_
  refine WP.callF (c_X7_takeWorks (a1 + 21) h o1) rfl rfl (pm_cok rfl rfl (Or.inr ⟨_, _, rfl⟩) rfl rfl) rfl rfl ?_
  show WP 46 (4, [(9, 147), (6, a1), pU, pU, pU, pU], [], H_X7_takeWorks (a1 + 21) h) Q
  refine WP.aload_n rfl rfl ⟨by decide, by decide⟩ ?_
  refine WP.aload_n rfl rfl ⟨by decide, by decide⟩ ?_
  refine WP.callF (c_X7_takeMachines a1 (H_X7_takeWorks (a1 + 21) h) o2) rfl rfl (pm_cok rfl rfl (Or.inr ⟨_, _, rfl⟩) rfl rfl) rfl rfl ?_
  show WP 46 (7, [(9, 147), (6, a1), pU, pU, pU, pU], [(0, F_X7_takeMachines a1 (H_X7_takeWorks (a1 + 21) h))], H_X7_takeMachines a1 (H_X7_takeWorks (a1 + 21) h)) Q
  refine WP.istore_n (L' := [(9, 147), (6, a1), (0, F_X7_takeMachines a1 (H_X7_takeWorks (a1 + 21) h)), pU, pU, pU]) rfl rfl ?_
  refine WP.aload_n rfl rfl ⟨by decide, by decide⟩ ?_
  refine WP.iconst rfl ?_
  refine WP.iload_n rfl rfl ?_
  refine WP.callF (c_X7_bestFrom 0 (F_X7_takeMachines a1 (H_X7_takeWorks (a1 + 21) h)) (H_X7_takeMachines a1 (H_X7_takeWorks (a1 + 21) h)) o3) rfl rfl (pm_cok rfl rfl (Or.inr ⟨_, _, rfl⟩) rfl rfl) rfl rfl ?_
  show WP 46 (12, [(9, 147), (6, a1), (0, F_X7_takeMachines a1 (H_X7_takeWorks (a1 + 21) h)), pU, pU, pU], [(1, s_X7_place_1 a1 h)], H_X7_takeMachines a1 (H_X7_takeWorks (a1 + 21) h)) Q
  refine WP.lstore_n (L' := [(9, 147), (6, a1), (0, F_X7_takeMachines a1 (H_X7_takeWorks (a1 + 21) h)), (1, s_X7_place_1 a1 h), pU, pU]) rfl rfl ?_
  refine WP.iconst rfl ?_
  refine WP.istore (L' := [(9, 147), (6, a1), (0, F_X7_takeMachines a1 (H_X7_takeWorks (a1 + 21) h)), (1, s_X7_place_1 a1 h), pU, (0, 0)]) rfl rfl ?_
  refine lp_X7_place_15 (F_X7_takeMachines a1 (H_X7_takeWorks (a1 + 21) h)) (s_X7_place_1 a1 h) 0 (H_X7_takeMachines a1 (H_X7_takeWorks (a1 + 21) h)) o16 (fun us17 => ?_) [(6, a1)]
  show WP 46 (56, [(9, 147), us17.getD 0 pU, (0, s_X7_place_5 a1 h), (1, s_X7_place_6 a1 h), pU, (0, s_X7_place_7 a1 h)], [], s_X7_place_8 a1 h) Q
  refine WP.retv rfl ?_; exact kk
theorem c_X7_place (a1 : Int) (h : pH) (hp : P_X7_place a1 h) : CP 46 [(9, 147), (6, a1)] h (fun r h1 => r = none ∧ h1 = H_X7_place a1 h) := w_X7_place a1 h hp ⟨rfl, rfl⟩
