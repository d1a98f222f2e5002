noncomputable def s_X10_setHouse_1 (a0 : Int) (a1 : Int) (a2 : Int) (a3 : Int) (a4 : Int) (h : pH) : pH := pm_upd (pm_upd (pm_upd h (a0 + 1) a1 a2) (a0 + 2) a1 a3) (a0 + 3) a1 a4
noncomputable def H_X10_setHouse (a0 : Int) (a1 : Int) (a2 : Int) (a3 : Int) (a4 : Int) (h : pH) : pH := H_X10_putInOrder a0 (s_X10_setHouse_1 a0 a1 a2 a3 a4 h)
noncomputable def P_X10_setHouse (a0 : Int) (a1 : Int) (a2 : Int) (a3 : Int) (a4 : Int) (h : pH) : Prop := (0 ≤ a1 ∧ a1 < 8) ∧ (P_X10_putInOrder a0 (s_X10_setHouse_1 a0 a1 a2 a3 a4 h))
set_option maxHeartbeats 4000000 in
theorem w_X10_setHouse (a0 : Int) (a1 : Int) (a2 : Int) (a3 : Int) (a4 : Int) (h : pH) {Q : Option pV → pH → Prop} (hp : P_X10_setHouse a0 a1 a2 a3 a4 h) (kk : Q (none) (H_X10_setHouse a0 a1 a2 a3 a4 h)) : WP 76 (0, [(12, a0), (0, a1), (0, a2), (0, a3), (0, a4)], [], h) Q := by
  unfold P_X10_setHouse at hp
  obtain ⟨o1, o2⟩ := hp
  refine WP.aload_n rfl rfl ⟨by decide, by decide⟩ ?_
  refine WP.getR rfl rfl ?_
  refine WP.iload_n rfl rfl ?_
  refine WP.iload_n rfl rfl ?_
  refine WP.iastore rfl ⟨by decide, by decide, by decide⟩ o1 ?_
  refine WP.aload_n rfl rfl ⟨by decide, by decide⟩ ?_
  refine WP.getR rfl rfl ?_
  refine WP.iload_n rfl rfl ?_
  refine WP.iload_n rfl rfl ?_
  refine WP.iastore rfl ⟨by decide, by decide, by decide⟩ o1 ?_
  refine WP.aload_n rfl rfl ⟨by decide, by decide⟩ ?_
  refine WP.getR rfl rfl ?_
  refine WP.iload_n rfl rfl ?_
  refine WP.iload rfl rfl ?_
  refine WP.iastore rfl ⟨by decide, by decide, by decide⟩ o1 ?_
  show WP 76 (15, [(12, a0), (0, a1), (0, a2), (0, a3), (0, a4)], [], s_X10_setHouse_1 a0 a1 a2 a3 a4 h) Q
  refine WP.aload_n rfl rfl ⟨by decide, by decide⟩ ?_
  refine WP.callF (c_X10_putInOrder a0 (s_X10_setHouse_1 a0 a1 a2 a3 a4 h) o2) rfl rfl (pm_cok rfl rfl (Or.inr ⟨_, _, rfl⟩) rfl rfl) rfl rfl ?_
  show WP 76 (17, [(12, a0), (0, a1), (0, a2), (0, a3), (0, a4)], [], H_X10_putInOrder a0 (s_X10_setHouse_1 a0 a1 a2 a3 a4 h)) Q
  refine WP.retv rfl ?_; exact kk
theorem c_X10_setHouse (a0 : Int) (a1 : Int) (a2 : Int) (a3 : Int) (a4 : Int) (h : pH) (hp : P_X10_setHouse a0 a1 a2 a3 a4 h) : CP 76 [(12, a0), (0, a1), (0, a2), (0, a3), (0, a4)] h (fun r h1 => r = none ∧ h1 = H_X10_setHouse a0 a1 a2 a3 a4 h) := w_X10_setHouse a0 a1 a2 a3 a4 h hp ⟨rfl, rfl⟩
noncomputable def s_X10_add_1 (a0 : Int) (a1 : Int) (a2 : Int) (h : pH) : pH := pm_upd (pm_upd h (a0 + 5) (h a0 15) a1) (a0 + 6) (h a0 15) a2
noncomputable def s_X10_add_2 (a0 : Int) (a1 : Int) (a2 : Int) (a3 : Int) (h : pH) : pH := pm_upd (pm_upd (s_X10_add_1 a0 a1 a2 h) (a0 + 9) (h a0 15) a3) (a0 + 10) (h a0 15) 0
noncomputable def s_X10_add_3 (a0 : Int) (a1 : Int) (a2 : Int) (a3 : Int) (h : pH) : pH := pm_upd (pm_upd (s_X10_add_2 a0 a1 a2 a3 h) (a0 + 12) (h a0 15) 0) (a0 + 14) (h a0 15) (-1)
noncomputable def s_X10_add_4 (a0 : Int) (a1 : Int) (a2 : Int) (a3 : Int) (h : pH) : pH := pm_upd (s_X10_add_3 a0 a1 a2 a3 h) a0 15 (((s_X10_add_3 a0 a1 a2 a3 h) a0 15) + 1)
noncomputable def F_X10_add (a0 : Int) (a1 : Int) (a2 : Int) (a3 : Int) (h : pH) : Int := h a0 15
noncomputable def H_X10_add (a0 : Int) (a1 : Int) (a2 : Int) (a3 : Int) (h : pH) : pH := H_X10_putInOrder a0 (s_X10_add_4 a0 a1 a2 a3 h)
noncomputable def P_X10_add (a0 : Int) (a1 : Int) (a2 : Int) (a3 : Int) (h : pH) : Prop := (0 ≤ h a0 15 ∧ h a0 15 < 16) ∧ (fx_i (((s_X10_add_3 a0 a1 a2 a3 h) a0 15) + 1)) ∧ (P_X10_putInOrder a0 (s_X10_add_4 a0 a1 a2 a3 h))
set_option maxHeartbeats 4000000 in
theorem w_X10_add (a0 : Int) (a1 : Int) (a2 : Int) (a3 : Int) (h : pH) {Q : Option pV → pH → Prop} (hp : P_X10_add a0 a1 a2 a3 h) (kk : Q (some (0, F_X10_add a0 a1 a2 a3 h)) (H_X10_add a0 a1 a2 a3 h)) : WP 79 (0, [(12, a0), (0, a1), (0, a2), (0, a3), pU], [], h) Q := by
  unfold P_X10_add at hp
  obtain ⟨o1, o2, o3⟩ := hp
  refine WP.aload_n rfl rfl ⟨by decide, by decide⟩ ?_
  refine WP.getI rfl rfl ?_
  refine WP.istore (L' := [(12, a0), (0, a1), (0, a2), (0, a3), (0, h a0 15)]) rfl rfl ?_
  refine WP.aload_n rfl rfl ⟨by decide, by decide⟩ ?_
  refine WP.getR rfl rfl ?_
  refine WP.iload rfl rfl ?_
  refine WP.iload_n rfl rfl ?_
  refine WP.iastore rfl ⟨by decide, by decide, by decide⟩ o1 ?_
  refine WP.aload_n rfl rfl ⟨by decide, by decide⟩ ?_
  refine WP.getR rfl rfl ?_
  refine WP.iload rfl rfl ?_
  refine WP.iload_n rfl rfl ?_
  refine WP.iastore rfl ⟨by decide, by decide, by decide⟩ o1 ?_
  show WP 79 (13, [(12, a0), (0, a1), (0, a2), (0, a3), (0, h a0 15)], [], s_X10_add_1 a0 a1 a2 h) Q
  refine WP.aload_n rfl rfl ⟨by decide, by decide⟩ ?_
  refine WP.getR rfl rfl ?_
  refine WP.iload rfl rfl ?_
  refine WP.iload_n rfl rfl ?_
  refine WP.iastore rfl ⟨by decide, by decide, by decide⟩ o1 ?_
  refine WP.aload_n rfl rfl ⟨by decide, by decide⟩ ?_
  refine WP.getR rfl rfl ?_
  refine WP.iload rfl rfl ?_
  refine WP.iconst rfl ?_
  refine WP.iastore rfl ⟨by decide, by decide, by decide⟩ o1 ?_
  show WP 79 (23, [(12, a0), (0, a1), (0, a2), (0, a3), (0, h a0 15)], [], s_X10_add_2 a0 a1 a2 a3 h) Q
  refine WP.aload_n rfl rfl ⟨by decide, by decide⟩ ?_
  refine WP.getR rfl rfl ?_
  refine WP.iload rfl rfl ?_
  refine WP.iconst rfl ?_
  refine WP.iastore rfl ⟨by decide, by decide, by decide⟩ o1 ?_
  refine WP.aload_n rfl rfl ⟨by decide, by decide⟩ ?_
  refine WP.getR rfl rfl ?_
  refine WP.iload rfl rfl ?_
  refine WP.iconst rfl ?_
  refine WP.iastore rfl ⟨by decide, by decide, by decide⟩ o1 ?_
  show WP 79 (33, [(12, a0), (0, a1), (0, a2), (0, a3), (0, h a0 15)], [], s_X10_add_3 a0 a1 a2 a3 h) Q
  refine WP.aload_n rfl rfl ⟨by decide, by decide⟩ ?_
  refine WP.dup rfl (by decide) ?_
  refine WP.getI rfl rfl ?_
  refine WP.iconst rfl ?_
  refine WP.iaddE rfl o2 ?_
  refine WP.putI rfl rfl ?_
  show WP 79 (39, [(12, a0), (0, a1), (0, a2), (0, a3), (0, h a0 15)], [], s_X10_add_4 a0 a1 a2 a3 h) Q
  refine WP.aload_n rfl rfl ⟨by decide, by decide⟩ ?_
  refine WP.callF (c_X10_putInOrder a0 (s_X10_add_4 a0 a1 a2 a3 h) o3) rfl rfl (pm_cok rfl rfl (Or.inr ⟨_, _, rfl⟩) rfl rfl) rfl rfl ?_
  show WP 79 (41, [(12, a0), (0, a1), (0, a2), (0, a3), (0, h a0 15)], [], H_X10_putInOrder a0 (s_X10_add_4 a0 a1 a2 a3 h)) Q
  refine WP.iload rfl rfl ?_
  refine WP.reti rfl ?_; exact kk
theorem c_X10_add (a0 : Int) (a1 : Int) (a2 : Int) (a3 : Int) (h : pH) (hp : P_X10_add a0 a1 a2 a3 h) : CP 79 [(12, a0), (0, a1), (0, a2), (0, a3)] h (fun r h1 => r = some (0, F_X10_add a0 a1 a2 a3 h) ∧ h1 = H_X10_add a0 a1 a2 a3 h) := w_X10_add a0 a1 a2 a3 h hp ⟨rfl, rfl⟩
noncomputable def s_X11_fitted_1 (h : pH) : Int := if h 43 3 = 0 then (-1) else F_X3_likeliest 43 h
noncomputable def F_X11_fitted (h : pH) : Int := s_X11_fitted_1 h
noncomputable def H_X11_fitted (h : pH) : pH := if h 43 3 = 0 then h else H_X3_likeliest 43 h
noncomputable def P_X11_fitted (h : pH) : Prop := (((¬ h 43 3 = 0) → P_X3_likeliest 43 h))
set_option maxHeartbeats 4000000 in
theorem w_X11_fitted (h : pH) {Q : Option pV → pH → Prop} (hp : P_X11_fitted h) (kk : Q (some (0, F_X11_fitted h)) (H_X11_fitted h)) : WP 122 (0, [(13, 0)], [], h) Q := by
  unfold P_X11_fitted at hp
  have q6 := hp
  refine WP.aload_n rfl rfl ⟨by decide, by decide⟩ ?_
  refine WP.getRF (b := 1) rfl rfl rfl ?_
  refine WP.getRF (b := 43) rfl rfl rfl ?_
  refine WP.getI rfl rfl ?_
  have k1 : ∀ Q' : Option pV → pH → Prop, (WP 122 (13, [(13, 0)], [(0, s_X11_fitted_1 h)], if h 43 3 = 0 then h else H_X3_likeliest 43 h) Q') → WP 122 (4, [(13, 0)], [(0, h 43 3)], h) Q' := fun Q' kk => by
    have q4 := q6
    refine WP.nz_ne rfl (fun c2 => ?_) (fun c2 => ?_)
    · have o3 := q4 c2
      refine WP.aload_n rfl rfl ⟨by decide, by decide⟩ ?_
      refine WP.getRF (b := 153) rfl rfl rfl ?_
      refine WP.aload_n rfl rfl ⟨by decide, by decide⟩ ?_
      refine WP.getRF (b := 1) rfl rfl rfl ?_
      refine WP.getRF (b := 43) rfl rfl rfl ?_
      refine WP.callF (c_X3_likeliest 43 h o3) rfl rfl (pm_cok rfl rfl (Or.inr ⟨_, _, rfl⟩) rfl rfl) rfl rfl ?_
      show WP 122 (13, [(13, 0)], [(0, F_X3_likeliest 43 h)], H_X3_likeliest 43 h) Q'
      have e := kk; simp only [s_X11_fitted_1, if_neg (c2)] at e ⊢; exact e
    · refine WP.iconst rfl ?_
      refine WP.goto rfl ?_
      have e := kk; simp only [s_X11_fitted_1, if_pos c2] at e ⊢; exact e
  refine k1 _ ?_
  refine WP.reti rfl ?_; exact kk
theorem c_X11_fitted (h : pH) (hp : P_X11_fitted h) : CP 122 [(13, 0)] h (fun r h1 => r = some (0, F_X11_fitted h) ∧ h1 = H_X11_fitted h) := w_X11_fitted h hp ⟨rfl, rfl⟩
noncomputable def F_X11_begin (h : pH) : Int := h 99 3
noncomputable def H_X11_begin (h : pH) : pH := H_X1_open 1 h
set_option maxHeartbeats 4000000 in
theorem w_X11_begin (h : pH) {Q : Option pV → pH → Prop} (kk : Q (some (0, F_X11_begin h)) (H_X11_begin h)) : WP 127 (0, [(13, 0), pU], [], h) Q := by
  refine WP.aload_n rfl rfl ⟨by decide, by decide⟩ ?_
  refine WP.getRF (b := 99) rfl rfl rfl ?_
  refine WP.getI rfl rfl ?_
  refine WP.istore_n (L' := [(13, 0), (0, h 99 3)]) rfl rfl ?_
  refine WP.aload_n rfl rfl ⟨by decide, by decide⟩ ?_
  refine WP.getRF (b := 99) rfl rfl rfl ?_
  refine WP.aload_n rfl rfl ⟨by decide, by decide⟩ ?_
  refine WP.getRF (b := 1) rfl rfl rfl ?_
  refine WP.callF (c_X1_open 1 h) rfl rfl (pm_cok rfl rfl (Or.inr ⟨_, _, rfl⟩) rfl rfl) rfl rfl ?_
  show WP 127 (9, [(13, 0), (0, h 99 3)], [], H_X1_open 1 h) Q
  refine WP.iload_n rfl rfl ?_
  refine WP.reti rfl ?_; exact kk
theorem c_X11_begin (h : pH) : CP 127 [(13, 0)] h (fun r h1 => r = some (0, F_X11_begin h) ∧ h1 = H_X11_begin h) := w_X11_begin h ⟨rfl, rfl⟩
noncomputable def F_X12_named (a1 : Int) (h : pH) : Int := if a1 = 103 then F_X12_greatest h else if a1 = 109 then h 249 15 else if a1 = 112 then h 249 (60 + (Int.tmod (h 249 15) 24)) else if a1 = 115 then h 249 7 else if a1 = 119 then F_X12_openWorks h else F_X12_failedOnes h
noncomputable def P_X12_named (a1 : Int) (h : pH) : Prop := (((a1 = 103) → P_X12_greatest h) ∧ ((¬ a1 = 103) → (((¬ a1 = 109) → ((((a1 = 112) → (P_X12_at 15 h ∧ (fx_i (60 + (Int.tmod (h 249 15) 24))) ∧ (0 ≤ 60 + (Int.tmod (h 249 15) 24) ∧ 60 + (Int.tmod (h 249 15) 24) < 620))) ∧ ((¬ a1 = 112) → (((¬ a1 = 115) → ((((a1 = 119) → P_X12_openWorks h) ∧ ((¬ a1 = 119) → P_X12_failedOnes h))))))))))))
set_option maxHeartbeats 4000000 in
theorem w_X12_named (a1 : Int) (h : pH) {Q : Option pV → pH → Prop} (hp : P_X12_named a1 h) (kk : Q (some (1, F_X12_named a1 h)) (h)) : WP 172 (0, [(14, 248), (0, a1)], [], h) Q := by
  unfold P_X12_named at hp
  have q16 := hp
  refine WP.iload_n rfl rfl ?_
  refine WP.lsw rfl ?_
  show WP 172 (pm_look [(103, 2), (109, 25), (112, 5), (115, 16), (119, 21)] 30 a1, [(14, 248), (0, a1)], [], h) Q
  refine WP.lk (fun (c1 : a1 = 103) => ?_) (fun (c1 : ¬ a1 = 103) => ?_)
  · have o2 := q16.1 c1
    show WP 172 (2, [(14, 248), (0, a1)], [], h) Q
    refine WP.aload_n rfl rfl ⟨by decide, by decide⟩ ?_
    refine WP.callF (c_X12_greatest h o2) rfl rfl (pm_cok rfl rfl (Or.inr ⟨_, _, rfl⟩) rfl rfl) rfl rfl ?_
    show WP 172 (4, [(14, 248), (0, a1)], [(1, F_X12_greatest h)], h) Q
    refine WP.retl rfl ?_; have e := kk; simp only [F_X12_named, if_pos c1] at e ⊢; exact e
  · have q15 := q16.2 c1
    refine WP.lk (fun (c3 : a1 = 109) => ?_) (fun (c3 : ¬ a1 = 109) => ?_)
    · show WP 172 (25, [(14, 248), (0, a1)], [], h) Q
      refine WP.aload_n rfl rfl ⟨by decide, by decide⟩ ?_
      refine WP.getRF (b := 249) rfl rfl rfl ?_
      refine WP.bipush rfl ?_
      refine WP.laload rfl ⟨by decide, by decide, by decide⟩ (by decide) ?_
      refine WP.retl rfl ?_; have e := kk; simp only [F_X12_named, if_neg (c1), if_pos c3] at e ⊢; exact e
    · have q14 := q15 c3
      refine WP.lk (fun (c4 : a1 = 112) => ?_) (fun (c4 : ¬ a1 = 112) => ?_)
      · obtain ⟨o5, o6, o7⟩ := q14.1 c4
        show WP 172 (5, [(14, 248), (0, a1)], [], h) Q
        refine WP.aload_n rfl rfl ⟨by decide, by decide⟩ ?_
        refine WP.getRF (b := 249) rfl rfl rfl ?_
        refine WP.bipush rfl ?_
        refine WP.aload_n rfl rfl ⟨by decide, by decide⟩ ?_
        refine WP.bipush rfl ?_
        refine WP.callF (c_X12_at 15 h o5) rfl rfl (pm_cok rfl rfl (Or.inr ⟨_, _, rfl⟩) rfl rfl) rfl rfl ?_
        show WP 172 (11, [(14, 248), (0, a1)], [(0, h 249 15), (0, 60), (3481, 249)], h) Q
        refine WP.bipush rfl ?_
        refine WP.irem rfl (show (24 : Int) ≠ 0 by decide) ?_
        refine WP.iaddE rfl o6 ?_
        refine WP.laload rfl ⟨by decide, by decide, by decide⟩ o7 ?_
        refine WP.retl rfl ?_; have e := kk; simp only [F_X12_named, if_neg (c1), if_neg (c3), if_pos c4] at e ⊢; exact e
      · have q13 := q14.2 c4
        refine WP.lk (fun (c8 : a1 = 115) => ?_) (fun (c8 : ¬ a1 = 115) => ?_)
        · show WP 172 (16, [(14, 248), (0, a1)], [], h) Q
          refine WP.aload_n rfl rfl ⟨by decide, by decide⟩ ?_
          refine WP.getRF (b := 249) rfl rfl rfl ?_
          refine WP.bipush rfl ?_
          refine WP.laload rfl ⟨by decide, by decide, by decide⟩ (by decide) ?_
          refine WP.retl rfl ?_; have e := kk; simp only [F_X12_named, if_neg (c1), if_neg (c3), if_neg (c4), if_pos c8] at e ⊢; exact e
        · have q12 := q13 c8
          refine WP.lk (fun (c9 : a1 = 119) => ?_) (fun (c9 : ¬ a1 = 119) => ?_)
          · have o10 := q12.1 c9
            show WP 172 (21, [(14, 248), (0, a1)], [], h) Q
            refine WP.aload_n rfl rfl ⟨by decide, by decide⟩ ?_
            refine WP.callF (c_X12_openWorks h o10) rfl rfl (pm_cok rfl rfl (Or.inr ⟨_, _, rfl⟩) rfl rfl) rfl rfl ?_
            show WP 172 (23, [(14, 248), (0, a1)], [(0, F_X12_openWorks h)], h) Q
            refine WP.i2l rfl ?_
            refine WP.retl rfl ?_; have e := kk; simp only [F_X12_named, if_neg (c1), if_neg (c3), if_neg (c4), if_neg (c8), if_pos c9] at e ⊢; exact e
          · have o11 := q12.2 c9
            show WP 172 (30, [(14, 248), (0, a1)], [], h) Q
            refine WP.aload_n rfl rfl ⟨by decide, by decide⟩ ?_
            refine WP.callF (c_X12_failedOnes h o11) rfl rfl (pm_cok rfl rfl (Or.inr ⟨_, _, rfl⟩) rfl rfl) rfl rfl ?_
            show WP 172 (32, [(14, 248), (0, a1)], [(0, F_X12_failedOnes h)], h) Q
            refine WP.i2l rfl ?_
            refine WP.retl rfl ?_; have e := kk; simp only [F_X12_named, if_neg (c1), if_neg (c3), if_neg (c4), if_neg (c8), if_neg (c9)] at e ⊢; exact e
theorem c_X12_named (a1 : Int) (h : pH) (hp : P_X12_named a1 h) : CP 172 [(14, 248), (0, a1)] h (fun r h1 => r = some (1, F_X12_named a1 h) ∧ h1 = h) := w_X12_named a1 h hp ⟨rfl, rfl⟩
noncomputable def F_X12_now (a1 : Int) (h : pH) : Int := if a1 = 0 then h 249 15 else if a1 = 1 then h 249 16 else if a1 = 2 then h 249 7 else if a1 = 3 then h 249 17 else if a1 = 4 then F_X12_openWorks h else if a1 = 5 then F_X12_failedOnes h else if a1 = 6 then F_X12_allHeat h else if a1 = 7 then h 249 18 else (-2000000000000000000)
noncomputable def P_X12_now (a1 : Int) (h : pH) : Prop := ((¬ a1 = 0) → (((¬ a1 = 1) → (((¬ a1 = 2) → (((¬ a1 = 3) → ((((a1 = 4) → P_X12_openWorks h) ∧ ((¬ a1 = 4) → ((((a1 = 5) → P_X12_failedOnes h) ∧ ((¬ a1 = 5) → (((a1 = 6) → P_X12_allHeat h)))))))))))))))
set_option maxHeartbeats 4000000 in
theorem w_X12_now (a1 : Int) (h : pH) {Q : Option pV → pH → Prop} (hp : P_X12_now a1 h) (kk : Q (some (1, F_X12_now a1 h)) (h)) : WP 201 (0, [(14, 248), (0, a1)], [], h) Q := by
  unfold P_X12_now at hp
  have q18 := hp
  refine WP.iload_n rfl rfl ?_
  refine WP.ntsw rfl rfl ?_
  show WP 201 (fx_sw 0 [2, 7, 12, 17, 22, 26, 30, 33] 38 a1, [(14, 248), (0, a1)], [], h) Q
  refine WP.nsl rfl (fun (c1 : a1 = 0) => ?_) (fun (c1 : ¬ a1 = 0) => ?_)
  · show WP 201 (2, [(14, 248), (0, a1)], [], h) Q
    refine WP.aload_n rfl rfl ⟨by decide, by decide⟩ ?_
    refine WP.getRF (b := 249) rfl rfl rfl ?_
    refine WP.bipush rfl ?_
    refine WP.laload rfl ⟨by decide, by decide, by decide⟩ (by decide) ?_
    refine WP.retl rfl ?_; have e := kk; simp only [F_X12_now, if_pos c1] at e ⊢; exact e
  · have q17 := q18 c1
    refine WP.nsl rfl (fun (c2 : a1 = 1) => ?_) (fun (c2 : ¬ a1 = 1) => ?_)
    · show WP 201 (7, [(14, 248), (0, a1)], [], h) Q
      refine WP.aload_n rfl rfl ⟨by decide, by decide⟩ ?_
      refine WP.getRF (b := 249) rfl rfl rfl ?_
      refine WP.bipush rfl ?_
      refine WP.laload rfl ⟨by decide, by decide, by decide⟩ (by decide) ?_
      refine WP.retl rfl ?_; have e := kk; simp only [F_X12_now, if_neg (c1), if_pos c2] at e ⊢; exact e
    · have q16 := q17 c2
      refine WP.nsl rfl (fun (c3 : a1 = 2) => ?_) (fun (c3 : ¬ a1 = 2) => ?_)
      · show WP 201 (12, [(14, 248), (0, a1)], [], h) Q
        refine WP.aload_n rfl rfl ⟨by decide, by decide⟩ ?_
        refine WP.getRF (b := 249) rfl rfl rfl ?_
        refine WP.bipush rfl ?_
        refine WP.laload rfl ⟨by decide, by decide, by decide⟩ (by decide) ?_
        refine WP.retl rfl ?_; have e := kk; simp only [F_X12_now, if_neg (c1), if_neg (c2), if_pos c3] at e ⊢; exact e
      · have q15 := q16 c3
        refine WP.nsl rfl (fun (c4 : a1 = 3) => ?_) (fun (c4 : ¬ a1 = 3) => ?_)
        · show WP 201 (17, [(14, 248), (0, a1)], [], h) Q
          refine WP.aload_n rfl rfl ⟨by decide, by decide⟩ ?_
          refine WP.getRF (b := 249) rfl rfl rfl ?_
          refine WP.bipush rfl ?_
          refine WP.laload rfl ⟨by decide, by decide, by decide⟩ (by decide) ?_
          refine WP.retl rfl ?_; have e := kk; simp only [F_X12_now, if_neg (c1), if_neg (c2), if_neg (c3), if_pos c4] at e ⊢; exact e
        · have q14 := q15 c4
          refine WP.nsl rfl (fun (c5 : a1 = 4) => ?_) (fun (c5 : ¬ a1 = 4) => ?_)
          · have o6 := q14.1 c5
            show WP 201 (22, [(14, 248), (0, a1)], [], h) Q
            refine WP.aload_n rfl rfl ⟨by decide, by decide⟩ ?_
            refine WP.callF (c_X12_openWorks h o6) rfl rfl (pm_cok rfl rfl (Or.inr ⟨_, _, rfl⟩) rfl rfl) rfl rfl ?_
            show WP 201 (24, [(14, 248), (0, a1)], [(0, F_X12_openWorks h)], h) Q
            refine WP.i2l rfl ?_
            refine WP.retl rfl ?_; have e := kk; simp only [F_X12_now, if_neg (c1), if_neg (c2), if_neg (c3), if_neg (c4), if_pos c5] at e ⊢; exact e
          · have q13 := q14.2 c5
            refine WP.nsl rfl (fun (c7 : a1 = 5) => ?_) (fun (c7 : ¬ a1 = 5) => ?_)
            · have o8 := q13.1 c7
              show WP 201 (26, [(14, 248), (0, a1)], [], h) Q
              refine WP.aload_n rfl rfl ⟨by decide, by decide⟩ ?_
              refine WP.callF (c_X12_failedOnes h o8) rfl rfl (pm_cok rfl rfl (Or.inr ⟨_, _, rfl⟩) rfl rfl) rfl rfl ?_
              show WP 201 (28, [(14, 248), (0, a1)], [(0, F_X12_failedOnes h)], h) Q
              refine WP.i2l rfl ?_
              refine WP.retl rfl ?_; have e := kk; simp only [F_X12_now, if_neg (c1), if_neg (c2), if_neg (c3), if_neg (c4), if_neg (c5), if_pos c7] at e ⊢; exact e
            · have q12 := q13.2 c7
              refine WP.nsl rfl (fun (c9 : a1 = 6) => ?_) (fun (c9 : ¬ a1 = 6) => ?_)
              · have o10 := q12 c9
                show WP 201 (30, [(14, 248), (0, a1)], [], h) Q
                refine WP.aload_n rfl rfl ⟨by decide, by decide⟩ ?_
                refine WP.callF (c_X12_allHeat h o10) rfl rfl (pm_cok rfl rfl (Or.inr ⟨_, _, rfl⟩) rfl rfl) rfl rfl ?_
                show WP 201 (32, [(14, 248), (0, a1)], [(1, F_X12_allHeat h)], h) Q
                refine WP.retl rfl ?_; have e := kk; simp only [F_X12_now, if_neg (c1), if_neg (c2), if_neg (c3), if_neg (c4), if_neg (c5), if_neg (c7), if_pos c9] at e ⊢; exact e
              · refine WP.nsl rfl (fun (c11 : a1 = 7) => ?_) (fun (c11 : ¬ a1 = 7) => ?_)
                · show WP 201 (33, [(14, 248), (0, a1)], [], h) Q
                  refine WP.aload_n rfl rfl ⟨by decide, by decide⟩ ?_
                  refine WP.getRF (b := 249) rfl rfl rfl ?_
                  refine WP.bipush rfl ?_
                  refine WP.laload rfl ⟨by decide, by decide, by decide⟩ (by decide) ?_
                  refine WP.retl rfl ?_; have e := kk; simp only [F_X12_now, if_neg (c1), if_neg (c2), if_neg (c3), if_neg (c4), if_neg (c5), if_neg (c7), if_neg (c9), if_pos c11] at e ⊢; exact e
                · show WP 201 (38, [(14, 248), (0, a1)], [], h) Q
                  refine WP.ldc2_w rfl ?_
                  refine WP.retl rfl ?_; have e := kk; simp only [F_X12_now, if_neg (c1), if_neg (c2), if_neg (c3), if_neg (c4), if_neg (c5), if_neg (c7), if_neg (c9), if_neg (c11)] at e ⊢; exact e
theorem c_X12_now (a1 : Int) (h : pH) (hp : P_X12_now a1 h) : CP 201 [(14, 248), (0, a1)] h (fun r h1 => r = some (1, F_X12_now a1 h) ∧ h1 = h) := w_X12_now a1 h hp ⟨rfl, rfl⟩
def C_X12_placing_12 (a1 : Int) (y2 : Int) (h : pH) (x3 : Int) (x4 : Int) : Prop := x4 < y2
noncomputable def B_X12_placing_12 (a1 : Int) (y2 : Int) (h : pH) (x3 : Int) (x4 : Int) : Int × Int := (if (¬ x3 = 0) ∨ h 267 x4 = a1 then 1 else 0, x4 + 1)
noncomputable def P_X12_placing_12 (a1 : Int) (y2 : Int) (h : pH) (x3 : Int) (x4 : Int) : Prop := ((x4 < y2) → (((x3 = 0) → ((0 ≤ x4 ∧ x4 < 16)))) ∧ (fx_i (x4 + 1)))
noncomputable def L_X12_placing_12 (a1 : Int) (y2 : Int) (h : pH) (x3 : Int) (x4 : Int) : Int × Int := fx_wh (σ := Int × Int) (fun s => C_X12_placing_12 a1 y2 h s.1 s.2) (fun s => B_X12_placing_12 a1 y2 h s.1 s.2) (x3, x4)
def O_X12_placing_12 (a1 : Int) (y2 : Int) (h : pH) (x3 : Int) (x4 : Int) : Prop := fx_ok (σ := Int × Int) (fun s => C_X12_placing_12 a1 y2 h s.1 s.2) (fun s => B_X12_placing_12 a1 y2 h s.1 s.2) (fun s => P_X12_placing_12 a1 y2 h s.1 s.2) (x3, x4)
set_option maxHeartbeats 4000000 in
theorem lp_X12_placing_12 (a1 : Int) (y2 : Int) (h : pH) (x3 : Int) (x4 : Int) {Q : Option pV → pH → Prop} (hp : O_X12_placing_12 a1 y2 h x3 x4) (kk : ∀ us : List pV, WP 204 (29, [(14, 248), (0, a1), (0, y2), (0, (L_X12_placing_12 a1 y2 h x3 x4).1), (0, (L_X12_placing_12 a1 y2 h x3 x4).2), us.getD 0 pU, us.getD 1 pU, us.getD 2 pU, us.getD 3 pU, us.getD 4 pU, us.getD 5 pU, us.getD 6 pU], [], h) Q) : ∀ us : List pV, WP 204 (12, [(14, 248), (0, a1), (0, y2), (0, x3), (0, x4), us.getD 0 pU, us.getD 1 pU, us.getD 2 pU, us.getD 3 pU, us.getD 4 pU, us.getD 5 pU, us.getD 6 pU], [], h) Q := by
  refine WP.wh (σ := Int × Int) (fun s => C_X12_placing_12 a1 y2 h s.1 s.2) (fun s => B_X12_placing_12 a1 y2 h s.1 s.2) (fun s => P_X12_placing_12 a1 y2 h s.1 s.2) (fun s us => (12, [(14, 248), (0, a1), (0, y2), (0, s.1), (0, s.2), us.getD 0 pU, us.getD 1 pU, us.getD 2 pU, us.getD 3 pU, us.getD 4 pU, us.getD 5 pU, us.getD 6 pU], [], h)) (x3, x4) hp ?_ ?_
  · intro s us hP hc kk
    obtain ⟨x3, x4⟩ := s
    change P_X12_placing_12 a1 y2 h x3 x4 at hP
    change x4 < y2 at hc
    replace kk : ∀ (us' : List pV) (s' : Int × Int), s' = B_X12_placing_12 a1 y2 h x3 x4 → WP 204 (12, [(14, 248), (0, a1), (0, y2), (0, s'.1), (0, s'.2), us'.getD 0 pU, us'.getD 1 pU, us'.getD 2 pU, us'.getD 3 pU, us'.getD 4 pU, us'.getD 5 pU, us'.getD 6 pU], [], h) Q := fun us' s' e => by subst e; exact kk us'
    unfold P_X12_placing_12 at hP
    obtain ⟨q13, o14⟩ := hP hc
    show WP 204 (12, [(14, 248), (0, a1), (0, y2), (0, x3), (0, x4), us.getD 0 pU, us.getD 1 pU, us.getD 2 pU, us.getD 3 pU, us.getD 4 pU, us.getD 5 pU, us.getD 6 pU], [], h) Q
    refine WP.iload rfl rfl ?_
    refine WP.iload_n rfl rfl ?_
    refine WP.ni_ge rfl (fun c6 => ?_) (fun c6 => ?_)
    · exact absurd hc (Int.not_lt.mpr c6)
    · refine WP.iload_n rfl rfl ?_
      have k7 : ∀ Q' : Option pV → pH → Prop, (WP 204 (26, [(14, 248), (0, a1), (0, y2), (0, x3), (0, x4), us.getD 0 pU, us.getD 1 pU, us.getD 2 pU, us.getD 3 pU, us.getD 4 pU, us.getD 5 pU, us.getD 6 pU], [(0, if (¬ x3 = 0) ∨ h 267 x4 = a1 then 1 else 0)], h) Q') → WP 204 (16, [(14, 248), (0, a1), (0, y2), (0, x3), (0, x4), us.getD 0 pU, us.getD 1 pU, us.getD 2 pU, us.getD 3 pU, us.getD 4 pU, us.getD 5 pU, us.getD 6 pU], [(0, x3)], h) Q' := fun Q' kk => by
        have q11 := q13
        refine WP.nz_ne rfl (fun c8 => ?_) (fun c8 => ?_)
        · refine WP.iconst rfl ?_
          refine WP.goto rfl ?_
          have e := kk; simp only [if_neg (c8), if_pos (show (¬ x3 = 0) ∨ h 267 x4 = a1 from Or.inl c8)] at e ⊢; exact e
        · have o9 := q11 c8
          refine WP.aload_n rfl rfl ⟨by decide, by decide⟩ ?_
          refine WP.getRF (b := 267) rfl rfl rfl ?_
          refine WP.iload rfl rfl ?_
          refine WP.iaload rfl ⟨by decide, by decide, by decide⟩ o9 ?_
          refine WP.iload_n rfl rfl ?_
          refine WP.ni_ne rfl (fun c10 => ?_) (fun c10 => ?_)
          · refine WP.iconst rfl ?_
            have e := kk; simp only [if_pos c8, if_neg (c10), if_neg (show ¬ ((¬ x3 = 0) ∨ h 267 x4 = a1) from fun q => q.elim (fun q => q c8) (c10))] at e ⊢; exact e
          · refine WP.iconst rfl ?_
            refine WP.goto rfl ?_
            have e := kk; simp only [if_pos c8, if_pos c10, if_pos (show (¬ x3 = 0) ∨ h 267 x4 = a1 from Or.inr c10)] at e ⊢; exact e
      refine k7 _ ?_
      refine WP.istore_n (L' := [(14, 248), (0, a1), (0, y2), (0, if (¬ x3 = 0) ∨ h 267 x4 = a1 then 1 else 0), (0, x4), us.getD 0 pU, us.getD 1 pU, us.getD 2 pU, us.getD 3 pU, us.getD 4 pU, us.getD 5 pU, us.getD 6 pU]) rfl rfl ?_
      refine WP.iincE (L' := [(14, 248), (0, a1), (0, y2), (0, if (¬ x3 = 0) ∨ h 267 x4 = a1 then 1 else 0), (0, x4 + 1), us.getD 0 pU, us.getD 1 pU, us.getD 2 pU, us.getD 3 pU, us.getD 4 pU, us.getD 5 pU, us.getD 6 pU]) rfl rfl o14 rfl ?_
      refine WP.goto rfl ?_
      exact kk [us.getD 0 pU, us.getD 1 pU, us.getD 2 pU, us.getD 3 pU, us.getD 4 pU, us.getD 5 pU, us.getD 6 pU] (if (¬ x3 = 0) ∨ h 267 x4 = a1 then 1 else 0, x4 + 1) (rfl)
  · intro hP hc
    generalize hs : (L_X12_placing_12 a1 y2 h x3 x4 : Int × Int) = s at kk
    change P_X12_placing_12 a1 y2 h (L_X12_placing_12 a1 y2 h x3 x4).1 (L_X12_placing_12 a1 y2 h x3 x4).2 at hP
    change ¬ C_X12_placing_12 a1 y2 h (L_X12_placing_12 a1 y2 h x3 x4).1 (L_X12_placing_12 a1 y2 h x3 x4).2 at hc
    intro us
    show WP 204 (12, [(14, 248), (0, a1), (0, y2), (0, (L_X12_placing_12 a1 y2 h x3 x4).1), (0, (L_X12_placing_12 a1 y2 h x3 x4).2), us.getD 0 pU, us.getD 1 pU, us.getD 2 pU, us.getD 3 pU, us.getD 4 pU, us.getD 5 pU, us.getD 6 pU], [], h) Q
    rw [hs] at hP hc ⊢
    obtain ⟨x3, x4⟩ := s
    change P_X12_placing_12 a1 y2 h x3 x4 at hP
    change ¬ (x4 < y2) at hc
    unfold P_X12_placing_12 at hP
    show WP 204 (12, [(14, 248), (0, a1), (0, y2), (0, x3), (0, x4), us.getD 0 pU, us.getD 1 pU, us.getD 2 pU, us.getD 3 pU, us.getD 4 pU, us.getD 5 pU, us.getD 6 pU], [], h) Q
    refine WP.iload rfl rfl ?_
    refine WP.iload_n rfl rfl ?_
    refine WP.ni_ge rfl (fun c5 => ?_) (fun c5 => ?_)
    · exact kk [us.getD 0 pU, us.getD 1 pU, us.getD 2 pU, us.getD 3 pU, us.getD 4 pU, us.getD 5 pU, us.getD 6 pU]
    · exact absurd (show x4 < y2 from c5) hc
noncomputable def s_X12_placing_1 (a1 : Int) (h : pH) : Int := (L_X12_placing_12 a1 (F_X12_findOpen h) (H_X12_findOpen h) (if a1 = (-1) then 1 else 0) 0).1
noncomputable def s_X12_placing_2 (a1 : Int) (h : pH) : Int := (L_X12_placing_12 a1 (F_X12_findOpen h) (H_X12_findOpen h) (if a1 = (-1) then 1 else 0) 0).2
noncomputable def s_X12_placing_3 (x4 : Int) (x6 : Int) (y7 : Int) (x10 : Int) (h : pH) : Int := if (h 265 ((1024 * (x6 + 1)) + (pm_or x4 (pm_shl 1 x10)))) + 1 = h 265 y7 ∧ (h 266 ((1024 * (x6 + 1)) + (pm_or x4 (pm_shl 1 x10)))) + (s_X12_gauge_1 (h 249 (84 + x10)) h) = h 266 y7 then x10 else (-1)
noncomputable def s_X12_placing_4 (x4 : Int) (x6 : Int) (y7 : Int) (x5 : Int) (x10 : Int) (h : pH) : Int := if pm_and (pm_shr x4 x10) 1 = 0 then if h 249 (134 + x10) = 0 ∧ (h 249 (144 + x10) = 0 ∧ (h 249 (280 + (h 267 x6)) = (-1) ∨ h 249 (280 + (h 267 x6)) = x10)) then s_X12_placing_3 x4 x6 y7 x10 h else x5 else x5
noncomputable def s_X12_placing_5 (x4 : Int) (x6 : Int) (y7 : Int) (x9 : Int) (x10 : Int) (h : pH) : Int := if pm_and (pm_shr x4 x10) 1 = 0 then if h 249 (134 + x10) = 0 ∧ (h 249 (144 + x10) = 0 ∧ (h 249 (280 + (h 267 x6)) = (-1) ∨ h 249 (280 + (h 267 x6)) = x10)) then if (h 265 ((1024 * (x6 + 1)) + (pm_or x4 (pm_shl 1 x10)))) + 1 = h 265 y7 ∧ (h 266 ((1024 * (x6 + 1)) + (pm_or x4 (pm_shl 1 x10)))) + (s_X12_gauge_1 (h 249 (84 + x10)) h) = h 266 y7 then 1 else 0 else x9 else x9
def C_X12_placing_100 (a1 : Int) (y2 : Int) (x4 : Int) (x6 : Int) (y7 : Int) (h : pH) (x5 : Int) (x9 : Int) (x10 : Int) : Prop := x10 < h 249 12 ∧ x9 = 0
noncomputable def B_X12_placing_100 (a1 : Int) (y2 : Int) (x4 : Int) (x6 : Int) (y7 : Int) (h : pH) (x5 : Int) (x9 : Int) (x10 : Int) : Int × Int × Int := (s_X12_placing_4 x4 x6 y7 x5 x10 h, s_X12_placing_5 x4 x6 y7 x9 x10 h, x10 + 1)
noncomputable def P_X12_placing_100 (a1 : Int) (y2 : Int) (x4 : Int) (x6 : Int) (y7 : Int) (h : pH) (x5 : Int) (x9 : Int) (x10 : Int) : Prop := ((x10 < h 249 12 ∧ x9 = 0) → (((pm_and (pm_shr x4 x10) 1 = 0) → ((0 ≤ x6 ∧ x6 < 16) ∧ (P_X12_mayHave x10 (h 267 x6) h) ∧ ((h 249 (134 + x10) = 0 ∧ (h 249 (144 + x10) = 0 ∧ (h 249 (280 + (h 267 x6)) = (-1) ∨ h 249 (280 + (h 267 x6)) = x10))) → ((fx_i (x6 + 1)) ∧ (fx_i (1024 * (x6 + 1))) ∧ (fx_i ((1024 * (x6 + 1)) + (pm_or x4 (pm_shl 1 x10)))) ∧ (0 ≤ (1024 * (x6 + 1)) + (pm_or x4 (pm_shl 1 x10)) ∧ (1024 * (x6 + 1)) + (pm_or x4 (pm_shl 1 x10)) < 9216) ∧ (fx_i ((h 265 ((1024 * (x6 + 1)) + (pm_or x4 (pm_shl 1 x10)))) + 1)) ∧ (0 ≤ y7 ∧ y7 < 9216) ∧ ((((h 265 ((1024 * (x6 + 1)) + (pm_or x4 (pm_shl 1 x10)))) + 1 = h 265 y7) → ((fx_i (84 + x10)) ∧ (P_X12_at (84 + x10) h) ∧ (P_X12_gauge (h 249 (84 + x10)) h) ∧ (fx_l ((h 266 ((1024 * (x6 + 1)) + (pm_or x4 (pm_shl 1 x10)))) + (s_X12_gauge_1 (h 249 (84 + x10)) h))))))))))) ∧ (fx_i (x10 + 1)))
noncomputable def L_X12_placing_100 (a1 : Int) (y2 : Int) (x4 : Int) (x6 : Int) (y7 : Int) (h : pH) (x5 : Int) (x9 : Int) (x10 : Int) : Int × Int × Int := fx_wh (σ := Int × Int × Int) (fun s => C_X12_placing_100 a1 y2 x4 x6 y7 h s.1 s.2.1 s.2.2) (fun s => B_X12_placing_100 a1 y2 x4 x6 y7 h s.1 s.2.1 s.2.2) (x5, x9, x10)
def O_X12_placing_100 (a1 : Int) (y2 : Int) (x4 : Int) (x6 : Int) (y7 : Int) (h : pH) (x5 : Int) (x9 : Int) (x10 : Int) : Prop := fx_ok (σ := Int × Int × Int) (fun s => C_X12_placing_100 a1 y2 x4 x6 y7 h s.1 s.2.1 s.2.2) (fun s => B_X12_placing_100 a1 y2 x4 x6 y7 h s.1 s.2.1 s.2.2) (fun s => P_X12_placing_100 a1 y2 x4 x6 y7 h s.1 s.2.1 s.2.2) (x5, x9, x10)
set_option maxHeartbeats 4000000 in
theorem lp_X12_placing_100 (a1 : Int) (y2 : Int) (x4 : Int) (x6 : Int) (y7 : Int) (h : pH) (x5 : Int) (x9 : Int) (x10 : Int) {Q : Option pV → pH → Prop} (hp : O_X12_placing_100 a1 y2 x4 x6 y7 h x5 x9 x10) (kk : ∀ us : List pV, WP 204 (177, [(14, 248), (0, a1), (0, y2), us.getD 0 pU, (0, x4), (0, (L_X12_placing_100 a1 y2 x4 x6 y7 h x5 x9 x10).1), (0, x6), (0, y7), us.getD 1 pU, (0, (L_X12_placing_100 a1 y2 x4 x6 y7 h x5 x9 x10).2.1), (0, (L_X12_placing_100 a1 y2 x4 x6 y7 h x5 x9 x10).2.2), us.getD 2 pU], [], h) Q) : ∀ us : List pV, WP 204 (100, [(14, 248), (0, a1), (0, y2), us.getD 0 pU, (0, x4), (0, x5), (0, x6), (0, y7), us.getD 1 pU, (0, x9), (0, x10), us.getD 2 pU], [], h) Q := by
  refine WP.wh (σ := Int × Int × Int) (fun s => C_X12_placing_100 a1 y2 x4 x6 y7 h s.1 s.2.1 s.2.2) (fun s => B_X12_placing_100 a1 y2 x4 x6 y7 h s.1 s.2.1 s.2.2) (fun s => P_X12_placing_100 a1 y2 x4 x6 y7 h s.1 s.2.1 s.2.2) (fun s us => (100, [(14, 248), (0, a1), (0, y2), us.getD 0 pU, (0, x4), (0, s.1), (0, x6), (0, y7), us.getD 1 pU, (0, s.2.1), (0, s.2.2), us.getD 2 pU], [], h)) (x5, x9, x10) hp ?_ ?_
  · intro s us hP hc kk
    obtain ⟨x5, x9, x10⟩ := s
    change P_X12_placing_100 a1 y2 x4 x6 y7 h x5 x9 x10 at hP
    change x10 < h 249 12 ∧ x9 = 0 at hc
    replace kk : ∀ (us' : List pV) (s' : Int × Int × Int), s' = B_X12_placing_100 a1 y2 x4 x6 y7 h x5 x9 x10 → WP 204 (100, [(14, 248), (0, a1), (0, y2), us'.getD 0 pU, (0, x4), (0, s'.1), (0, x6), (0, y7), us'.getD 1 pU, (0, s'.2.1), (0, s'.2.2), us'.getD 2 pU], [], h) Q := fun us' s' e => by subst e; exact kk us'
    unfold P_X12_placing_100 at hP
    obtain ⟨q65, o66⟩ := hP hc
    show WP 204 (100, [(14, 248), (0, a1), (0, y2), us.getD 0 pU, (0, x4), (0, x5), (0, x6), (0, y7), us.getD 1 pU, (0, x9), (0, x10), us.getD 2 pU], [], h) Q
    refine WP.iload rfl rfl ?_
    refine WP.i2l rfl ?_
    refine WP.aload_n rfl rfl ⟨by decide, by decide⟩ ?_
    refine WP.getRF (b := 249) rfl rfl rfl ?_
    refine WP.bipush rfl ?_
    refine WP.laload rfl ⟨by decide, by decide, by decide⟩ (by decide) ?_
    refine WP.lcmp rfl ?_
    refine WP.nl_ge rfl (fun c36 => ?_) (fun c36 => ?_)
    · exact absurd hc (fun q => (Int.not_lt.mpr c36) q.1)
    · refine WP.iload rfl rfl ?_
      refine WP.nz_ne rfl (fun c37 => ?_) (fun c37 => ?_)
      · exact absurd hc (fun q => (c37) q.2)
      · refine WP.iload rfl rfl ?_
        refine WP.iload rfl rfl ?_
        refine WP.ishr rfl ?_
        refine WP.iconst rfl ?_
        refine WP.iand rfl ?_
        have k38 : ∀ Q' : Option pV → pH → Prop, (∀ us64 : List pV, WP 204 (175, [(14, 248), (0, a1), (0, y2), us.getD 0 pU, (0, x4), (0, s_X12_placing_4 x4 x6 y7 x5 x10 h), (0, x6), (0, y7), us64.getD 0 pU, (0, s_X12_placing_5 x4 x6 y7 x9 x10 h), (0, x10), us64.getD 1 pU], [], h) Q') → WP 204 (115, [(14, 248), (0, a1), (0, y2), us.getD 0 pU, (0, x4), (0, x5), (0, x6), (0, y7), us.getD 1 pU, (0, x9), (0, x10), us.getD 2 pU], [(0, pm_and (pm_shr x4 x10) 1)], h) Q' := fun Q' kk => by
          have q63 := q65
          refine WP.nz_ne rfl (fun c39 => ?_) (fun c39 => ?_)
          · have e := kk [us.getD 1 pU, us.getD 2 pU]; simp only [s_X12_placing_4, s_X12_placing_5, if_neg (c39)] at e ⊢; exact e
          · obtain ⟨o40, o41, q62⟩ := q63 c39
            refine WP.aload_n rfl rfl ⟨by decide, by decide⟩ ?_
            refine WP.iload rfl rfl ?_
            refine WP.aload_n rfl rfl ⟨by decide, by decide⟩ ?_
            refine WP.getRF (b := 267) rfl rfl rfl ?_
            refine WP.iload rfl rfl ?_
            refine WP.iaload rfl ⟨by decide, by decide, by decide⟩ o40 ?_
            refine WP.callF (c_X12_mayHave x10 (h 267 x6) h o41) rfl rfl (pm_cok rfl rfl (Or.inr ⟨_, _, rfl⟩) rfl rfl) rfl rfl ?_
            show WP 204 (123, [(14, 248), (0, a1), (0, y2), us.getD 0 pU, (0, x4), (0, x5), (0, x6), (0, y7), us.getD 1 pU, (0, x9), (0, x10), us.getD 2 pU], [(0, if h 249 (134 + x10) = 0 ∧ (h 249 (144 + x10) = 0 ∧ (h 249 (280 + (h 267 x6)) = (-1) ∨ h 249 (280 + (h 267 x6)) = x10)) then 1 else 0)], h) Q'
            refine WP.nb_eq rfl (fun c42 => ?_) (fun c42 => ?_)
            · have e := kk [us.getD 1 pU, us.getD 2 pU]; simp only [s_X12_placing_4, s_X12_placing_5, if_pos c39, if_neg (c42)] at e ⊢; exact e
            · obtain ⟨o43, o44, o45, o46, o47, o48, q58⟩ := q62 c42
              refine WP.sipush rfl ?_
              refine WP.iload rfl rfl ?_
              refine WP.iconst rfl ?_
              refine WP.iaddE rfl o43 ?_
              refine WP.imulE rfl o44 ?_
              refine WP.iload rfl rfl ?_
              refine WP.iconst rfl ?_
              refine WP.iload rfl rfl ?_
              refine WP.ishl rfl ?_
              refine WP.ior rfl ?_
              refine WP.iaddE rfl o45 ?_
              refine WP.istore (L' := [(14, 248), (0, a1), (0, y2), us.getD 0 pU, (0, x4), (0, x5), (0, x6), (0, y7), us.getD 1 pU, (0, x9), (0, x10), (0, (1024 * (x6 + 1)) + (pm_or x4 (pm_shl 1 x10)))]) rfl rfl ?_
              refine WP.aload_n rfl rfl ⟨by decide, by decide⟩ ?_
              refine WP.getRF (b := 265) rfl rfl rfl ?_
              refine WP.iload rfl rfl ?_
              refine WP.iaload rfl ⟨by decide, by decide, by decide⟩ o46 ?_
              refine WP.iconst rfl ?_
              refine WP.iaddE rfl o47 ?_
              refine WP.aload_n rfl rfl ⟨by decide, by decide⟩ ?_
              refine WP.getRF (b := 265) rfl rfl rfl ?_
              refine WP.iload rfl rfl ?_
              refine WP.iaload rfl ⟨by decide, by decide, by decide⟩ o48 ?_
              have k49 : ∀ Q' : Option pV → pH → Prop, (WP 204 (168, [(14, 248), (0, a1), (0, y2), us.getD 0 pU, (0, x4), (0, x5), (0, x6), (0, y7), us.getD 1 pU, (0, x9), (0, x10), (0, (1024 * (x6 + 1)) + (pm_or x4 (pm_shl 1 x10)))], [(0, if (h 265 ((1024 * (x6 + 1)) + (pm_or x4 (pm_shl 1 x10)))) + 1 = h 265 y7 ∧ (h 266 ((1024 * (x6 + 1)) + (pm_or x4 (pm_shl 1 x10)))) + (s_X12_gauge_1 (h 249 (84 + x10)) h) = h 266 y7 then 1 else 0)], h) Q') → WP 204 (146, [(14, 248), (0, a1), (0, y2), us.getD 0 pU, (0, x4), (0, x5), (0, x6), (0, y7), us.getD 1 pU, (0, x9), (0, x10), (0, (1024 * (x6 + 1)) + (pm_or x4 (pm_shl 1 x10)))], [(0, h 265 y7), (0, (h 265 ((1024 * (x6 + 1)) + (pm_or x4 (pm_shl 1 x10)))) + 1)], h) Q' := fun Q' kk => by
                have q56 := q58
                refine WP.ni_ne rfl (fun c50 => ?_) (fun c50 => ?_)
                · refine WP.iconst rfl ?_
                  have e := kk; simp only [if_neg (c50), if_neg (show ¬ ((h 265 ((1024 * (x6 + 1)) + (pm_or x4 (pm_shl 1 x10)))) + 1 = h 265 y7 ∧ (h 266 ((1024 * (x6 + 1)) + (pm_or x4 (pm_shl 1 x10)))) + (s_X12_gauge_1 (h 249 (84 + x10)) h) = h 266 y7) from fun q => (c50) q.1)] at e ⊢; exact e
                · obtain ⟨o51, o52, o53, o54⟩ := q56 c50
                  refine WP.aload_n rfl rfl ⟨by decide, by decide⟩ ?_
                  refine WP.getRF (b := 266) rfl rfl rfl ?_
                  refine WP.iload rfl rfl ?_
                  refine WP.laload rfl ⟨by decide, by decide, by decide⟩ o46 ?_
                  refine WP.aload_n rfl rfl ⟨by decide, by decide⟩ ?_
                  refine WP.aload_n rfl rfl ⟨by decide, by decide⟩ ?_
                  refine WP.bipush rfl ?_
                  refine WP.iload rfl rfl ?_
                  refine WP.iaddE rfl o51 ?_
                  refine WP.callF (c_X12_at (84 + x10) h o52) rfl rfl (pm_cok rfl rfl (Or.inr ⟨_, _, rfl⟩) rfl rfl) rfl rfl ?_
                  show WP 204 (157, [(14, 248), (0, a1), (0, y2), us.getD 0 pU, (0, x4), (0, x5), (0, x6), (0, y7), us.getD 1 pU, (0, x9), (0, x10), (0, (1024 * (x6 + 1)) + (pm_or x4 (pm_shl 1 x10)))], [(0, h 249 (84 + x10)), (14, 248), (1, h 266 ((1024 * (x6 + 1)) + (pm_or x4 (pm_shl 1 x10))))], h) Q'
                  refine WP.callF (c_X12_gauge (h 249 (84 + x10)) h o53) rfl rfl (pm_cok rfl rfl (Or.inr ⟨_, _, rfl⟩) rfl rfl) rfl rfl ?_
                  show WP 204 (158, [(14, 248), (0, a1), (0, y2), us.getD 0 pU, (0, x4), (0, x5), (0, x6), (0, y7), us.getD 1 pU, (0, x9), (0, x10), (0, (1024 * (x6 + 1)) + (pm_or x4 (pm_shl 1 x10)))], [(1, s_X12_gauge_1 (h 249 (84 + x10)) h), (1, h 266 ((1024 * (x6 + 1)) + (pm_or x4 (pm_shl 1 x10))))], h) Q'
                  refine WP.laddE rfl o54 ?_
                  refine WP.aload_n rfl rfl ⟨by decide, by decide⟩ ?_
                  refine WP.getRF (b := 266) rfl rfl rfl ?_
                  refine WP.iload rfl rfl ?_
                  refine WP.laload rfl ⟨by decide, by decide, by decide⟩ o48 ?_
                  refine WP.lcmp rfl ?_
                  refine WP.nl_ne rfl (fun c55 => ?_) (fun c55 => ?_)
                  · refine WP.iconst rfl ?_
                    have e := kk; simp only [if_pos c50, if_neg (c55), if_neg (show ¬ ((h 265 ((1024 * (x6 + 1)) + (pm_or x4 (pm_shl 1 x10)))) + 1 = h 265 y7 ∧ (h 266 ((1024 * (x6 + 1)) + (pm_or x4 (pm_shl 1 x10)))) + (s_X12_gauge_1 (h 249 (84 + x10)) h) = h 266 y7) from fun q => (c55) q.2)] at e ⊢; exact e
                  · refine WP.iconst rfl ?_
                    refine WP.goto rfl ?_
                    have e := kk; simp only [if_pos c50, if_pos c55, if_pos (show (h 265 ((1024 * (x6 + 1)) + (pm_or x4 (pm_shl 1 x10)))) + 1 = h 265 y7 ∧ (h 266 ((1024 * (x6 + 1)) + (pm_or x4 (pm_shl 1 x10)))) + (s_X12_gauge_1 (h 249 (84 + x10)) h) = h 266 y7 from ⟨c50, c55⟩)] at e ⊢; exact e
              refine k49 _ ?_
              refine WP.istore (L' := [(14, 248), (0, a1), (0, y2), us.getD 0 pU, (0, x4), (0, x5), (0, x6), (0, y7), if (us.getD 1 pU).1 = 1 then pU else us.getD 1 pU, (0, if (h 265 ((1024 * (x6 + 1)) + (pm_or x4 (pm_shl 1 x10)))) + 1 = h 265 y7 ∧ (h 266 ((1024 * (x6 + 1)) + (pm_or x4 (pm_shl 1 x10)))) + (s_X12_gauge_1 (h 249 (84 + x10)) h) = h 266 y7 then 1 else 0), (0, x10), (0, (1024 * (x6 + 1)) + (pm_or x4 (pm_shl 1 x10)))]) rfl rfl ?_
              refine WP.iload rfl rfl ?_
              have k59 : ∀ Q' : Option pV → pH → Prop, (WP 204 (174, [(14, 248), (0, a1), (0, y2), us.getD 0 pU, (0, x4), (0, x5), (0, x6), (0, y7), if (us.getD 1 pU).1 = 1 then pU else us.getD 1 pU, (0, if (h 265 ((1024 * (x6 + 1)) + (pm_or x4 (pm_shl 1 x10)))) + 1 = h 265 y7 ∧ (h 266 ((1024 * (x6 + 1)) + (pm_or x4 (pm_shl 1 x10)))) + (s_X12_gauge_1 (h 249 (84 + x10)) h) = h 266 y7 then 1 else 0), (0, x10), (0, (1024 * (x6 + 1)) + (pm_or x4 (pm_shl 1 x10)))], [(0, s_X12_placing_3 x4 x6 y7 x10 h)], h) Q') → WP 204 (170, [(14, 248), (0, a1), (0, y2), us.getD 0 pU, (0, x4), (0, x5), (0, x6), (0, y7), if (us.getD 1 pU).1 = 1 then pU else us.getD 1 pU, (0, if (h 265 ((1024 * (x6 + 1)) + (pm_or x4 (pm_shl 1 x10)))) + 1 = h 265 y7 ∧ (h 266 ((1024 * (x6 + 1)) + (pm_or x4 (pm_shl 1 x10)))) + (s_X12_gauge_1 (h 249 (84 + x10)) h) = h 266 y7 then 1 else 0), (0, x10), (0, (1024 * (x6 + 1)) + (pm_or x4 (pm_shl 1 x10)))], [(0, if (h 265 ((1024 * (x6 + 1)) + (pm_or x4 (pm_shl 1 x10)))) + 1 = h 265 y7 ∧ (h 266 ((1024 * (x6 + 1)) + (pm_or x4 (pm_shl 1 x10)))) + (s_X12_gauge_1 (h 249 (84 + x10)) h) = h 266 y7 then 1 else 0)], h) Q' := fun Q' kk => by
                refine WP.nb_eq rfl (fun c60 => ?_) (fun c60 => ?_)
                · refine WP.iconst rfl ?_
                  have e := kk; simp only [s_X12_placing_3, if_neg (c60)] at e ⊢; exact e
                · refine WP.iload rfl rfl ?_
                  refine WP.goto rfl ?_
                  have e := kk; simp only [s_X12_placing_3, if_pos c60] at e ⊢; exact e
              refine k59 _ ?_
              refine WP.istore (L' := [(14, 248), (0, a1), (0, y2), us.getD 0 pU, (0, x4), (0, s_X12_placing_3 x4 x6 y7 x10 h), (0, x6), (0, y7), if (us.getD 1 pU).1 = 1 then pU else us.getD 1 pU, (0, if (h 265 ((1024 * (x6 + 1)) + (pm_or x4 (pm_shl 1 x10)))) + 1 = h 265 y7 ∧ (h 266 ((1024 * (x6 + 1)) + (pm_or x4 (pm_shl 1 x10)))) + (s_X12_gauge_1 (h 249 (84 + x10)) h) = h 266 y7 then 1 else 0), (0, x10), (0, (1024 * (x6 + 1)) + (pm_or x4 (pm_shl 1 x10)))]) rfl rfl ?_
              have e := kk [if (us.getD 1 pU).1 = 1 then pU else us.getD 1 pU, (0, (1024 * (x6 + 1)) + (pm_or x4 (pm_shl 1 x10)))]; simp only [s_X12_placing_4, s_X12_placing_5, if_pos c39, if_pos c42] at e ⊢; exact e
        refine k38 _ (fun us64 => ?_)
        refine WP.iincE (L' := [(14, 248), (0, a1), (0, y2), us.getD 0 pU, (0, x4), (0, s_X12_placing_4 x4 x6 y7 x5 x10 h), (0, x6), (0, y7), us64.getD 0 pU, (0, s_X12_placing_5 x4 x6 y7 x9 x10 h), (0, x10 + 1), us64.getD 1 pU]) rfl rfl o66 rfl ?_
        refine WP.goto rfl ?_
        exact kk [us.getD 0 pU, us64.getD 0 pU, us64.getD 1 pU] (s_X12_placing_4 x4 x6 y7 x5 x10 h, s_X12_placing_5 x4 x6 y7 x9 x10 h, x10 + 1) (rfl)
  · intro hP hc
    generalize hs : (L_X12_placing_100 a1 y2 x4 x6 y7 h x5 x9 x10 : Int × Int × Int) = s at kk
    change P_X12_placing_100 a1 y2 x4 x6 y7 h (L_X12_placing_100 a1 y2 x4 x6 y7 h x5 x9 x10).1 (L_X12_placing_100 a1 y2 x4 x6 y7 h x5 x9 x10).2.1 (L_X12_placing_100 a1 y2 x4 x6 y7 h x5 x9 x10).2.2 at hP
    change ¬ C_X12_placing_100 a1 y2 x4 x6 y7 h (L_X12_placing_100 a1 y2 x4 x6 y7 h x5 x9 x10).1 (L_X12_placing_100 a1 y2 x4 x6 y7 h x5 x9 x10).2.1 (L_X12_placing_100 a1 y2 x4 x6 y7 h x5 x9 x10).2.2 at hc
    intro us
    show WP 204 (100, [(14, 248), (0, a1), (0, y2), us.getD 0 pU, (0, x4), (0, (L_X12_placing_100 a1 y2 x4 x6 y7 h x5 x9 x10).1), (0, x6), (0, y7), us.getD 1 pU, (0, (L_X12_placing_100 a1 y2 x4 x6 y7 h x5 x9 x10).2.1), (0, (L_X12_placing_100 a1 y2 x4 x6 y7 h x5 x9 x10).2.2), us.getD 2 pU], [], h) Q
    rw [hs] at hP hc ⊢
    obtain ⟨x5, x9, x10⟩ := s
    change P_X12_placing_100 a1 y2 x4 x6 y7 h x5 x9 x10 at hP
    change ¬ (x10 < h 249 12 ∧ x9 = 0) at hc
    unfold P_X12_placing_100 at hP
    show WP 204 (100, [(14, 248), (0, a1), (0, y2), us.getD 0 pU, (0, x4), (0, x5), (0, x6), (0, y7), us.getD 1 pU, (0, x9), (0, x10), us.getD 2 pU], [], h) Q
    refine WP.iload rfl rfl ?_
    refine WP.i2l rfl ?_
    refine WP.aload_n rfl rfl ⟨by decide, by decide⟩ ?_
    refine WP.getRF (b := 249) rfl rfl rfl ?_
    refine WP.bipush rfl ?_
    refine WP.laload rfl ⟨by decide, by decide, by decide⟩ (by decide) ?_
    refine WP.lcmp rfl ?_
    refine WP.nl_ge rfl (fun c34 => ?_) (fun c34 => ?_)
    · exact kk [us.getD 0 pU, us.getD 1 pU, us.getD 2 pU]
    · refine WP.iload rfl rfl ?_
      refine WP.nz_ne rfl (fun c35 => ?_) (fun c35 => ?_)
      · exact kk [us.getD 0 pU, us.getD 1 pU, us.getD 2 pU]
      · exact absurd (show x10 < h 249 12 ∧ x9 = 0 from ⟨c34, c35⟩) hc
noncomputable def s_X12_placing_6 (a1 : Int) (y2 : Int) (x4 : Int) (x6 : Int) (h : pH) : Int := (L_X12_placing_100 a1 y2 x4 x6 ((1024 * x6) + x4) h (-1) (if h 265 ((1024 * (x6 + 1)) + x4) = h 265 ((1024 * x6) + x4) ∧ h 266 ((1024 * (x6 + 1)) + x4) = h 266 ((1024 * x6) + x4) then 1 else 0) 0).1
noncomputable def s_X12_placing_7 (a1 : Int) (y2 : Int) (x4 : Int) (x6 : Int) (h : pH) : Int := (L_X12_placing_100 a1 y2 x4 x6 ((1024 * x6) + x4) h (-1) (if h 265 ((1024 * (x6 + 1)) + x4) = h 265 ((1024 * x6) + x4) ∧ h 266 ((1024 * (x6 + 1)) + x4) = h 266 ((1024 * x6) + x4) then 1 else 0) 0).2.1
noncomputable def s_X12_placing_8 (a1 : Int) (y2 : Int) (x4 : Int) (x6 : Int) (h : pH) : Int := (L_X12_placing_100 a1 y2 x4 x6 ((1024 * x6) + x4) h (-1) (if h 265 ((1024 * (x6 + 1)) + x4) = h 265 ((1024 * x6) + x4) ∧ h 266 ((1024 * (x6 + 1)) + x4) = h 266 ((1024 * x6) + x4) then 1 else 0) 0).2.2
noncomputable def s_X12_placing_9 (a1 : Int) (y2 : Int) (x4 : Int) (x6 : Int) (h : pH) : Int := if s_X12_placing_6 a1 y2 x4 x6 h = (-1) then 0 else pm_shl 1 (s_X12_placing_6 a1 y2 x4 x6 h)
noncomputable def B_X12_placing_56 (a1 : Int) (y2 : Int) (h : pH) (x4 : Int) (x5 : Int) (x6 : Int) : Int × Int × Int × Int := if y2 ≤ x6 then (1, x4, x5, x6) else if h 267 x6 = a1 then (2, pm_or x4 (s_X12_placing_9 a1 y2 x4 x6 h), s_X12_placing_6 a1 y2 x4 x6 h, x6) else (0, pm_or x4 (s_X12_placing_9 a1 y2 x4 x6 h), s_X12_placing_6 a1 y2 x4 x6 h, x6 + 1)
noncomputable def P_X12_placing_56 (a1 : Int) (y2 : Int) (h : pH) (x4 : Int) (x5 : Int) (x6 : Int) : Prop := ((x6 < y2) → ((fx_i (1024 * x6)) ∧ (fx_i ((1024 * x6) + x4)) ∧ (fx_i (x6 + 1)) ∧ (fx_i (1024 * (x6 + 1))) ∧ (fx_i ((1024 * (x6 + 1)) + x4)) ∧ (0 ≤ (1024 * (x6 + 1)) + x4 ∧ (1024 * (x6 + 1)) + x4 < 9216) ∧ (0 ≤ (1024 * x6) + x4 ∧ (1024 * x6) + x4 < 9216) ∧ (O_X12_placing_100 a1 y2 x4 x6 ((1024 * x6) + x4) h (-1) (if h 265 ((1024 * (x6 + 1)) + x4) = h 265 ((1024 * x6) + x4) ∧ h 266 ((1024 * (x6 + 1)) + x4) = h 266 ((1024 * x6) + x4) then 1 else 0) 0) ∧ (0 ≤ x6 ∧ x6 < 16)))
noncomputable def L_X12_placing_56 (a1 : Int) (y2 : Int) (h : pH) (x4 : Int) (x5 : Int) (x6 : Int) : Int × Int × Int × Int := fx_wh (σ := Int × Int × Int × Int) (fun s => s.1 = 0) (fun s => B_X12_placing_56 a1 y2 h s.2.1 s.2.2.1 s.2.2.2) (0, x4, x5, x6)
def O_X12_placing_56 (a1 : Int) (y2 : Int) (h : pH) (x4 : Int) (x5 : Int) (x6 : Int) : Prop := fx_ok (σ := Int × Int × Int × Int) (fun s => s.1 = 0) (fun s => B_X12_placing_56 a1 y2 h s.2.1 s.2.2.1 s.2.2.2) (fun s => s.1 = 0 → P_X12_placing_56 a1 y2 h s.2.1 s.2.2.1 s.2.2.2) (0, x4, x5, x6)
set_option maxHeartbeats 4000000 in
theorem lp_X12_placing_56 (a1 : Int) (y2 : Int) (h : pH) (x4 : Int) (x5 : Int) (x6 : Int) {Q : Option pV → pH → Prop} (hp : O_X12_placing_56 a1 y2 h x4 x5 x6) (kk : (L_X12_placing_56 a1 y2 h x4 x5 x6).1 = 1 → ∀ us : List pV, WP 204 (198, [(14, 248), (0, a1), (0, y2), us.getD 0 pU, (0, (L_X12_placing_56 a1 y2 h x4 x5 x6).2.1), (0, (L_X12_placing_56 a1 y2 h x4 x5 x6).2.2.1), (0, (L_X12_placing_56 a1 y2 h x4 x5 x6).2.2.2), us.getD 1 pU, us.getD 2 pU, us.getD 3 pU, us.getD 4 pU, us.getD 5 pU], [], h) Q) (kk2 : ¬ (L_X12_placing_56 a1 y2 h x4 x5 x6).1 = 1 → ∀ us : List pV, WP 204 (194, [(14, 248), (0, a1), (0, y2), us.getD 0 pU, (0, (L_X12_placing_56 a1 y2 h x4 x5 x6).2.1), (0, (L_X12_placing_56 a1 y2 h x4 x5 x6).2.2.1), (0, (L_X12_placing_56 a1 y2 h x4 x5 x6).2.2.2), us.getD 1 pU, us.getD 2 pU, us.getD 3 pU, us.getD 4 pU, us.getD 5 pU], [], h) Q) : ∀ us : List pV, WP 204 (56, [(14, 248), (0, a1), (0, y2), us.getD 0 pU, (0, x4), (0, x5), (0, x6), us.getD 1 pU, us.getD 2 pU, us.getD 3 pU, us.getD 4 pU, us.getD 5 pU], [], h) Q := by
  refine WP.wh (σ := Int × Int × Int × Int) (fun s => s.1 = 0) (fun s => B_X12_placing_56 a1 y2 h s.2.1 s.2.2.1 s.2.2.2) (fun s => s.1 = 0 → P_X12_placing_56 a1 y2 h s.2.1 s.2.2.1 s.2.2.2) (fun s us => if s.1 = 0 then (56, [(14, 248), (0, a1), (0, y2), us.getD 0 pU, (0, s.2.1), (0, s.2.2.1), (0, s.2.2.2), us.getD 1 pU, us.getD 2 pU, us.getD 3 pU, us.getD 4 pU, us.getD 5 pU], [], h) else if s.1 = 1 then (198, [(14, 248), (0, a1), (0, y2), us.getD 0 pU, (0, s.2.1), (0, s.2.2.1), (0, s.2.2.2), us.getD 1 pU, us.getD 2 pU, us.getD 3 pU, us.getD 4 pU, us.getD 5 pU], [], h) else (194, [(14, 248), (0, a1), (0, y2), us.getD 0 pU, (0, s.2.1), (0, s.2.2.1), (0, s.2.2.2), us.getD 1 pU, us.getD 2 pU, us.getD 3 pU, us.getD 4 pU, us.getD 5 pU], [], h)) (0, x4, x5, x6) hp ?_ ?_
  · intro s us hP hc kk
    obtain ⟨fl, x4, x5, x6⟩ := s
    change fl = 0 at hc
    subst hc
    replace hP := hP rfl
    change P_X12_placing_56 a1 y2 h x4 x5 x6 at hP
    replace kk : ∀ (us' : List pV) (s' : Int × Int × Int × Int), s' = B_X12_placing_56 a1 y2 h x4 x5 x6 → WP 204 ((fun s us => if s.1 = 0 then (56, [(14, 248), (0, a1), (0, y2), us.getD 0 pU, (0, s.2.1), (0, s.2.2.1), (0, s.2.2.2), us.getD 1 pU, us.getD 2 pU, us.getD 3 pU, us.getD 4 pU, us.getD 5 pU], [], h) else if s.1 = 1 then (198, [(14, 248), (0, a1), (0, y2), us.getD 0 pU, (0, s.2.1), (0, s.2.2.1), (0, s.2.2.2), us.getD 1 pU, us.getD 2 pU, us.getD 3 pU, us.getD 4 pU, us.getD 5 pU], [], h) else (194, [(14, 248), (0, a1), (0, y2), us.getD 0 pU, (0, s.2.1), (0, s.2.2.1), (0, s.2.2.2), us.getD 1 pU, us.getD 2 pU, us.getD 3 pU, us.getD 4 pU, us.getD 5 pU], [], h)) s' us') Q := fun us' s' e => by subst e; exact kk us'
    unfold P_X12_placing_56 at hP
    have q74 := hP
    show WP 204 (56, [(14, 248), (0, a1), (0, y2), us.getD 0 pU, (0, x4), (0, x5), (0, x6), us.getD 1 pU, us.getD 2 pU, us.getD 3 pU, us.getD 4 pU, us.getD 5 pU], [], h) Q
    refine WP.iload rfl rfl ?_
    refine WP.iload_n rfl rfl ?_
    refine WP.ni_ge rfl (fun c22 => ?_) (fun c22 => ?_)
    · exact kk [us.getD 0 pU, us.getD 1 pU, us.getD 2 pU, us.getD 3 pU, us.getD 4 pU, us.getD 5 pU] (1, x4, x5, x6) (by simp only [B_X12_placing_56, if_pos c22])
    · obtain ⟨o23, o24, o25, o26, o27, o28, o29, o67, o72⟩ := q74 c22
      refine WP.sipush rfl ?_
      refine WP.iload rfl rfl ?_
      refine WP.imulE rfl o23 ?_
      refine WP.iload rfl rfl ?_
      refine WP.iaddE rfl o24 ?_
      refine WP.istore (L' := [(14, 248), (0, a1), (0, y2), us.getD 0 pU, (0, x4), (0, x5), (0, x6), (0, (1024 * x6) + x4), us.getD 2 pU, us.getD 3 pU, us.getD 4 pU, us.getD 5 pU]) rfl rfl ?_
      refine WP.sipush rfl ?_
      refine WP.iload rfl rfl ?_
      refine WP.iconst rfl ?_
      refine WP.iaddE rfl o25 ?_
      refine WP.imulE rfl o26 ?_
      refine WP.iload rfl rfl ?_
      refine WP.iaddE rfl o27 ?_
      refine WP.istore (L' := [(14, 248), (0, a1), (0, y2), us.getD 0 pU, (0, x4), (0, x5), (0, x6), (0, (1024 * x6) + x4), (0, (1024 * (x6 + 1)) + x4), us.getD 3 pU, us.getD 4 pU, us.getD 5 pU]) rfl rfl ?_
      refine WP.iconst rfl ?_
      refine WP.istore (L' := [(14, 248), (0, a1), (0, y2), us.getD 0 pU, (0, x4), (0, (-1)), (0, x6), (0, (1024 * x6) + x4), (0, (1024 * (x6 + 1)) + x4), us.getD 3 pU, us.getD 4 pU, us.getD 5 pU]) rfl rfl ?_
      refine WP.aload_n rfl rfl ⟨by decide, by decide⟩ ?_
      refine WP.getRF (b := 265) rfl rfl rfl ?_
      refine WP.iload rfl rfl ?_
      refine WP.iaload rfl ⟨by decide, by decide, by decide⟩ o28 ?_
      refine WP.aload_n rfl rfl ⟨by decide, by decide⟩ ?_
      refine WP.getRF (b := 265) rfl rfl rfl ?_
      refine WP.iload rfl rfl ?_
      refine WP.iaload rfl ⟨by decide, by decide, by decide⟩ o29 ?_
      have k30 : ∀ Q' : Option pV → pH → Prop, (WP 204 (97, [(14, 248), (0, a1), (0, y2), us.getD 0 pU, (0, x4), (0, (-1)), (0, x6), (0, (1024 * x6) + x4), (0, (1024 * (x6 + 1)) + x4), us.getD 3 pU, us.getD 4 pU, us.getD 5 pU], [(0, if h 265 ((1024 * (x6 + 1)) + x4) = h 265 ((1024 * x6) + x4) ∧ h 266 ((1024 * (x6 + 1)) + x4) = h 266 ((1024 * x6) + x4) then 1 else 0)], h) Q') → WP 204 (83, [(14, 248), (0, a1), (0, y2), us.getD 0 pU, (0, x4), (0, (-1)), (0, x6), (0, (1024 * x6) + x4), (0, (1024 * (x6 + 1)) + x4), us.getD 3 pU, us.getD 4 pU, us.getD 5 pU], [(0, h 265 ((1024 * x6) + x4)), (0, h 265 ((1024 * (x6 + 1)) + x4))], h) Q' := fun Q' kk => by
        refine WP.ni_ne rfl (fun c31 => ?_) (fun c31 => ?_)
        · refine WP.iconst rfl ?_
          have e := kk; simp only [if_neg (c31), if_neg (show ¬ (h 265 ((1024 * (x6 + 1)) + x4) = h 265 ((1024 * x6) + x4) ∧ h 266 ((1024 * (x6 + 1)) + x4) = h 266 ((1024 * x6) + x4)) from fun q => (c31) q.1)] at e ⊢; exact e
        · refine WP.aload_n rfl rfl ⟨by decide, by decide⟩ ?_
          refine WP.getRF (b := 266) rfl rfl rfl ?_
          refine WP.iload rfl rfl ?_
          refine WP.laload rfl ⟨by decide, by decide, by decide⟩ o28 ?_
          refine WP.aload_n rfl rfl ⟨by decide, by decide⟩ ?_
          refine WP.getRF (b := 266) rfl rfl rfl ?_
          refine WP.iload rfl rfl ?_
          refine WP.laload rfl ⟨by decide, by decide, by decide⟩ o29 ?_
          refine WP.lcmp rfl ?_
          refine WP.nl_ne rfl (fun c32 => ?_) (fun c32 => ?_)
          · refine WP.iconst rfl ?_
            have e := kk; simp only [if_pos c31, if_neg (c32), if_neg (show ¬ (h 265 ((1024 * (x6 + 1)) + x4) = h 265 ((1024 * x6) + x4) ∧ h 266 ((1024 * (x6 + 1)) + x4) = h 266 ((1024 * x6) + x4)) from fun q => (c32) q.2)] at e ⊢; exact e
          · refine WP.iconst rfl ?_
            refine WP.goto rfl ?_
            have e := kk; simp only [if_pos c31, if_pos c32, if_pos (show h 265 ((1024 * (x6 + 1)) + x4) = h 265 ((1024 * x6) + x4) ∧ h 266 ((1024 * (x6 + 1)) + x4) = h 266 ((1024 * x6) + x4) from ⟨c31, c32⟩)] at e ⊢; exact e
      refine k30 _ ?_
      refine WP.istore (L' := [(14, 248), (0, a1), (0, y2), us.getD 0 pU, (0, x4), (0, (-1)), (0, x6), (0, (1024 * x6) + x4), (0, (1024 * (x6 + 1)) + x4), (0, if h 265 ((1024 * (x6 + 1)) + x4) = h 265 ((1024 * x6) + x4) ∧ h 266 ((1024 * (x6 + 1)) + x4) = h 266 ((1024 * x6) + x4) then 1 else 0), us.getD 4 pU, us.getD 5 pU]) rfl rfl ?_
      refine WP.iconst rfl ?_
      refine WP.istore (L' := [(14, 248), (0, a1), (0, y2), us.getD 0 pU, (0, x4), (0, (-1)), (0, x6), (0, (1024 * x6) + x4), (0, (1024 * (x6 + 1)) + x4), (0, if h 265 ((1024 * (x6 + 1)) + x4) = h 265 ((1024 * x6) + x4) ∧ h 266 ((1024 * (x6 + 1)) + x4) = h 266 ((1024 * x6) + x4) then 1 else 0), (0, 0), us.getD 5 pU]) rfl rfl ?_
      refine lp_X12_placing_100 a1 y2 x4 x6 ((1024 * x6) + x4) h (-1) (if h 265 ((1024 * (x6 + 1)) + x4) = h 265 ((1024 * x6) + x4) ∧ h 266 ((1024 * (x6 + 1)) + x4) = h 266 ((1024 * x6) + x4) then 1 else 0) 0 o67 (fun us68 => ?_) [us.getD 0 pU, (0, (1024 * (x6 + 1)) + x4), us.getD 5 pU]
      show WP 204 (177, [(14, 248), (0, a1), (0, y2), us68.getD 0 pU, (0, x4), (0, s_X12_placing_6 a1 y2 x4 x6 h), (0, x6), (0, (1024 * x6) + x4), us68.getD 1 pU, (0, s_X12_placing_7 a1 y2 x4 x6 h), (0, s_X12_placing_8 a1 y2 x4 x6 h), us68.getD 2 pU], [], h) Q
      refine WP.iload rfl rfl ?_
      refine WP.iload rfl rfl ?_
      refine WP.iconst rfl ?_
      have k69 : ∀ Q' : Option pV → pH → Prop, (WP 204 (186, [(14, 248), (0, a1), (0, y2), us68.getD 0 pU, (0, x4), (0, s_X12_placing_6 a1 y2 x4 x6 h), (0, x6), (0, (1024 * x6) + x4), us68.getD 1 pU, (0, s_X12_placing_7 a1 y2 x4 x6 h), (0, s_X12_placing_8 a1 y2 x4 x6 h), us68.getD 2 pU], [(0, s_X12_placing_9 a1 y2 x4 x6 h), (0, x4)], h) Q') → WP 204 (180, [(14, 248), (0, a1), (0, y2), us68.getD 0 pU, (0, x4), (0, s_X12_placing_6 a1 y2 x4 x6 h), (0, x6), (0, (1024 * x6) + x4), us68.getD 1 pU, (0, s_X12_placing_7 a1 y2 x4 x6 h), (0, s_X12_placing_8 a1 y2 x4 x6 h), us68.getD 2 pU], [(0, (-1)), (0, s_X12_placing_6 a1 y2 x4 x6 h), (0, x4)], h) Q' := fun Q' kk => by
        refine WP.ni_ne rfl (fun c70 => ?_) (fun c70 => ?_)
        · refine WP.iconst rfl ?_
          refine WP.iload rfl rfl ?_
          refine WP.ishl rfl ?_
          have e := kk; simp only [s_X12_placing_9, if_neg (c70)] at e ⊢; exact e
        · refine WP.iconst rfl ?_
          refine WP.goto rfl ?_
          have e := kk; simp only [s_X12_placing_9, if_pos c70] at e ⊢; exact e
      refine k69 _ ?_
      refine WP.ior rfl ?_
      refine WP.istore (L' := [(14, 248), (0, a1), (0, y2), if (us68.getD 0 pU).1 = 1 then pU else us68.getD 0 pU, (0, pm_or x4 (s_X12_placing_9 a1 y2 x4 x6 h)), (0, s_X12_placing_6 a1 y2 x4 x6 h), (0, x6), (0, (1024 * x6) + x4), us68.getD 1 pU, (0, s_X12_placing_7 a1 y2 x4 x6 h), (0, s_X12_placing_8 a1 y2 x4 x6 h), us68.getD 2 pU]) rfl rfl ?_
      refine WP.aload_n rfl rfl ⟨by decide, by decide⟩ ?_
      refine WP.getRF (b := 267) rfl rfl rfl ?_
      refine WP.iload rfl rfl ?_
      refine WP.iaload rfl ⟨by decide, by decide, by decide⟩ o72 ?_
      refine WP.iload_n rfl rfl ?_
      refine WP.ni_ne rfl (fun c73 => ?_) (fun c73 => ?_)
      · refine WP.iincE (L' := [(14, 248), (0, a1), (0, y2), if (us68.getD 0 pU).1 = 1 then pU else us68.getD 0 pU, (0, pm_or x4 (s_X12_placing_9 a1 y2 x4 x6 h)), (0, s_X12_placing_6 a1 y2 x4 x6 h), (0, x6 + 1), (0, (1024 * x6) + x4), us68.getD 1 pU, (0, s_X12_placing_7 a1 y2 x4 x6 h), (0, s_X12_placing_8 a1 y2 x4 x6 h), us68.getD 2 pU]) rfl rfl o25 rfl ?_
        refine WP.goto rfl ?_
        exact kk [if (us68.getD 0 pU).1 = 1 then pU else us68.getD 0 pU, (0, (1024 * x6) + x4), us68.getD 1 pU, (0, s_X12_placing_7 a1 y2 x4 x6 h), (0, s_X12_placing_8 a1 y2 x4 x6 h), us68.getD 2 pU] (0, pm_or x4 (s_X12_placing_9 a1 y2 x4 x6 h), s_X12_placing_6 a1 y2 x4 x6 h, x6 + 1) (by simp only [B_X12_placing_56, if_neg (Int.not_le.mpr c22), if_neg (c73)])
      · exact kk [if (us68.getD 0 pU).1 = 1 then pU else us68.getD 0 pU, (0, (1024 * x6) + x4), us68.getD 1 pU, (0, s_X12_placing_7 a1 y2 x4 x6 h), (0, s_X12_placing_8 a1 y2 x4 x6 h), us68.getD 2 pU] (2, pm_or x4 (s_X12_placing_9 a1 y2 x4 x6 h), s_X12_placing_6 a1 y2 x4 x6 h, x6) (by simp only [B_X12_placing_56, if_neg (Int.not_le.mpr c22), if_pos c73])
  · intro hP hc
    intro us
    change ¬ (L_X12_placing_56 a1 y2 h x4 x5 x6).1 = 0 at hc
    show WP 204 (if (L_X12_placing_56 a1 y2 h x4 x5 x6).1 = 0 then (56, [(14, 248), (0, a1), (0, y2), us.getD 0 pU, (0, (L_X12_placing_56 a1 y2 h x4 x5 x6).2.1), (0, (L_X12_placing_56 a1 y2 h x4 x5 x6).2.2.1), (0, (L_X12_placing_56 a1 y2 h x4 x5 x6).2.2.2), us.getD 1 pU, us.getD 2 pU, us.getD 3 pU, us.getD 4 pU, us.getD 5 pU], [], h) else if (L_X12_placing_56 a1 y2 h x4 x5 x6).1 = 1 then (198, [(14, 248), (0, a1), (0, y2), us.getD 0 pU, (0, (L_X12_placing_56 a1 y2 h x4 x5 x6).2.1), (0, (L_X12_placing_56 a1 y2 h x4 x5 x6).2.2.1), (0, (L_X12_placing_56 a1 y2 h x4 x5 x6).2.2.2), us.getD 1 pU, us.getD 2 pU, us.getD 3 pU, us.getD 4 pU, us.getD 5 pU], [], h) else (194, [(14, 248), (0, a1), (0, y2), us.getD 0 pU, (0, (L_X12_placing_56 a1 y2 h x4 x5 x6).2.1), (0, (L_X12_placing_56 a1 y2 h x4 x5 x6).2.2.1), (0, (L_X12_placing_56 a1 y2 h x4 x5 x6).2.2.2), us.getD 1 pU, us.getD 2 pU, us.getD 3 pU, us.getD 4 pU, us.getD 5 pU], [], h)) Q
    rw [if_neg hc]
    by_cases e : (L_X12_placing_56 a1 y2 h x4 x5 x6).1 = 1
    · rw [if_pos e]; exact kk e us
    · rw [if_neg e]; exact kk2 e us
noncomputable def s_X12_placing_10 (a1 : Int) (h : pH) : Int := (L_X12_placing_56 a1 (F_X12_findOpen h) (H_X12_findPlacing (F_X12_findOpen h) (H_X12_findOpen h)) 0 (-1) 0).2.1
noncomputable def s_X12_placing_11 (a1 : Int) (h : pH) : Int := (L_X12_placing_56 a1 (F_X12_findOpen h) (H_X12_findPlacing (F_X12_findOpen h) (H_X12_findOpen h)) 0 (-1) 0).2.2.1
noncomputable def s_X12_placing_12 (a1 : Int) (h : pH) : Int := (L_X12_placing_56 a1 (F_X12_findOpen h) (H_X12_findPlacing (F_X12_findOpen h) (H_X12_findOpen h)) 0 (-1) 0).2.2.2
noncomputable def s_X12_placing_13 (a1 : Int) (h : pH) : Int := (L_X12_placing_56 a1 (F_X12_findOpen h) (H_X12_findPlacing (F_X12_findOpen h) (H_X12_findOpen h)) 0 (-1) 0).1
noncomputable def F_X12_placing (a1 : Int) (h : pH) : Int := if s_X12_placing_1 a1 h = 0 then (-2000000000) else if F_X12_findOpen h ≤ 8 then if a1 = (-1) then (H_X12_findPlacing (F_X12_findOpen h) (H_X12_findOpen h)) 266 0 else s_X12_placing_11 a1 h else (-2100000000)
noncomputable def H_X12_placing (a1 : Int) (h : pH) : pH := if s_X12_placing_1 a1 h = 0 then H_X12_findOpen h else if F_X12_findOpen h ≤ 8 then H_X12_findPlacing (F_X12_findOpen h) (H_X12_findOpen h) else H_X12_findOpen h
noncomputable def P_X12_placing (a1 : Int) (h : pH) : Prop := P_X12_findOpen h ∧ (O_X12_placing_12 a1 (F_X12_findOpen h) (H_X12_findOpen h) (if a1 = (-1) then 1 else 0) 0) ∧ ((¬ s_X12_placing_1 a1 h = 0) → (((F_X12_findOpen h ≤ 8) → ((P_X12_findPlacing (F_X12_findOpen h) (H_X12_findOpen h)) ∧ (((a1 = (-1)) → ((fx_i ((H_X12_findPlacing (F_X12_findOpen h) (H_X12_findOpen h)) 266 0)))) ∧ ((¬ a1 = (-1)) → ((O_X12_placing_56 a1 (F_X12_findOpen h) (H_X12_findPlacing (F_X12_findOpen h) (H_X12_findOpen h)) 0 (-1) 0))))))))
set_option maxHeartbeats 4000000 in
theorem w_X12_placing (a1 : Int) (h : pH) {Q : Option pV → pH → Prop} (hp : P_X12_placing a1 h) (kk : Q (some (0, F_X12_placing a1 h)) (H_X12_placing a1 h)) : WP 204 (0, [(14, 248), (0, a1), pU, pU, pU, pU, pU, pU, pU, pU, pU, pU], [], h) Q := by
  unfold P_X12_placing at hp
  obtain ⟨o1, o15, q80⟩ := hp
  refine WP.aload_n rfl rfl ⟨by decide, by decide⟩ ?_
  refine WP.callF (c_X12_findOpen h o1) rfl rfl (pm_cok rfl rfl (Or.inr ⟨_, _, rfl⟩) rfl rfl) rfl rfl ?_
  show WP 204 (2, [(14, 248), (0, a1), pU, pU, pU, pU, pU, pU, pU, pU, pU, pU], [(0, F_X12_findOpen h)], H_X12_findOpen h) Q
  refine WP.istore_n (L' := [(14, 248), (0, a1), (0, F_X12_findOpen h), pU, pU, pU, pU, pU, pU, pU, pU, pU]) rfl rfl ?_
  refine WP.iload_n rfl rfl ?_
  refine WP.iconst rfl ?_
  have k2 : ∀ Q' : Option pV → pH → Prop, (WP 204 (9, [(14, 248), (0, a1), (0, F_X12_findOpen h), pU, pU, pU, pU, pU, pU, pU, pU, pU], [(0, if a1 = (-1) then 1 else 0)], H_X12_findOpen h) Q') → WP 204 (5, [(14, 248), (0, a1), (0, F_X12_findOpen h), pU, pU, pU, pU, pU, pU, pU, pU, pU], [(0, (-1)), (0, a1)], H_X12_findOpen h) Q' := fun Q' kk => by
    refine WP.ni_ne rfl (fun c3 => ?_) (fun c3 => ?_)
    · refine WP.iconst rfl ?_
      have e := kk; simp only [if_neg (c3), if_neg (show ¬ (a1 = (-1)) from c3)] at e ⊢; exact e
    · refine WP.iconst rfl ?_
      refine WP.goto rfl ?_
      have e := kk; simp only [if_pos c3, if_pos (show a1 = (-1) from c3)] at e ⊢; exact e
  refine k2 _ ?_
  refine WP.istore_n (L' := [(14, 248), (0, a1), (0, F_X12_findOpen h), (0, if a1 = (-1) then 1 else 0), pU, pU, pU, pU, pU, pU, pU, pU]) rfl rfl ?_
  refine WP.iconst rfl ?_
  refine WP.istore (L' := [(14, 248), (0, a1), (0, F_X12_findOpen h), (0, if a1 = (-1) then 1 else 0), (0, 0), pU, pU, pU, pU, pU, pU, pU]) rfl rfl ?_
  refine lp_X12_placing_12 a1 (F_X12_findOpen h) (H_X12_findOpen h) (if a1 = (-1) then 1 else 0) 0 o15 (fun us16 => ?_) [pU, pU, pU, pU, pU, pU, pU]
  show WP 204 (29, [(14, 248), (0, a1), (0, F_X12_findOpen h), (0, s_X12_placing_1 a1 h), (0, s_X12_placing_2 a1 h), us16.getD 0 pU, us16.getD 1 pU, us16.getD 2 pU, us16.getD 3 pU, us16.getD 4 pU, us16.getD 5 pU, us16.getD 6 pU], [], H_X12_findOpen h) Q
  refine WP.iload_n rfl rfl ?_
  refine WP.nz_ne rfl (fun c17 => ?_) (fun c17 => ?_)
  · have q79 := q80 c17
    refine WP.iload_n rfl rfl ?_
    refine WP.bipush rfl ?_
    refine WP.ni_le rfl (fun c18 => ?_) (fun c18 => ?_)
    · obtain ⟨o19, q78⟩ := q79 c18
      refine WP.aload_n rfl rfl ⟨by decide, by decide⟩ ?_
      refine WP.iload_n rfl rfl ?_
      refine WP.callF (c_X12_findPlacing (F_X12_findOpen h) (H_X12_findOpen h) o19) rfl rfl (pm_cok rfl rfl (Or.inr ⟨_, _, rfl⟩) rfl rfl) rfl rfl ?_
      show WP 204 (41, [(14, 248), (0, a1), (0, F_X12_findOpen h), (0, s_X12_placing_1 a1 h), (0, s_X12_placing_2 a1 h), us16.getD 0 pU, us16.getD 1 pU, us16.getD 2 pU, us16.getD 3 pU, us16.getD 4 pU, us16.getD 5 pU, us16.getD 6 pU], [], H_X12_findPlacing (F_X12_findOpen h) (H_X12_findOpen h)) Q
      refine WP.iload_n rfl rfl ?_
      refine WP.iconst rfl ?_
      refine WP.ni_ne rfl (fun c20 => ?_) (fun c20 => ?_)
      · have o75 := q78.2 c20
        refine WP.iconst rfl ?_
        refine WP.istore (L' := [(14, 248), (0, a1), (0, F_X12_findOpen h), (0, s_X12_placing_1 a1 h), (0, 0), us16.getD 0 pU, us16.getD 1 pU, us16.getD 2 pU, us16.getD 3 pU, us16.getD 4 pU, us16.getD 5 pU, us16.getD 6 pU]) rfl rfl ?_
        refine WP.iconst rfl ?_
        refine WP.istore (L' := [(14, 248), (0, a1), (0, F_X12_findOpen h), (0, s_X12_placing_1 a1 h), (0, 0), (0, (-1)), us16.getD 1 pU, us16.getD 2 pU, us16.getD 3 pU, us16.getD 4 pU, us16.getD 5 pU, us16.getD 6 pU]) rfl rfl ?_
        refine WP.iconst rfl ?_
        refine WP.istore (L' := [(14, 248), (0, a1), (0, F_X12_findOpen h), (0, s_X12_placing_1 a1 h), (0, 0), (0, (-1)), (0, 0), us16.getD 2 pU, us16.getD 3 pU, us16.getD 4 pU, us16.getD 5 pU, us16.getD 6 pU]) rfl rfl ?_
        refine lp_X12_placing_56 a1 (F_X12_findOpen h) (H_X12_findPlacing (F_X12_findOpen h) (H_X12_findOpen h)) 0 (-1) 0 o75 (fun (c77 : s_X12_placing_13 a1 h = 1) us76 => ?_) (fun (c77 : ¬ s_X12_placing_13 a1 h = 1) us76 => ?_) [(0, s_X12_placing_1 a1 h), us16.getD 2 pU, us16.getD 3 pU, us16.getD 4 pU, us16.getD 5 pU, us16.getD 6 pU]
        · show WP 204 (198, [(14, 248), (0, a1), (0, F_X12_findOpen h), us76.getD 0 pU, (0, s_X12_placing_10 a1 h), (0, s_X12_placing_11 a1 h), (0, s_X12_placing_12 a1 h), us76.getD 1 pU, us76.getD 2 pU, us76.getD 3 pU, us76.getD 4 pU, us76.getD 5 pU], [], H_X12_findPlacing (F_X12_findOpen h) (H_X12_findOpen h)) Q
          refine WP.iload rfl rfl ?_
          refine WP.reti rfl ?_; have e := kk; simp only [F_X12_placing, H_X12_placing, if_neg (c17), if_pos c18, if_neg (c20), if_pos c77] at e ⊢; exact e
        · show WP 204 (194, [(14, 248), (0, a1), (0, F_X12_findOpen h), us76.getD 0 pU, (0, s_X12_placing_10 a1 h), (0, s_X12_placing_11 a1 h), (0, s_X12_placing_12 a1 h), us76.getD 1 pU, us76.getD 2 pU, us76.getD 3 pU, us76.getD 4 pU, us76.getD 5 pU], [], H_X12_findPlacing (F_X12_findOpen h) (H_X12_findOpen h)) Q
          refine WP.iload rfl rfl ?_
          refine WP.reti rfl ?_; have e := kk; simp only [F_X12_placing, H_X12_placing, if_neg (c17), if_pos c18, if_neg (c20), if_neg (c77)] at e ⊢; exact e
      · have o21 := q78.1 c20
        refine WP.aload_n rfl rfl ⟨by decide, by decide⟩ ?_
        refine WP.getRF (b := 266) rfl rfl rfl ?_
        refine WP.iconst rfl ?_
        refine WP.laload rfl ⟨by decide, by decide, by decide⟩ (by decide) ?_
        refine WP.l2iE rfl o21 ?_
        refine WP.reti rfl ?_; have e := kk; simp only [F_X12_placing, H_X12_placing, if_neg (c17), if_pos c18, if_pos c20] at e ⊢; exact e
    · refine WP.ldc_w rfl ?_
      refine WP.reti rfl ?_; have e := kk; simp only [F_X12_placing, H_X12_placing, if_neg (c17), if_neg (Int.not_le.mpr c18)] at e ⊢; exact e
  · refine WP.ldc rfl ?_
    refine WP.reti rfl ?_; have e := kk; simp only [F_X12_placing, H_X12_placing, if_pos c17] at e ⊢; exact e
theorem c_X12_placing (a1 : Int) (h : pH) (hp : P_X12_placing a1 h) : CP 204 [(14, 248), (0, a1)] h (fun r h1 => r = some (0, F_X12_placing a1 h) ∧ h1 = H_X12_placing a1 h) := w_X12_placing a1 h hp ⟨rfl, rfl⟩
def C_X4_go_4 (a0 : Int) (a1 : Int) (x2 : Int) (x3 : Int) (h : pH) : Prop := x3 < a1
noncomputable def B_X4_go_4 (a0 : Int) (a1 : Int) (x2 : Int) (x3 : Int) (h : pH) : Int × Int × pH := (x2 + (F_X4_step a0 h), x3 + 1, H_X4_step a0 h)
noncomputable def P_X4_go_4 (a0 : Int) (a1 : Int) (x2 : Int) (x3 : Int) (h : pH) : Prop := ((x3 < a1) → P_X4_step a0 h ∧ (fx_i (x2 + (F_X4_step a0 h))) ∧ (fx_i (x3 + 1)))
noncomputable def L_X4_go_4 (a0 : Int) (a1 : Int) (x2 : Int) (x3 : Int) (h : pH) : Int × Int × pH := fx_wh (σ := Int × Int × pH) (fun s => C_X4_go_4 a0 a1 s.1 s.2.1 s.2.2) (fun s => B_X4_go_4 a0 a1 s.1 s.2.1 s.2.2) (x2, x3, h)
def O_X4_go_4 (a0 : Int) (a1 : Int) (x2 : Int) (x3 : Int) (h : pH) : Prop := fx_ok (σ := Int × Int × pH) (fun s => C_X4_go_4 a0 a1 s.1 s.2.1 s.2.2) (fun s => B_X4_go_4 a0 a1 s.1 s.2.1 s.2.2) (fun s => P_X4_go_4 a0 a1 s.1 s.2.1 s.2.2) (x2, x3, h)
set_option maxHeartbeats 4000000 in
theorem lp_X4_go_4 (a0 : Int) (a1 : Int) (x2 : Int) (x3 : Int) (h : pH) {Q : Option pV → pH → Prop} (hp : O_X4_go_4 a0 a1 x2 x3 h) (kk : ∀ us : List pV, WP 19 (14, [(6, a0), (0, a1), (0, (L_X4_go_4 a0 a1 x2 x3 h).1), (0, (L_X4_go_4 a0 a1 x2 x3 h).2.1)], [], (L_X4_go_4 a0 a1 x2 x3 h).2.2) Q) : ∀ us : List pV, WP 19 (4, [(6, a0), (0, a1), (0, x2), (0, x3)], [], h) Q := by
  refine WP.wh (σ := Int × Int × pH) (fun s => C_X4_go_4 a0 a1 s.1 s.2.1 s.2.2) (fun s => B_X4_go_4 a0 a1 s.1 s.2.1 s.2.2) (fun s => P_X4_go_4 a0 a1 s.1 s.2.1 s.2.2) (fun s us => (4, [(6, a0), (0, a1), (0, s.1), (0, s.2.1)], [], s.2.2)) (x2, x3, h) hp ?_ ?_
  · intro s us hP hc kk
    obtain ⟨x2, x3, h⟩ := s
    change P_X4_go_4 a0 a1 x2 x3 h at hP
    change x3 < a1 at hc
    replace kk : ∀ (us' : List pV) (s' : Int × Int × pH), s' = B_X4_go_4 a0 a1 x2 x3 h → WP 19 (4, [(6, a0), (0, a1), (0, s'.1), (0, s'.2.1)], [], s'.2.2) Q := fun us' s' e => by subst e; exact kk us'
    unfold P_X4_go_4 at hP
    obtain ⟨o3, o4, o5⟩ := hP hc
    show WP 19 (4, [(6, a0), (0, a1), (0, x2), (0, x3)], [], h) Q
    refine WP.iload_n rfl rfl ?_
    refine WP.iload_n rfl rfl ?_
    refine WP.ni_ge rfl (fun c2 => ?_) (fun c2 => ?_)
    · exact absurd hc (Int.not_lt.mpr c2)
    · refine WP.iload_n rfl rfl ?_
      refine WP.aload_n rfl rfl ⟨by decide, by decide⟩ ?_
      refine WP.callF (c_X4_step a0 h o3) rfl rfl (pm_cok rfl rfl (Or.inr ⟨_, _, rfl⟩) rfl rfl) rfl rfl ?_
      show WP 19 (10, [(6, a0), (0, a1), (0, x2), (0, x3)], [(0, F_X4_step a0 h), (0, x2)], H_X4_step a0 h) Q
      refine WP.iaddE rfl o4 ?_
      refine WP.istore_n (L' := [(6, a0), (0, a1), (0, x2 + (F_X4_step a0 h)), (0, x3)]) rfl rfl ?_
      refine WP.iincE (L' := [(6, a0), (0, a1), (0, x2 + (F_X4_step a0 h)), (0, x3 + 1)]) rfl rfl o5 rfl ?_
      refine WP.goto rfl ?_
      exact kk [] (x2 + (F_X4_step a0 h), x3 + 1, H_X4_step a0 h) (rfl)
  · intro hP hc
    generalize hs : (L_X4_go_4 a0 a1 x2 x3 h : Int × Int × pH) = s at kk
    change P_X4_go_4 a0 a1 (L_X4_go_4 a0 a1 x2 x3 h).1 (L_X4_go_4 a0 a1 x2 x3 h).2.1 (L_X4_go_4 a0 a1 x2 x3 h).2.2 at hP
    change ¬ C_X4_go_4 a0 a1 (L_X4_go_4 a0 a1 x2 x3 h).1 (L_X4_go_4 a0 a1 x2 x3 h).2.1 (L_X4_go_4 a0 a1 x2 x3 h).2.2 at hc
    intro us
    show WP 19 (4, [(6, a0), (0, a1), (0, (L_X4_go_4 a0 a1 x2 x3 h).1), (0, (L_X4_go_4 a0 a1 x2 x3 h).2.1)], [], (L_X4_go_4 a0 a1 x2 x3 h).2.2) Q
    rw [hs] at hP hc ⊢
    obtain ⟨x2, x3, h⟩ := s
    change P_X4_go_4 a0 a1 x2 x3 h at hP
    change ¬ (x3 < a1) at hc
    unfold P_X4_go_4 at hP
    show WP 19 (4, [(6, a0), (0, a1), (0, x2), (0, x3)], [], h) Q
    refine WP.iload_n rfl rfl ?_
    refine WP.iload_n rfl rfl ?_
    refine WP.ni_ge rfl (fun c1 => ?_) (fun c1 => ?_)
    · exact kk []
    · exact absurd (show x3 < a1 from c1) hc
noncomputable def F_X4_go (a0 : Int) (a1 : Int) (h : pH) : Int := (L_X4_go_4 a0 a1 0 0 h).1
noncomputable def H_X4_go (a0 : Int) (a1 : Int) (h : pH) : pH := (L_X4_go_4 a0 a1 0 0 h).2.2
noncomputable def P_X4_go (a0 : Int) (a1 : Int) (h : pH) : Prop := O_X4_go_4 a0 a1 0 0 h
set_option maxHeartbeats 4000000 in
theorem w_X4_go (a0 : Int) (a1 : Int) (h : pH) {Q : Option pV → pH → Prop} (hp : P_X4_go a0 a1 h) (kk : Q (some (0, F_X4_go a0 a1 h)) (H_X4_go a0 a1 h)) : WP 19 (0, [(6, a0), (0, a1), pU, pU], [], h) Q := by
  unfold P_X4_go at hp
  have o6 := hp
  refine WP.iconst rfl ?_
  refine WP.istore_n (L' := [(6, a0), (0, a1), (0, 0), pU]) rfl rfl ?_
  refine WP.iconst rfl ?_
  refine WP.istore_n (L' := [(6, a0), (0, a1), (0, 0), (0, 0)]) rfl rfl ?_
  refine lp_X4_go_4 a0 a1 0 0 h o6 (fun us7 => ?_) []
  show WP 19 (14, [(6, a0), (0, a1), (0, (L_X4_go_4 a0 a1 0 0 h).1), (0, (L_X4_go_4 a0 a1 0 0 h).2.1)], [], (L_X4_go_4 a0 a1 0 0 h).2.2) Q
  refine WP.iload_n rfl rfl ?_
  refine WP.reti rfl ?_; exact kk
theorem c_X4_go (a0 : Int) (a1 : Int) (h : pH) (hp : P_X4_go a0 a1 h) : CP 19 [(6, a0), (0, a1)] h (fun r h1 => r = some (0, F_X4_go a0 a1 h) ∧ h1 = H_X4_go a0 a1 h) := w_X4_go a0 a1 h hp ⟨rfl, rfl⟩
noncomputable def s_X10_addBatch_1 (a0 : Int) (h : pH) : pH := pm_upd (pm_upd h (a0 + 4) (h a0 15) 0) (a0 + 7) ((pm_upd h (a0 + 4) (h a0 15) 0) a0 15) 0
noncomputable def s_X10_addBatch_2 (a0 : Int) (a3 : Int) (h : pH) : pH := pm_upd (s_X10_addBatch_1 a0 h) (a0 + 8) ((s_X10_addBatch_1 a0 h) a0 15) a3
noncomputable def s_X10_addBatch_3 (a0 : Int) (a3 : Int) (h : pH) : pH := pm_upd (s_X10_addBatch_2 a0 a3 h) (a0 + 11) ((s_X10_addBatch_2 a0 a3 h) a0 15) 1
noncomputable def F_X10_addBatch (a0 : Int) (a1 : Int) (a2 : Int) (a3 : Int) (a4 : Int) (h : pH) : Int := if h a0 15 < 16 then F_X10_add a0 a1 a2 a4 (s_X10_addBatch_3 a0 a3 h) else (-4)
noncomputable def H_X10_addBatch (a0 : Int) (a1 : Int) (a2 : Int) (a3 : Int) (a4 : Int) (h : pH) : pH := if h a0 15 < 16 then H_X10_add a0 a1 a2 a4 (s_X10_addBatch_3 a0 a3 h) else h
noncomputable def P_X10_addBatch (a0 : Int) (a1 : Int) (a2 : Int) (a3 : Int) (a4 : Int) (h : pH) : Prop := ((h a0 15 < 16) → ((0 ≤ h a0 15 ∧ h a0 15 < 16) ∧ (0 ≤ (pm_upd h (a0 + 4) (h a0 15) 0) a0 15 ∧ (pm_upd h (a0 + 4) (h a0 15) 0) a0 15 < 16) ∧ (0 ≤ (s_X10_addBatch_1 a0 h) a0 15 ∧ (s_X10_addBatch_1 a0 h) a0 15 < 16) ∧ (0 ≤ (s_X10_addBatch_2 a0 a3 h) a0 15 ∧ (s_X10_addBatch_2 a0 a3 h) a0 15 < 16) ∧ (P_X10_add a0 a1 a2 a4 (s_X10_addBatch_3 a0 a3 h))))
set_option maxHeartbeats 4000000 in
theorem w_X10_addBatch (a0 : Int) (a1 : Int) (a2 : Int) (a3 : Int) (a4 : Int) (h : pH) {Q : Option pV → pH → Prop} (hp : P_X10_addBatch a0 a1 a2 a3 a4 h) (kk : Q (some (0, F_X10_addBatch a0 a1 a2 a3 a4 h)) (H_X10_addBatch a0 a1 a2 a3 a4 h)) : WP 77 (0, [(12, a0), (0, a1), (0, a2), (0, a3), (0, a4)], [], h) Q := by
  unfold P_X10_addBatch at hp
  have q7 := hp
  refine WP.aload_n rfl rfl ⟨by decide, by decide⟩ ?_
  refine WP.getI rfl rfl ?_
  refine WP.bipush rfl ?_
  refine WP.ni_lt rfl (fun c1 => ?_) (fun c1 => ?_)
  · obtain ⟨o2, o3, o4, o5, o6⟩ := q7 c1
    refine WP.aload_n rfl rfl ⟨by decide, by decide⟩ ?_
    refine WP.getR rfl rfl ?_
    refine WP.aload_n rfl rfl ⟨by decide, by decide⟩ ?_
    refine WP.getI rfl rfl ?_
    refine WP.iconst rfl ?_
    refine WP.iastore rfl ⟨by decide, by decide, by decide⟩ o2 ?_
    refine WP.aload_n rfl rfl ⟨by decide, by decide⟩ ?_
    refine WP.getR rfl rfl ?_
    refine WP.aload_n rfl rfl ⟨by decide, by decide⟩ ?_
    refine WP.getI rfl rfl ?_
    refine WP.iconst rfl ?_
    refine WP.iastore rfl ⟨by decide, by decide, by decide⟩ o3 ?_
    show WP 77 (18, [(12, a0), (0, a1), (0, a2), (0, a3), (0, a4)], [], s_X10_addBatch_1 a0 h) Q
    refine WP.aload_n rfl rfl ⟨by decide, by decide⟩ ?_
    refine WP.getR rfl rfl ?_
    refine WP.aload_n rfl rfl ⟨by decide, by decide⟩ ?_
    refine WP.getI rfl rfl ?_
    refine WP.iload_n rfl rfl ?_
    refine WP.iastore rfl ⟨by decide, by decide, by decide⟩ o4 ?_
    show WP 77 (24, [(12, a0), (0, a1), (0, a2), (0, a3), (0, a4)], [], s_X10_addBatch_2 a0 a3 h) Q
    refine WP.aload_n rfl rfl ⟨by decide, by decide⟩ ?_
    refine WP.getR rfl rfl ?_
    refine WP.aload_n rfl rfl ⟨by decide, by decide⟩ ?_
    refine WP.getI rfl rfl ?_
    refine WP.iconst rfl ?_
    refine WP.iastore rfl ⟨by decide, by decide, by decide⟩ o5 ?_
    show WP 77 (30, [(12, a0), (0, a1), (0, a2), (0, a3), (0, a4)], [], s_X10_addBatch_3 a0 a3 h) Q
    refine WP.aload_n rfl rfl ⟨by decide, by decide⟩ ?_
    refine WP.iload_n rfl rfl ?_
    refine WP.iload_n rfl rfl ?_
    refine WP.iload rfl rfl ?_
    refine WP.callF (c_X10_add a0 a1 a2 a4 (s_X10_addBatch_3 a0 a3 h) o6) rfl rfl (pm_cok rfl rfl (Or.inr ⟨_, _, rfl⟩) rfl rfl) rfl rfl ?_
    show WP 77 (35, [(12, a0), (0, a1), (0, a2), (0, a3), (0, a4)], [(0, F_X10_add a0 a1 a2 a4 (s_X10_addBatch_3 a0 a3 h))], H_X10_add a0 a1 a2 a4 (s_X10_addBatch_3 a0 a3 h)) Q
    refine WP.reti rfl ?_; have e := kk; simp only [F_X10_addBatch, H_X10_addBatch, if_pos c1] at e ⊢; exact e
  · refine WP.bipush rfl ?_
    refine WP.reti rfl ?_; have e := kk; simp only [F_X10_addBatch, H_X10_addBatch, if_neg (Int.not_lt.mpr c1)] at e ⊢; exact e
theorem c_X10_addBatch (a0 : Int) (a1 : Int) (a2 : Int) (a3 : Int) (a4 : Int) (h : pH) (hp : P_X10_addBatch a0 a1 a2 a3 a4 h) : CP 77 [(12, a0), (0, a1), (0, a2), (0, a3), (0, a4)] h (fun r h1 => r = some (0, F_X10_addBatch a0 a1 a2 a3 a4 h) ∧ h1 = H_X10_addBatch a0 a1 a2 a3 a4 h) := w_X10_addBatch a0 a1 a2 a3 a4 h hp ⟨rfl, rfl⟩
noncomputable def s_X10_addSteady_1 (a0 : Int) (a2 : Int) (h : pH) : pH := pm_upd (pm_upd h (a0 + 4) (h a0 15) 1) (a0 + 7) ((pm_upd h (a0 + 4) (h a0 15) 1) a0 15) a2
noncomputable def s_X10_addSteady_2 (a0 : Int) (a2 : Int) (a3 : Int) (h : pH) : pH := pm_upd (s_X10_addSteady_1 a0 a2 h) (a0 + 8) ((s_X10_addSteady_1 a0 a2 h) a0 15) a3
noncomputable def s_X10_addSteady_3 (a0 : Int) (a2 : Int) (a3 : Int) (a6 : Int) (h : pH) : pH := pm_upd (s_X10_addSteady_2 a0 a2 a3 h) (a0 + 11) ((s_X10_addSteady_2 a0 a2 a3 h) a0 15) (if a2 ≤ a6 then 1 else 0)
noncomputable def F_X10_addSteady (a0 : Int) (a1 : Int) (a2 : Int) (a3 : Int) (a4 : Int) (a5 : Int) (a6 : Int) (h : pH) : Int := if h a0 15 < 16 then F_X10_add a0 a1 a4 a5 (s_X10_addSteady_3 a0 a2 a3 a6 h) else (-4)
noncomputable def H_X10_addSteady (a0 : Int) (a1 : Int) (a2 : Int) (a3 : Int) (a4 : Int) (a5 : Int) (a6 : Int) (h : pH) : pH := if h a0 15 < 16 then H_X10_add a0 a1 a4 a5 (s_X10_addSteady_3 a0 a2 a3 a6 h) else h
noncomputable def P_X10_addSteady (a0 : Int) (a1 : Int) (a2 : Int) (a3 : Int) (a4 : Int) (a5 : Int) (a6 : Int) (h : pH) : Prop := ((h a0 15 < 16) → ((0 ≤ h a0 15 ∧ h a0 15 < 16) ∧ (0 ≤ (pm_upd h (a0 + 4) (h a0 15) 1) a0 15 ∧ (pm_upd h (a0 + 4) (h a0 15) 1) a0 15 < 16) ∧ (0 ≤ (s_X10_addSteady_1 a0 a2 h) a0 15 ∧ (s_X10_addSteady_1 a0 a2 h) a0 15 < 16) ∧ (0 ≤ (s_X10_addSteady_2 a0 a2 a3 h) a0 15 ∧ (s_X10_addSteady_2 a0 a2 a3 h) a0 15 < 16) ∧ (P_X10_add a0 a1 a4 a5 (s_X10_addSteady_3 a0 a2 a3 a6 h))))
set_option maxHeartbeats 4000000 in
theorem w_X10_addSteady (a0 : Int) (a1 : Int) (a2 : Int) (a3 : Int) (a4 : Int) (a5 : Int) (a6 : Int) (h : pH) {Q : Option pV → pH → Prop} (hp : P_X10_addSteady a0 a1 a2 a3 a4 a5 a6 h) (kk : Q (some (0, F_X10_addSteady a0 a1 a2 a3 a4 a5 a6 h)) (H_X10_addSteady a0 a1 a2 a3 a4 a5 a6 h)) : WP 78 (0, [(12, a0), (0, a1), (0, a2), (0, a3), (0, a4), (0, a5), (0, a6)], [], h) Q := by
  unfold P_X10_addSteady at hp
  have q10 := hp
  refine WP.aload_n rfl rfl ⟨by decide, by decide⟩ ?_
  refine WP.getI rfl rfl ?_
  refine WP.bipush rfl ?_
  refine WP.ni_lt rfl (fun c1 => ?_) (fun c1 => ?_)
  · obtain ⟨o2, o3, o4, o8, o9⟩ := q10 c1
    refine WP.aload_n rfl rfl ⟨by decide, by decide⟩ ?_
    refine WP.getR rfl rfl ?_
    refine WP.aload_n rfl rfl ⟨by decide, by decide⟩ ?_
    refine WP.getI rfl rfl ?_
    refine WP.iconst rfl ?_
    refine WP.iastore rfl ⟨by decide, by decide, by decide⟩ o2 ?_
    refine WP.aload_n rfl rfl ⟨by decide, by decide⟩ ?_
    refine WP.getR rfl rfl ?_
    refine WP.aload_n rfl rfl ⟨by decide, by decide⟩ ?_
    refine WP.getI rfl rfl ?_
    refine WP.iload_n rfl rfl ?_
    refine WP.iastore rfl ⟨by decide, by decide, by decide⟩ o3 ?_
    show WP 78 (18, [(12, a0), (0, a1), (0, a2), (0, a3), (0, a4), (0, a5), (0, a6)], [], s_X10_addSteady_1 a0 a2 h) Q
    refine WP.aload_n rfl rfl ⟨by decide, by decide⟩ ?_
    refine WP.getR rfl rfl ?_
    refine WP.aload_n rfl rfl ⟨by decide, by decide⟩ ?_
    refine WP.getI rfl rfl ?_
    refine WP.iload_n rfl rfl ?_
    refine WP.iastore rfl ⟨by decide, by decide, by decide⟩ o4 ?_
    show WP 78 (24, [(12, a0), (0, a1), (0, a2), (0, a3), (0, a4), (0, a5), (0, a6)], [], s_X10_addSteady_2 a0 a2 a3 h) Q
    refine WP.aload_n rfl rfl ⟨by decide, by decide⟩ ?_
    refine WP.getR rfl rfl ?_
    refine WP.aload_n rfl rfl ⟨by decide, by decide⟩ ?_
    refine WP.getI rfl rfl ?_
    refine WP.iload_n rfl rfl ?_
    refine WP.iload rfl rfl ?_
    have k5 : ∀ Q' : Option pV → pH → Prop, (WP 78 (34, [(12, a0), (0, a1), (0, a2), (0, a3), (0, a4), (0, a5), (0, a6)], [(0, if a2 ≤ a6 then 1 else 0), (0, (s_X10_addSteady_2 a0 a2 a3 h) a0 15), (1064, a0 + 11)], s_X10_addSteady_2 a0 a2 a3 h) Q') → WP 78 (30, [(12, a0), (0, a1), (0, a2), (0, a3), (0, a4), (0, a5), (0, a6)], [(0, a6), (0, a2), (0, (s_X10_addSteady_2 a0 a2 a3 h) a0 15), (1064, a0 + 11)], s_X10_addSteady_2 a0 a2 a3 h) Q' := fun Q' kk => by
      refine WP.ni_gt rfl (fun c6 => ?_) (fun c6 => ?_)
      · refine WP.iconst rfl ?_
        have e := kk; simp only [if_pos c6, if_neg (show ¬ (a2 ≤ a6) from Int.not_le.mpr c6)] at e ⊢; exact e
      · refine WP.iconst rfl ?_
        refine WP.goto rfl ?_
        have e := kk; simp only [if_neg (Int.not_lt.mpr c6), if_pos (show a2 ≤ a6 from c6)] at e ⊢; exact e
    refine k5 _ ?_
    refine WP.iastore rfl ⟨by decide, by decide, by decide⟩ o8 ?_
    show WP 78 (35, [(12, a0), (0, a1), (0, a2), (0, a3), (0, a4), (0, a5), (0, a6)], [], s_X10_addSteady_3 a0 a2 a3 a6 h) Q
    refine WP.aload_n rfl rfl ⟨by decide, by decide⟩ ?_
    refine WP.iload_n rfl rfl ?_
    refine WP.iload rfl rfl ?_
    refine WP.iload rfl rfl ?_
    refine WP.callF (c_X10_add a0 a1 a4 a5 (s_X10_addSteady_3 a0 a2 a3 a6 h) o9) rfl rfl (pm_cok rfl rfl (Or.inr ⟨_, _, rfl⟩) rfl rfl) rfl rfl ?_
    show WP 78 (40, [(12, a0), (0, a1), (0, a2), (0, a3), (0, a4), (0, a5), (0, a6)], [(0, F_X10_add a0 a1 a4 a5 (s_X10_addSteady_3 a0 a2 a3 a6 h))], H_X10_add a0 a1 a4 a5 (s_X10_addSteady_3 a0 a2 a3 a6 h)) Q
    refine WP.reti rfl ?_; have e := kk; simp only [F_X10_addSteady, H_X10_addSteady, if_pos c1] at e ⊢; exact e
  · refine WP.bipush rfl ?_
    refine WP.reti rfl ?_; have e := kk; simp only [F_X10_addSteady, H_X10_addSteady, if_neg (Int.not_lt.mpr c1)] at e ⊢; exact e
theorem c_X10_addSteady (a0 : Int) (a1 : Int) (a2 : Int) (a3 : Int) (a4 : Int) (a5 : Int) (a6 : Int) (h : pH) (hp : P_X10_addSteady a0 a1 a2 a3 a4 a5 a6 h) : CP 78 [(12, a0), (0, a1), (0, a2), (0, a3), (0, a4), (0, a5), (0, a6)] h (fun r h1 => r = some (0, F_X10_addSteady a0 a1 a2 a3 a4 a5 a6 h) ∧ h1 = H_X10_addSteady a0 a1 a2 a3 a4 a5 a6 h) := w_X10_addSteady a0 a1 a2 a3 a4 a5 a6 h hp ⟨rfl, rfl⟩
noncomputable def F_X11_house (a1 : Int) (a2 : Int) (a3 : Int) (a4 : Int) (h : pH) : Int := if 0 ≤ a1 ∧ a1 ≤ 7 then if 0 ≤ a2 ∧ a2 ≤ 99 then if 0 ≤ a3 ∧ a3 ≤ 1000 then if 0 ≤ a4 ∧ a4 ≤ 1000 then 1 else (-2) else (-2) else (-2) else (-2)
noncomputable def H_X11_house (a1 : Int) (a2 : Int) (a3 : Int) (a4 : Int) (h : pH) : pH := if 0 ≤ a1 ∧ a1 ≤ 7 then if 0 ≤ a2 ∧ a2 ≤ 99 then if 0 ≤ a3 ∧ a3 ≤ 1000 then if 0 ≤ a4 ∧ a4 ≤ 1000 then H_X10_setHouse 22 a1 a2 a3 a4 h else h else h else h else h
noncomputable def P_X11_house (a1 : Int) (a2 : Int) (a3 : Int) (a4 : Int) (h : pH) : Prop := ((0 ≤ a1 ∧ a1 ≤ 7) → (((0 ≤ a2 ∧ a2 ≤ 99) → (((0 ≤ a3 ∧ a3 ≤ 1000) → (((0 ≤ a4 ∧ a4 ≤ 1000) → P_X10_setHouse 22 a1 a2 a3 a4 h)))))))
set_option maxHeartbeats 4000000 in
theorem w_X11_house (a1 : Int) (a2 : Int) (a3 : Int) (a4 : Int) (h : pH) {Q : Option pV → pH → Prop} (hp : P_X11_house a1 a2 a3 a4 h) (kk : Q (some (0, F_X11_house a1 a2 a3 a4 h)) (H_X11_house a1 a2 a3 a4 h)) : WP 106 (0, [(13, 0), (0, a1), (0, a2), (0, a3), (0, a4)], [], h) Q := by
  unfold P_X11_house at hp
  have q9 := hp
  refine WP.iload_n rfl rfl ?_
  refine WP.callF (c_X11_isHouse a1 h) rfl rfl (pm_cok rfl rfl (Or.inl rfl) rfl rfl) rfl rfl ?_
  show WP 106 (2, [(13, 0), (0, a1), (0, a2), (0, a3), (0, a4)], [(0, if 0 ≤ a1 ∧ a1 ≤ 7 then 1 else 0)], h) Q
  refine WP.nb_eq rfl (fun c1 => ?_) (fun c1 => ?_)
  · refine WP.bipush rfl ?_
    refine WP.reti rfl ?_; have e := kk; simp only [F_X11_house, H_X11_house, if_neg (c1)] at e ⊢; exact e
  · have q8 := q9 c1
    refine WP.iload_n rfl rfl ?_
    refine WP.iconst rfl ?_
    refine WP.bipush rfl ?_
    refine WP.callF (c_X11_within a2 0 99 h) rfl rfl (pm_cok rfl rfl (Or.inl rfl) rfl rfl) rfl rfl ?_
    show WP 106 (7, [(13, 0), (0, a1), (0, a2), (0, a3), (0, a4)], [(0, if 0 ≤ a2 ∧ a2 ≤ 99 then 1 else 0)], h) Q
    refine WP.nb_eq rfl (fun c2 => ?_) (fun c2 => ?_)
    · refine WP.bipush rfl ?_
      refine WP.reti rfl ?_; have e := kk; simp only [F_X11_house, H_X11_house, if_pos c1, if_neg (c2)] at e ⊢; exact e
    · have q7 := q8 c2
      refine WP.iload_n rfl rfl ?_
      refine WP.iconst rfl ?_
      refine WP.sipush rfl ?_
      refine WP.callF (c_X11_within a3 0 1000 h) rfl rfl (pm_cok rfl rfl (Or.inl rfl) rfl rfl) rfl rfl ?_
      show WP 106 (12, [(13, 0), (0, a1), (0, a2), (0, a3), (0, a4)], [(0, if 0 ≤ a3 ∧ a3 ≤ 1000 then 1 else 0)], h) Q
      refine WP.nb_eq rfl (fun c3 => ?_) (fun c3 => ?_)
      · refine WP.bipush rfl ?_
        refine WP.reti rfl ?_; have e := kk; simp only [F_X11_house, H_X11_house, if_pos c1, if_pos c2, if_neg (c3)] at e ⊢; exact e
      · have q6 := q7 c3
        refine WP.iload rfl rfl ?_
        refine WP.iconst rfl ?_
        refine WP.sipush rfl ?_
        refine WP.callF (c_X11_within a4 0 1000 h) rfl rfl (pm_cok rfl rfl (Or.inl rfl) rfl rfl) rfl rfl ?_
        show WP 106 (17, [(13, 0), (0, a1), (0, a2), (0, a3), (0, a4)], [(0, if 0 ≤ a4 ∧ a4 ≤ 1000 then 1 else 0)], h) Q
        refine WP.nb_ne rfl (fun c4 => ?_) (fun c4 => ?_)
        · have o5 := q6 c4
          refine WP.aload_n rfl rfl ⟨by decide, by decide⟩ ?_
          refine WP.getRF (b := 1) rfl rfl rfl ?_
          refine WP.getRF (b := 22) rfl rfl rfl ?_
          refine WP.iload_n rfl rfl ?_
          refine WP.iload_n rfl rfl ?_
          refine WP.iload_n rfl rfl ?_
          refine WP.iload rfl rfl ?_
          refine WP.callF (c_X10_setHouse 22 a1 a2 a3 a4 h o5) rfl rfl (pm_cok rfl rfl (Or.inr ⟨_, _, rfl⟩) rfl rfl) rfl rfl ?_
          show WP 106 (28, [(13, 0), (0, a1), (0, a2), (0, a3), (0, a4)], [], H_X10_setHouse 22 a1 a2 a3 a4 h) Q
          refine WP.iconst rfl ?_
          refine WP.reti rfl ?_; have e := kk; simp only [F_X11_house, H_X11_house, if_pos c1, if_pos c2, if_pos c3, if_pos c4] at e ⊢; exact e
        · refine WP.bipush rfl ?_
          refine WP.reti rfl ?_; have e := kk; simp only [F_X11_house, H_X11_house, if_pos c1, if_pos c2, if_pos c3, if_neg (c4)] at e ⊢; exact e
theorem c_X11_house (a1 : Int) (a2 : Int) (a3 : Int) (a4 : Int) (h : pH) (hp : P_X11_house a1 a2 a3 a4 h) : CP 106 [(13, 0), (0, a1), (0, a2), (0, a3), (0, a4)] h (fun r h1 => r = some (0, F_X11_house a1 a2 a3 a4 h) ∧ h1 = H_X11_house a1 a2 a3 a4 h) := w_X11_house a1 a2 a3 a4 h hp ⟨rfl, rfl⟩
def C_X11_minutes_18 (a1 : Int) (x2 : Int) (x3 : Int) (h : pH) : Prop := x3 < a1
noncomputable def B_X11_minutes_18 (a1 : Int) (x2 : Int) (x3 : Int) (h : pH) : Int × Int × pH := (x2 + (F_X4_step 1 h), x3 + 1, H_X1_note (F_X0_sum 2 (H_X4_step 1 h)) (H_X4_step 1 h))
noncomputable def P_X11_minutes_18 (a1 : Int) (x2 : Int) (x3 : Int) (h : pH) : Prop := ((x3 < a1) → P_X4_step 1 h ∧ (fx_i (x2 + (F_X4_step 1 h))) ∧ (P_X0_sum 2 (H_X4_step 1 h)) ∧ (P_X1_note (F_X0_sum 2 (H_X4_step 1 h)) (H_X4_step 1 h)) ∧ (fx_i (x3 + 1)))
noncomputable def L_X11_minutes_18 (a1 : Int) (x2 : Int) (x3 : Int) (h : pH) : Int × Int × pH := fx_wh (σ := Int × Int × pH) (fun s => C_X11_minutes_18 a1 s.1 s.2.1 s.2.2) (fun s => B_X11_minutes_18 a1 s.1 s.2.1 s.2.2) (x2, x3, h)
def O_X11_minutes_18 (a1 : Int) (x2 : Int) (x3 : Int) (h : pH) : Prop := fx_ok (σ := Int × Int × pH) (fun s => C_X11_minutes_18 a1 s.1 s.2.1 s.2.2) (fun s => B_X11_minutes_18 a1 s.1 s.2.1 s.2.2) (fun s => P_X11_minutes_18 a1 s.1 s.2.1 s.2.2) (x2, x3, h)
set_option maxHeartbeats 4000000 in
theorem lp_X11_minutes_18 (a1 : Int) (x2 : Int) (x3 : Int) (h : pH) {Q : Option pV → pH → Prop} (hp : O_X11_minutes_18 a1 x2 x3 h) (kk : ∀ us : List pV, WP 112 (36, [(13, 0), (0, a1), (0, (L_X11_minutes_18 a1 x2 x3 h).1), (0, (L_X11_minutes_18 a1 x2 x3 h).2.1)], [], (L_X11_minutes_18 a1 x2 x3 h).2.2) Q) : ∀ us : List pV, WP 112 (18, [(13, 0), (0, a1), (0, x2), (0, x3)], [], h) Q := by
  refine WP.wh (σ := Int × Int × pH) (fun s => C_X11_minutes_18 a1 s.1 s.2.1 s.2.2) (fun s => B_X11_minutes_18 a1 s.1 s.2.1 s.2.2) (fun s => P_X11_minutes_18 a1 s.1 s.2.1 s.2.2) (fun s us => (18, [(13, 0), (0, a1), (0, s.1), (0, s.2.1)], [], s.2.2)) (x2, x3, h) hp ?_ ?_
  · intro s us hP hc kk
    obtain ⟨x2, x3, h⟩ := s
    change P_X11_minutes_18 a1 x2 x3 h at hP
    change x3 < a1 at hc
    replace kk : ∀ (us' : List pV) (s' : Int × Int × pH), s' = B_X11_minutes_18 a1 x2 x3 h → WP 112 (18, [(13, 0), (0, a1), (0, s'.1), (0, s'.2.1)], [], s'.2.2) Q := fun us' s' e => by subst e; exact kk us'
    unfold P_X11_minutes_18 at hP
    obtain ⟨o6, o7, o8, o9, o10⟩ := hP hc
    show WP 112 (18, [(13, 0), (0, a1), (0, x2), (0, x3)], [], h) Q
    refine WP.iload_n rfl rfl ?_
    refine WP.iload_n rfl rfl ?_
    refine WP.ni_ge rfl (fun c5 => ?_) (fun c5 => ?_)
    · exact absurd hc (Int.not_lt.mpr c5)
    · refine WP.iload_n rfl rfl ?_
      refine WP.aload_n rfl rfl ⟨by decide, by decide⟩ ?_
      refine WP.getRF (b := 1) rfl rfl rfl ?_
      refine WP.callF (c_X4_step 1 h o6) rfl rfl (pm_cok rfl rfl (Or.inr ⟨_, _, rfl⟩) rfl rfl) rfl rfl ?_
      show WP 112 (25, [(13, 0), (0, a1), (0, x2), (0, x3)], [(0, F_X4_step 1 h), (0, x2)], H_X4_step 1 h) Q
      refine WP.iaddE rfl o7 ?_
      refine WP.istore_n (L' := [(13, 0), (0, a1), (0, x2 + (F_X4_step 1 h)), (0, x3)]) rfl rfl ?_
      refine WP.aload_n rfl rfl ⟨by decide, by decide⟩ ?_
      refine WP.getRF (b := 99) rfl rfl rfl ?_
      refine WP.aload_n rfl rfl ⟨by decide, by decide⟩ ?_
      refine WP.getRF (b := 1) rfl rfl rfl ?_
      refine WP.getRF (b := 2) rfl rfl rfl ?_
      refine WP.callF (c_X0_sum 2 (H_X4_step 1 h) o8) rfl rfl (pm_cok rfl rfl (Or.inr ⟨_, _, rfl⟩) rfl rfl) rfl rfl ?_
      show WP 112 (33, [(13, 0), (0, a1), (0, x2 + (F_X4_step 1 h)), (0, x3)], [(1, F_X0_sum 2 (H_X4_step 1 h)), (3, 99)], H_X4_step 1 h) Q
      refine WP.callF (c_X1_note (F_X0_sum 2 (H_X4_step 1 h)) (H_X4_step 1 h) o9) rfl rfl (pm_cok rfl rfl (Or.inr ⟨_, _, rfl⟩) rfl rfl) rfl rfl ?_
      show WP 112 (34, [(13, 0), (0, a1), (0, x2 + (F_X4_step 1 h)), (0, x3)], [], H_X1_note (F_X0_sum 2 (H_X4_step 1 h)) (H_X4_step 1 h)) Q
      refine WP.iincE (L' := [(13, 0), (0, a1), (0, x2 + (F_X4_step 1 h)), (0, x3 + 1)]) rfl rfl o10 rfl ?_
      refine WP.goto rfl ?_
      exact kk [] (x2 + (F_X4_step 1 h), x3 + 1, H_X1_note (F_X0_sum 2 (H_X4_step 1 h)) (H_X4_step 1 h)) (rfl)
  · intro hP hc
    generalize hs : (L_X11_minutes_18 a1 x2 x3 h : Int × Int × pH) = s at kk
    change P_X11_minutes_18 a1 (L_X11_minutes_18 a1 x2 x3 h).1 (L_X11_minutes_18 a1 x2 x3 h).2.1 (L_X11_minutes_18 a1 x2 x3 h).2.2 at hP
    change ¬ C_X11_minutes_18 a1 (L_X11_minutes_18 a1 x2 x3 h).1 (L_X11_minutes_18 a1 x2 x3 h).2.1 (L_X11_minutes_18 a1 x2 x3 h).2.2 at hc
    intro us
    show WP 112 (18, [(13, 0), (0, a1), (0, (L_X11_minutes_18 a1 x2 x3 h).1), (0, (L_X11_minutes_18 a1 x2 x3 h).2.1)], [], (L_X11_minutes_18 a1 x2 x3 h).2.2) Q
    rw [hs] at hP hc ⊢
    obtain ⟨x2, x3, h⟩ := s
    change P_X11_minutes_18 a1 x2 x3 h at hP
    change ¬ (x3 < a1) at hc
    unfold P_X11_minutes_18 at hP
    show WP 112 (18, [(13, 0), (0, a1), (0, x2), (0, x3)], [], h) Q
    refine WP.iload_n rfl rfl ?_
    refine WP.iload_n rfl rfl ?_
    refine WP.ni_ge rfl (fun c4 => ?_) (fun c4 => ?_)
    · exact kk []
    · exact absurd (show x3 < a1 from c4) hc
noncomputable def s_X11_minutes_1 (a1 : Int) (h : pH) : Int := (L_X11_minutes_18 a1 0 0 h).2.1
noncomputable def s_X11_minutes_2 (a1 : Int) (h : pH) : pH := (L_X11_minutes_18 a1 0 0 h).2.2
noncomputable def F_X11_minutes (a1 : Int) (h : pH) : Int := if 1 ≤ a1 ∧ a1 ≤ 60 then if (h 1 7) + a1 ≤ 9999 then (L_X11_minutes_18 a1 0 0 h).1 else (-2) else (-2)
noncomputable def H_X11_minutes (a1 : Int) (h : pH) : pH := if 1 ≤ a1 ∧ a1 ≤ 60 then if (h 1 7) + a1 ≤ 9999 then s_X11_minutes_2 a1 h else h else h
noncomputable def P_X11_minutes (a1 : Int) (h : pH) : Prop := ((1 ≤ a1 ∧ a1 ≤ 60) → ((fx_i ((h 1 7) + a1)) ∧ (((h 1 7) + a1 ≤ 9999) → O_X11_minutes_18 a1 0 0 h)))
set_option maxHeartbeats 4000000 in
theorem w_X11_minutes (a1 : Int) (h : pH) {Q : Option pV → pH → Prop} (hp : P_X11_minutes a1 h) (kk : Q (some (0, F_X11_minutes a1 h)) (H_X11_minutes a1 h)) : WP 112 (0, [(13, 0), (0, a1), pU, pU], [], h) Q := by
  unfold P_X11_minutes at hp
  have q14 := hp
  refine WP.iload_n rfl rfl ?_
  refine WP.iconst rfl ?_
  refine WP.bipush rfl ?_
  refine WP.callF (c_X11_within a1 1 60 h) rfl rfl (pm_cok rfl rfl (Or.inl rfl) rfl rfl) rfl rfl ?_
  show WP 112 (4, [(13, 0), (0, a1), pU, pU], [(0, if 1 ≤ a1 ∧ a1 ≤ 60 then 1 else 0)], h) Q
  refine WP.nb_eq rfl (fun c1 => ?_) (fun c1 => ?_)
  · refine WP.bipush rfl ?_
    refine WP.reti rfl ?_; have e := kk; simp only [F_X11_minutes, H_X11_minutes, if_neg (c1)] at e ⊢; exact e
  · obtain ⟨o2, q13⟩ := q14 c1
    refine WP.aload_n rfl rfl ⟨by decide, by decide⟩ ?_
    refine WP.getRF (b := 1) rfl rfl rfl ?_
    refine WP.getI rfl rfl ?_
    refine WP.iload_n rfl rfl ?_
    refine WP.iaddE rfl o2 ?_
    refine WP.sipush rfl ?_
    refine WP.ni_le rfl (fun c3 => ?_) (fun c3 => ?_)
    · have o11 := q13 c3
      refine WP.iconst rfl ?_
      refine WP.istore_n (L' := [(13, 0), (0, a1), (0, 0), pU]) rfl rfl ?_
      refine WP.iconst rfl ?_
      refine WP.istore_n (L' := [(13, 0), (0, a1), (0, 0), (0, 0)]) rfl rfl ?_
      refine lp_X11_minutes_18 a1 0 0 h o11 (fun us12 => ?_) []
      show WP 112 (36, [(13, 0), (0, a1), (0, (L_X11_minutes_18 a1 0 0 h).1), (0, s_X11_minutes_1 a1 h)], [], s_X11_minutes_2 a1 h) Q
      refine WP.iload_n rfl rfl ?_
      refine WP.reti rfl ?_; have e := kk; simp only [F_X11_minutes, H_X11_minutes, if_pos c1, if_pos c3] at e ⊢; exact e
    · refine WP.bipush rfl ?_
      refine WP.reti rfl ?_; have e := kk; simp only [F_X11_minutes, H_X11_minutes, if_pos c1, if_neg (Int.not_le.mpr c3)] at e ⊢; exact e
theorem c_X11_minutes (a1 : Int) (h : pH) (hp : P_X11_minutes a1 h) : CP 112 [(13, 0), (0, a1)] h (fun r h1 => r = some (0, F_X11_minutes a1 h) ∧ h1 = H_X11_minutes a1 h) := w_X11_minutes a1 h hp ⟨rfl, rfl⟩
noncomputable def F_X11_placing (a1 : Int) (h : pH) : Int := if a1 = (-1) then if F_X10_countIn 22 1 h ≤ 8 then F_X7_sum (H_X7_place 1 h) else (-2100000000) else if F_X10_isOpen 22 a1 h = 0 then (-2000000000) else if F_X10_countIn 22 1 h ≤ 8 then F_X7_machineFor a1 (H_X7_place 1 h) else (-2100000000)
noncomputable def H_X11_placing (a1 : Int) (h : pH) : pH := if a1 = (-1) then if F_X10_countIn 22 1 h ≤ 8 then H_X7_place 1 h else h else if F_X10_isOpen 22 a1 h = 0 then h else if F_X10_countIn 22 1 h ≤ 8 then H_X7_place 1 h else h
noncomputable def P_X11_placing (a1 : Int) (h : pH) : Prop := (((a1 = (-1)) → (P_X10_countIn 22 1 h ∧ ((F_X10_countIn 22 1 h ≤ 8) → (P_X7_place 1 h ∧ ((P_X7_sum (H_X7_place 1 h))))))) ∧ ((¬ a1 = (-1)) → (P_X10_isOpen 22 a1 h ∧ ((¬ F_X10_isOpen 22 a1 h = 0) → (P_X10_countIn 22 1 h ∧ ((F_X10_countIn 22 1 h ≤ 8) → (P_X7_place 1 h ∧ ((P_X7_machineFor a1 (H_X7_place 1 h))))))))))
set_option maxHeartbeats 4000000 in
theorem w_X11_placing (a1 : Int) (h : pH) {Q : Option pV → pH → Prop} (hp : P_X11_placing a1 h) (kk : Q (some (0, F_X11_placing a1 h)) (H_X11_placing a1 h)) : WP 117 (0, [(13, 0), (0, a1)], [], h) Q := by
  unfold P_X11_placing at hp
  have q23 := hp
  refine WP.iload_n rfl rfl ?_
  refine WP.iconst rfl ?_
  refine WP.ni_eq rfl (fun c1 => ?_) (fun c1 => ?_)
  · obtain ⟨o2, q10⟩ := q23.1 c1
    refine WP.aload_n rfl rfl ⟨by decide, by decide⟩ ?_
    refine WP.getRF (b := 1) rfl rfl rfl ?_
    refine WP.getRF (b := 22) rfl rfl rfl ?_
    refine WP.iconst rfl ?_
    refine WP.callF (c_X10_countIn 22 1 h o2) rfl rfl (pm_cok rfl rfl (Or.inr ⟨_, _, rfl⟩) rfl rfl) rfl rfl ?_
    show WP 117 (16, [(13, 0), (0, a1)], [(0, F_X10_countIn 22 1 h)], h) Q
    refine WP.bipush rfl ?_
    refine WP.ni_le rfl (fun c3 => ?_) (fun c3 => ?_)
    · obtain ⟨o4, q9⟩ := q10 c3
      refine WP.aload_n rfl rfl ⟨by decide, by decide⟩ ?_
      refine WP.getRF (b := 147) rfl rfl rfl ?_
      refine WP.aload_n rfl rfl ⟨by decide, by decide⟩ ?_
      refine WP.getRF (b := 1) rfl rfl rfl ?_
      refine WP.callF (c_X7_place 1 h o4) rfl rfl (pm_cok rfl rfl (Or.inr ⟨_, _, rfl⟩) rfl rfl) rfl rfl ?_
      show WP 117 (25, [(13, 0), (0, a1)], [], H_X7_place 1 h) Q
      refine WP.iload_n rfl rfl ?_
      refine WP.iconst rfl ?_
      have k5 : ∀ Q' : Option pV → pH → Prop, (WP 117 (36, [(13, 0), (0, a1)], [(0, F_X7_sum (H_X7_place 1 h))], H_X7_place 1 h) Q') → WP 117 (27, [(13, 0), (0, a1)], [(0, (-1)), (0, a1)], H_X7_place 1 h) Q' := fun Q' kk => by
        have o7 := q9
        refine WP.ni_ne rfl (fun c6 => ?_) (fun c6 => ?_)
        · exact absurd c1 (c6)
        · refine WP.aload_n rfl rfl ⟨by decide, by decide⟩ ?_
          refine WP.getRF (b := 147) rfl rfl rfl ?_
          refine WP.callF (c_X7_sum (H_X7_place 1 h) o7) rfl rfl (pm_cok rfl rfl (Or.inr ⟨_, _, rfl⟩) rfl rfl) rfl rfl ?_
          show WP 117 (31, [(13, 0), (0, a1)], [(0, F_X7_sum (H_X7_place 1 h))], H_X7_place 1 h) Q'
          refine WP.goto rfl ?_
          exact kk
      refine k5 _ ?_
      refine WP.reti rfl ?_; have e := kk; simp only [F_X11_placing, H_X11_placing, if_pos c1, if_pos c3] at e ⊢; exact e
    · refine WP.ldc rfl ?_
      refine WP.reti rfl ?_; have e := kk; simp only [F_X11_placing, H_X11_placing, if_pos c1, if_neg (Int.not_le.mpr c3)] at e ⊢; exact e
  · obtain ⟨o11, q22⟩ := q23.2 c1
    refine WP.aload_n rfl rfl ⟨by decide, by decide⟩ ?_
    refine WP.getRF (b := 1) rfl rfl rfl ?_
    refine WP.getRF (b := 22) rfl rfl rfl ?_
    refine WP.iload_n rfl rfl ?_
    refine WP.callF (c_X10_isOpen 22 a1 h o11) rfl rfl (pm_cok rfl rfl (Or.inr ⟨_, _, rfl⟩) rfl rfl) rfl rfl ?_
    show WP 117 (8, [(13, 0), (0, a1)], [(0, F_X10_isOpen 22 a1 h)], h) Q
    refine WP.nz_ne rfl (fun c12 => ?_) (fun c12 => ?_)
    · obtain ⟨o13, q21⟩ := q22 c12
      refine WP.aload_n rfl rfl ⟨by decide, by decide⟩ ?_
      refine WP.getRF (b := 1) rfl rfl rfl ?_
      refine WP.getRF (b := 22) rfl rfl rfl ?_
      refine WP.iconst rfl ?_
      refine WP.callF (c_X10_countIn 22 1 h o13) rfl rfl (pm_cok rfl rfl (Or.inr ⟨_, _, rfl⟩) rfl rfl) rfl rfl ?_
      show WP 117 (16, [(13, 0), (0, a1)], [(0, F_X10_countIn 22 1 h)], h) Q
      refine WP.bipush rfl ?_
      refine WP.ni_le rfl (fun c14 => ?_) (fun c14 => ?_)
      · obtain ⟨o15, q20⟩ := q21 c14
        refine WP.aload_n rfl rfl ⟨by decide, by decide⟩ ?_
        refine WP.getRF (b := 147) rfl rfl rfl ?_
        refine WP.aload_n rfl rfl ⟨by decide, by decide⟩ ?_
        refine WP.getRF (b := 1) rfl rfl rfl ?_
        refine WP.callF (c_X7_place 1 h o15) rfl rfl (pm_cok rfl rfl (Or.inr ⟨_, _, rfl⟩) rfl rfl) rfl rfl ?_
        show WP 117 (25, [(13, 0), (0, a1)], [], H_X7_place 1 h) Q
        refine WP.iload_n rfl rfl ?_
        refine WP.iconst rfl ?_
        have k16 : ∀ Q' : Option pV → pH → Prop, (WP 117 (36, [(13, 0), (0, a1)], [(0, F_X7_machineFor a1 (H_X7_place 1 h))], H_X7_place 1 h) Q') → WP 117 (27, [(13, 0), (0, a1)], [(0, (-1)), (0, a1)], H_X7_place 1 h) Q' := fun Q' kk => by
          have o18 := q20
          refine WP.ni_ne rfl (fun c17 => ?_) (fun c17 => ?_)
          · refine WP.aload_n rfl rfl ⟨by decide, by decide⟩ ?_
            refine WP.getRF (b := 147) rfl rfl rfl ?_
            refine WP.iload_n rfl rfl ?_
            refine WP.callF (c_X7_machineFor a1 (H_X7_place 1 h) o18) rfl rfl (pm_cok rfl rfl (Or.inr ⟨_, _, rfl⟩) rfl rfl) rfl rfl ?_
            show WP 117 (36, [(13, 0), (0, a1)], [(0, F_X7_machineFor a1 (H_X7_place 1 h))], H_X7_place 1 h) Q'
            exact kk
          · exact absurd c17 (c1)
        refine k16 _ ?_
        refine WP.reti rfl ?_; have e := kk; simp only [F_X11_placing, H_X11_placing, if_neg (c1), if_neg (c12), if_pos c14] at e ⊢; exact e
      · refine WP.ldc rfl ?_
        refine WP.reti rfl ?_; have e := kk; simp only [F_X11_placing, H_X11_placing, if_neg (c1), if_neg (c12), if_neg (Int.not_le.mpr c14)] at e ⊢; exact e
    · refine WP.ldc rfl ?_
      refine WP.reti rfl ?_; have e := kk; simp only [F_X11_placing, H_X11_placing, if_neg (c1), if_pos c12] at e ⊢; exact e
theorem c_X11_placing (a1 : Int) (h : pH) (hp : P_X11_placing a1 h) : CP 117 [(13, 0), (0, a1)] h (fun r h1 => r = some (0, F_X11_placing a1 h) ∧ h1 = H_X11_placing a1 h) := w_X11_placing a1 h hp ⟨rfl, rfl⟩
noncomputable def B_X11_allKeptWithout_12 (a2 : Int) (x3 : Int) (h : pH) : Int × Int × pH := if a2 ≤ x3 then (1, x3, h) else if F_X4_step 47 h ≤ 0 then (0, x3 + 1, H_X4_step 47 h) else (2, x3, H_X4_step 47 h)
noncomputable def P_X11_allKeptWithout_12 (a2 : Int) (x3 : Int) (h : pH) : Prop := ((x3 < a2) → (P_X4_step 47 h ∧ ((F_X4_step 47 h ≤ 0) → ((fx_i (x3 + 1))))))
noncomputable def L_X11_allKeptWithout_12 (a2 : Int) (x3 : Int) (h : pH) : Int × Int × pH := fx_wh (σ := Int × Int × pH) (fun s => s.1 = 0) (fun s => B_X11_allKeptWithout_12 a2 s.2.1 s.2.2) (0, x3, h)
def O_X11_allKeptWithout_12 (a2 : Int) (x3 : Int) (h : pH) : Prop := fx_ok (σ := Int × Int × pH) (fun s => s.1 = 0) (fun s => B_X11_allKeptWithout_12 a2 s.2.1 s.2.2) (fun s => s.1 = 0 → P_X11_allKeptWithout_12 a2 s.2.1 s.2.2) (0, x3, h)
set_option maxHeartbeats 4000000 in
theorem lp_X11_allKeptWithout_12 (a2 : Int) (x3 : Int) (h : pH) {Q : Option pV → pH → Prop} (hp : O_X11_allKeptWithout_12 a2 x3 h) (kk : (L_X11_allKeptWithout_12 a2 x3 h).1 = 1 → ∀ us : List pV, WP 120 (23, [(13, 0), us.getD 0 pU, (0, a2), (0, (L_X11_allKeptWithout_12 a2 x3 h).2.1)], [], (L_X11_allKeptWithout_12 a2 x3 h).2.2) Q) (kk2 : ¬ (L_X11_allKeptWithout_12 a2 x3 h).1 = 1 → ∀ us : List pV, WP 120 (19, [(13, 0), us.getD 0 pU, (0, a2), (0, (L_X11_allKeptWithout_12 a2 x3 h).2.1)], [], (L_X11_allKeptWithout_12 a2 x3 h).2.2) Q) : ∀ us : List pV, WP 120 (12, [(13, 0), us.getD 0 pU, (0, a2), (0, x3)], [], h) Q := by
  refine WP.wh (σ := Int × Int × pH) (fun s => s.1 = 0) (fun s => B_X11_allKeptWithout_12 a2 s.2.1 s.2.2) (fun s => s.1 = 0 → P_X11_allKeptWithout_12 a2 s.2.1 s.2.2) (fun s us => if s.1 = 0 then (12, [(13, 0), us.getD 0 pU, (0, a2), (0, s.2.1)], [], s.2.2) else if s.1 = 1 then (23, [(13, 0), us.getD 0 pU, (0, a2), (0, s.2.1)], [], s.2.2) else (19, [(13, 0), us.getD 0 pU, (0, a2), (0, s.2.1)], [], s.2.2)) (0, x3, h) hp ?_ ?_
  · intro s us hP hc kk
    obtain ⟨fl, x3, h⟩ := s
    change fl = 0 at hc
    subst hc
    replace hP := hP rfl
    change P_X11_allKeptWithout_12 a2 x3 h at hP
    replace kk : ∀ (us' : List pV) (s' : Int × Int × pH), s' = B_X11_allKeptWithout_12 a2 x3 h → WP 120 ((fun s us => if s.1 = 0 then (12, [(13, 0), us.getD 0 pU, (0, a2), (0, s.2.1)], [], s.2.2) else if s.1 = 1 then (23, [(13, 0), us.getD 0 pU, (0, a2), (0, s.2.1)], [], s.2.2) else (19, [(13, 0), us.getD 0 pU, (0, a2), (0, s.2.1)], [], s.2.2)) s' us') Q := fun us' s' e => by subst e; exact kk us'
    unfold P_X11_allKeptWithout_12 at hP
    have q7 := hP
    show WP 120 (12, [(13, 0), us.getD 0 pU, (0, a2), (0, x3)], [], h) Q
    refine WP.iload_n rfl rfl ?_
    refine WP.iload_n rfl rfl ?_
    refine WP.ni_ge rfl (fun c2 => ?_) (fun c2 => ?_)
    · exact kk [us.getD 0 pU] (1, x3, h) (by simp only [B_X11_allKeptWithout_12, if_pos c2])
    · obtain ⟨o3, q6⟩ := q7 c2
      refine WP.aload_n rfl rfl ⟨by decide, by decide⟩ ?_
      refine WP.getRF (b := 47) rfl rfl rfl ?_
      refine WP.callF (c_X4_step 47 h o3) rfl rfl (pm_cok rfl rfl (Or.inr ⟨_, _, rfl⟩) rfl rfl) rfl rfl ?_
      show WP 120 (18, [(13, 0), us.getD 0 pU, (0, a2), (0, x3)], [(0, F_X4_step 47 h)], H_X4_step 47 h) Q
      refine WP.nz_le rfl (fun c4 => ?_) (fun c4 => ?_)
      · have o5 := q6 c4
        refine WP.iincE (L' := [(13, 0), us.getD 0 pU, (0, a2), (0, x3 + 1)]) rfl rfl o5 rfl ?_
        refine WP.goto rfl ?_
        exact kk [us.getD 0 pU] (0, x3 + 1, H_X4_step 47 h) (by simp only [B_X11_allKeptWithout_12, if_neg (Int.not_le.mpr c2), if_pos c4])
      · exact kk [us.getD 0 pU] (2, x3, H_X4_step 47 h) (by simp only [B_X11_allKeptWithout_12, if_neg (Int.not_le.mpr c2), if_neg (Int.not_le.mpr c4)])
  · intro hP hc
    intro us
    change ¬ (L_X11_allKeptWithout_12 a2 x3 h).1 = 0 at hc
    show WP 120 (if (L_X11_allKeptWithout_12 a2 x3 h).1 = 0 then (12, [(13, 0), us.getD 0 pU, (0, a2), (0, (L_X11_allKeptWithout_12 a2 x3 h).2.1)], [], (L_X11_allKeptWithout_12 a2 x3 h).2.2) else if (L_X11_allKeptWithout_12 a2 x3 h).1 = 1 then (23, [(13, 0), us.getD 0 pU, (0, a2), (0, (L_X11_allKeptWithout_12 a2 x3 h).2.1)], [], (L_X11_allKeptWithout_12 a2 x3 h).2.2) else (19, [(13, 0), us.getD 0 pU, (0, a2), (0, (L_X11_allKeptWithout_12 a2 x3 h).2.1)], [], (L_X11_allKeptWithout_12 a2 x3 h).2.2)) Q
    rw [if_neg hc]
    by_cases e : (L_X11_allKeptWithout_12 a2 x3 h).1 = 1
    · rw [if_pos e]; exact kk e us
    · rw [if_neg e]; exact kk2 e us
noncomputable def s_X11_allKeptWithout_1 (a1 : Int) (a2 : Int) (h : pH) : Int := (L_X11_allKeptWithout_12 a2 0 (H_X10_leaveOut 68 a1 (H_X4_copyFrom 47 1 h))).2.1
noncomputable def s_X11_allKeptWithout_2 (a1 : Int) (a2 : Int) (h : pH) : pH := (L_X11_allKeptWithout_12 a2 0 (H_X10_leaveOut 68 a1 (H_X4_copyFrom 47 1 h))).2.2
noncomputable def s_X11_allKeptWithout_3 (a1 : Int) (a2 : Int) (h : pH) : Int := (L_X11_allKeptWithout_12 a2 0 (H_X10_leaveOut 68 a1 (H_X4_copyFrom 47 1 h))).1
noncomputable def F_X11_allKeptWithout (a1 : Int) (a2 : Int) (h : pH) : Int := if s_X11_allKeptWithout_3 a1 a2 h = 1 then 1 else 0
noncomputable def H_X11_allKeptWithout (a1 : Int) (a2 : Int) (h : pH) : pH := s_X11_allKeptWithout_2 a1 a2 h
noncomputable def P_X11_allKeptWithout (a1 : Int) (a2 : Int) (h : pH) : Prop := (P_X10_leaveOut 68 a1 (H_X4_copyFrom 47 1 h)) ∧ (O_X11_allKeptWithout_12 a2 0 (H_X10_leaveOut 68 a1 (H_X4_copyFrom 47 1 h)))
set_option maxHeartbeats 4000000 in
theorem w_X11_allKeptWithout (a1 : Int) (a2 : Int) (h : pH) {Q : Option pV → pH → Prop} (hp : P_X11_allKeptWithout a1 a2 h) (kk : Q (some (0, F_X11_allKeptWithout a1 a2 h)) (H_X11_allKeptWithout a1 a2 h)) : WP 120 (0, [(13, 0), (0, a1), (0, a2), pU], [], h) Q := by
  unfold P_X11_allKeptWithout at hp
  obtain ⟨o1, o8⟩ := hp
  refine WP.aload_n rfl rfl ⟨by decide, by decide⟩ ?_
  refine WP.getRF (b := 47) rfl rfl rfl ?_
  refine WP.aload_n rfl rfl ⟨by decide, by decide⟩ ?_
  refine WP.getRF (b := 1) rfl rfl rfl ?_
  refine WP.callF (c_X4_copyFrom 47 1 h) rfl rfl (pm_cok rfl rfl (Or.inr ⟨_, _, rfl⟩) rfl rfl) rfl rfl ?_
  show WP 120 (5, [(13, 0), (0, a1), (0, a2), pU], [], H_X4_copyFrom 47 1 h) Q
  refine WP.aload_n rfl rfl ⟨by decide, by decide⟩ ?_
  refine WP.getRF (b := 47) rfl rfl rfl ?_
  refine WP.getRF (b := 68) rfl rfl rfl ?_
  refine WP.iload_n rfl rfl ?_
  refine WP.callF (c_X10_leaveOut 68 a1 (H_X4_copyFrom 47 1 h) o1) rfl rfl (pm_cok rfl rfl (Or.inr ⟨_, _, rfl⟩) rfl rfl) rfl rfl ?_
  show WP 120 (10, [(13, 0), (0, a1), (0, a2), pU], [], H_X10_leaveOut 68 a1 (H_X4_copyFrom 47 1 h)) Q
  refine WP.iconst rfl ?_
  refine WP.istore_n (L' := [(13, 0), (0, a1), (0, a2), (0, 0)]) rfl rfl ?_
  refine lp_X11_allKeptWithout_12 a2 0 (H_X10_leaveOut 68 a1 (H_X4_copyFrom 47 1 h)) o8 (fun (c10 : s_X11_allKeptWithout_3 a1 a2 h = 1) us9 => ?_) (fun (c10 : ¬ s_X11_allKeptWithout_3 a1 a2 h = 1) us9 => ?_) [(0, a1)]
  · show WP 120 (23, [(13, 0), us9.getD 0 pU, (0, a2), (0, s_X11_allKeptWithout_1 a1 a2 h)], [], s_X11_allKeptWithout_2 a1 a2 h) Q
    refine WP.iconst rfl ?_
    refine WP.retz rfl (by decide) ?_; have e := kk; simp only [F_X11_allKeptWithout, H_X11_allKeptWithout, if_pos (show s_X11_allKeptWithout_3 a1 a2 h = 1 from c10), if_pos c10] at e ⊢; exact e
  · show WP 120 (19, [(13, 0), us9.getD 0 pU, (0, a2), (0, s_X11_allKeptWithout_1 a1 a2 h)], [], s_X11_allKeptWithout_2 a1 a2 h) Q
    refine WP.iconst rfl ?_
    refine WP.retz rfl (by decide) ?_; have e := kk; simp only [F_X11_allKeptWithout, H_X11_allKeptWithout, if_neg (show ¬ (s_X11_allKeptWithout_3 a1 a2 h = 1) from c10), if_neg (c10)] at e ⊢; exact e
theorem c_X11_allKeptWithout (a1 : Int) (a2 : Int) (h : pH) (hp : P_X11_allKeptWithout a1 a2 h) : CP 120 [(13, 0), (0, a1), (0, a2)] h (fun r h1 => r = some (0, F_X11_allKeptWithout a1 a2 h) ∧ h1 = H_X11_allKeptWithout a1 a2 h) := w_X11_allKeptWithout a1 a2 h hp ⟨rfl, rfl⟩
noncomputable def B_X11_check_8 (x1 : Int) (h : pH) : Int × Int × pH := if h 99 3 ≤ x1 then (1, x1, h) else if F_X0_sum 48 (H_X4_step 47 h) = (H_X4_step 47 h) 146 x1 then (0, x1 + 1, H_X4_step 47 h) else (2, x1, H_X4_step 47 h)
noncomputable def P_X11_check_8 (x1 : Int) (h : pH) : Prop := ((x1 < h 99 3) → (P_X4_step 47 h ∧ (P_X0_sum 48 (H_X4_step 47 h)) ∧ (0 ≤ x1 ∧ x1 < 40) ∧ ((F_X0_sum 48 (H_X4_step 47 h) = (H_X4_step 47 h) 146 x1) → ((fx_i (x1 + 1))))))
noncomputable def L_X11_check_8 (x1 : Int) (h : pH) : Int × Int × pH := fx_wh (σ := Int × Int × pH) (fun s => s.1 = 0) (fun s => B_X11_check_8 s.2.1 s.2.2) (0, x1, h)
def O_X11_check_8 (x1 : Int) (h : pH) : Prop := fx_ok (σ := Int × Int × pH) (fun s => s.1 = 0) (fun s => B_X11_check_8 s.2.1 s.2.2) (fun s => s.1 = 0 → P_X11_check_8 s.2.1 s.2.2) (0, x1, h)
set_option maxHeartbeats 4000000 in
theorem lp_X11_check_8 (x1 : Int) (h : pH) {Q : Option pV → pH → Prop} (hp : O_X11_check_8 x1 h) (kk : (L_X11_check_8 x1 h).1 = 1 → ∀ us : List pV, WP 130 (32, [(13, 0), (0, (L_X11_check_8 x1 h).2.1)], [], (L_X11_check_8 x1 h).2.2) Q) (kk2 : ¬ (L_X11_check_8 x1 h).1 = 1 → ∀ us : List pV, WP 130 (28, [(13, 0), (0, (L_X11_check_8 x1 h).2.1)], [], (L_X11_check_8 x1 h).2.2) Q) : ∀ us : List pV, WP 130 (8, [(13, 0), (0, x1)], [], h) Q := by
  refine WP.wh (σ := Int × Int × pH) (fun s => s.1 = 0) (fun s => B_X11_check_8 s.2.1 s.2.2) (fun s => s.1 = 0 → P_X11_check_8 s.2.1 s.2.2) (fun s us => if s.1 = 0 then (8, [(13, 0), (0, s.2.1)], [], s.2.2) else if s.1 = 1 then (32, [(13, 0), (0, s.2.1)], [], s.2.2) else (28, [(13, 0), (0, s.2.1)], [], s.2.2)) (0, x1, h) hp ?_ ?_
  · intro s us hP hc kk
    obtain ⟨fl, x1, h⟩ := s
    change fl = 0 at hc
    subst hc
    replace hP := hP rfl
    change P_X11_check_8 x1 h at hP
    replace kk : ∀ (us' : List pV) (s' : Int × Int × pH), s' = B_X11_check_8 x1 h → WP 130 ((fun s us => if s.1 = 0 then (8, [(13, 0), (0, s.2.1)], [], s.2.2) else if s.1 = 1 then (32, [(13, 0), (0, s.2.1)], [], s.2.2) else (28, [(13, 0), (0, s.2.1)], [], s.2.2)) s' us') Q := fun us' s' e => by subst e; exact kk us'
    unfold P_X11_check_8 at hP
    have q8 := hP
    show WP 130 (8, [(13, 0), (0, x1)], [], h) Q
    refine WP.iload_n rfl rfl ?_
    refine WP.aload_n rfl rfl ⟨by decide, by decide⟩ ?_
    refine WP.getRF (b := 99) rfl rfl rfl ?_
    refine WP.getI rfl rfl ?_
    refine WP.ni_ge rfl (fun c1 => ?_) (fun c1 => ?_)
    · exact kk [] (1, x1, h) (by simp only [B_X11_check_8, if_pos c1])
    · obtain ⟨o2, o3, o4, q7⟩ := q8 c1
      refine WP.aload_n rfl rfl ⟨by decide, by decide⟩ ?_
      refine WP.getRF (b := 47) rfl rfl rfl ?_
      refine WP.callF (c_X4_step 47 h o2) rfl rfl (pm_cok rfl rfl (Or.inr ⟨_, _, rfl⟩) rfl rfl) rfl rfl ?_
      show WP 130 (16, [(13, 0), (0, x1)], [(0, F_X4_step 47 h)], H_X4_step 47 h) Q
      refine WP.pop rfl (by decide) ?_
      refine WP.aload_n rfl rfl ⟨by decide, by decide⟩ ?_
      refine WP.getRF (b := 47) rfl rfl rfl ?_
      refine WP.getRF (b := 48) rfl rfl rfl ?_
      refine WP.callF (c_X0_sum 48 (H_X4_step 47 h) o3) rfl rfl (pm_cok rfl rfl (Or.inr ⟨_, _, rfl⟩) rfl rfl) rfl rfl ?_
      show WP 130 (21, [(13, 0), (0, x1)], [(1, F_X0_sum 48 (H_X4_step 47 h))], H_X4_step 47 h) Q
      refine WP.aload_n rfl rfl ⟨by decide, by decide⟩ ?_
      refine WP.getRF (b := 99) rfl rfl rfl ?_
      refine WP.getRF (b := 146) rfl rfl rfl ?_
      refine WP.iload_n rfl rfl ?_
      refine WP.laload rfl ⟨by decide, by decide, by decide⟩ o4 ?_
      refine WP.lcmp rfl ?_
      refine WP.nl_eq rfl (fun c5 => ?_) (fun c5 => ?_)
      · have o6 := q7 c5
        refine WP.iincE (L' := [(13, 0), (0, x1 + 1)]) rfl rfl o6 rfl ?_
        refine WP.goto rfl ?_
        exact kk [] (0, x1 + 1, H_X4_step 47 h) (by simp only [B_X11_check_8, if_neg (Int.not_le.mpr c1), if_pos c5])
      · exact kk [] (2, x1, H_X4_step 47 h) (by simp only [B_X11_check_8, if_neg (Int.not_le.mpr c1), if_neg (c5)])
  · intro hP hc
    intro us
    change ¬ (L_X11_check_8 x1 h).1 = 0 at hc
    show WP 130 (if (L_X11_check_8 x1 h).1 = 0 then (8, [(13, 0), (0, (L_X11_check_8 x1 h).2.1)], [], (L_X11_check_8 x1 h).2.2) else if (L_X11_check_8 x1 h).1 = 1 then (32, [(13, 0), (0, (L_X11_check_8 x1 h).2.1)], [], (L_X11_check_8 x1 h).2.2) else (28, [(13, 0), (0, (L_X11_check_8 x1 h).2.1)], [], (L_X11_check_8 x1 h).2.2)) Q
    rw [if_neg hc]
    by_cases e : (L_X11_check_8 x1 h).1 = 1
    · rw [if_pos e]; exact kk e us
    · rw [if_neg e]; exact kk2 e us
noncomputable def s_X11_check_1 (h : pH) : Int := (L_X11_check_8 0 (H_X4_copyFrom 47 100 h)).2.1
noncomputable def s_X11_check_2 (h : pH) : pH := (L_X11_check_8 0 (H_X4_copyFrom 47 100 h)).2.2
noncomputable def s_X11_check_3 (h : pH) : Int := (L_X11_check_8 0 (H_X4_copyFrom 47 100 h)).1
noncomputable def F_X11_check (h : pH) : Int := if s_X11_check_3 h = 1 then (-1) else s_X11_check_1 h
noncomputable def H_X11_check (h : pH) : pH := s_X11_check_2 h
noncomputable def P_X11_check (h : pH) : Prop := (O_X11_check_8 0 (H_X4_copyFrom 47 100 h))
set_option maxHeartbeats 4000000 in
theorem w_X11_check (h : pH) {Q : Option pV → pH → Prop} (hp : P_X11_check h) (kk : Q (some (0, F_X11_check h)) (H_X11_check h)) : WP 130 (0, [(13, 0), pU], [], h) Q := by
  unfold P_X11_check at hp
  have o9 := hp
  refine WP.aload_n rfl rfl ⟨by decide, by decide⟩ ?_
  refine WP.getRF (b := 47) rfl rfl rfl ?_
  refine WP.aload_n rfl rfl ⟨by decide, by decide⟩ ?_
  refine WP.getRF (b := 99) rfl rfl rfl ?_
  refine WP.getRF (b := 100) rfl rfl rfl ?_
  refine WP.callF (c_X4_copyFrom 47 100 h) rfl rfl (pm_cok rfl rfl (Or.inr ⟨_, _, rfl⟩) rfl rfl) rfl rfl ?_
  show WP 130 (6, [(13, 0), pU], [], H_X4_copyFrom 47 100 h) Q
  refine WP.iconst rfl ?_
  refine WP.istore_n (L' := [(13, 0), (0, 0)]) rfl rfl ?_
  refine lp_X11_check_8 0 (H_X4_copyFrom 47 100 h) o9 (fun (c11 : s_X11_check_3 h = 1) us10 => ?_) (fun (c11 : ¬ s_X11_check_3 h = 1) us10 => ?_) []
  · show WP 130 (32, [(13, 0), (0, s_X11_check_1 h)], [], s_X11_check_2 h) Q
    refine WP.iconst rfl ?_
    refine WP.reti rfl ?_; have e := kk; simp only [F_X11_check, H_X11_check, if_pos c11] at e ⊢; exact e
  · show WP 130 (28, [(13, 0), (0, s_X11_check_1 h)], [], s_X11_check_2 h) Q
    refine WP.iload_n rfl rfl ?_
    refine WP.reti rfl ?_; have e := kk; simp only [F_X11_check, H_X11_check, if_neg (c11)] at e ⊢; exact e
theorem c_X11_check (h : pH) (hp : P_X11_check h) : CP 130 [(13, 0)] h (fun r h1 => r = some (0, F_X11_check h) ∧ h1 = H_X11_check h) := w_X11_check h hp ⟨rfl, rfl⟩
noncomputable def s_X12_workRules_1 (h : pH) : pH := pm_upd (pm_upd (pm_upd (pm_upd h 248 8 0) 248 9 0) 257 0 0) 248 12 (-1)
noncomputable def s_X12_workRules_2 (x1 : Int) (x3 : Int) (h : pH) : pH := pm_upd (H_X12_reduce (F_X12_strength (h 249 (376 + x3)) h) h) 257 x1 1
noncomputable def s_X12_workRules_3 (x1 : Int) (x3 : Int) (h : pH) : pH := pm_upd (s_X12_workRules_2 x1 x3 h) 256 ((s_X12_workRules_2 x1 x3 h) 248 9) (h 249 (376 + x3))
noncomputable def s_X12_workRules_4 (x1 : Int) (x3 : Int) (h : pH) : pH := pm_upd (s_X12_workRules_3 x1 x3 h) 248 9 (((s_X12_workRules_3 x1 x3 h) 248 9) + 1)
noncomputable def s_X12_workRules_5 (x1 : Int) (x3 : Int) (h : pH) : pH := pm_upd (H_X12_reduce (F_X12_strength (h 249 (376 + x3)) h) h) 257 x1 (if 3 < F_X12_strength (h 249 (376 + x3)) h ∧ (¬ (H_X12_reduce (F_X12_strength (h 249 (376 + x3)) h) h) 257 x1 = 0) then 1 else 0)
noncomputable def s_X12_workRules_6 (x1 : Int) (x3 : Int) (h : pH) : pH := pm_upd (s_X12_workRules_5 x1 x3 h) 256 ((s_X12_workRules_5 x1 x3 h) 248 9) (h 249 (376 + x3))
noncomputable def s_X12_workRules_7 (x1 : Int) (x3 : Int) (h : pH) : pH := pm_upd (s_X12_workRules_6 x1 x3 h) 248 9 (((s_X12_workRules_6 x1 x3 h) 248 9) + 1)
noncomputable def s_X12_workRules_8 (h : pH) : pH := pm_upd (H_X12_reduce 1 h) 248 9 (((H_X12_reduce 1 h) 248 9) - 1)
noncomputable def s_X12_workRules_9 (h : pH) : pH := pm_upd (s_X12_workRules_8 h) 248 8 (((s_X12_workRules_8 h) 248 8) - 1)
noncomputable def s_X12_workRules_10 (h : pH) : pH := H_X12_put ((s_X12_workRules_9 h) 255 ((s_X12_workRules_9 h) 248 8)) (s_X12_workRules_9 h)
noncomputable def s_X12_workRules_11 (x3 : Int) (x6 : Int) (x7 : Int) (h : pH) : Int := if 6 ≤ x6 - x3 then x7 else ((10 * x7) + (h 249 (376 + x6))) - 48
def C_X12_workRules_54 (y4 : Int) (x1 : Int) (x3 : Int) (h : pH) (x6 : Int) (x7 : Int) : Prop := x6 < y4 ∧ (48 ≤ (h 249 (376 + x6)) ∧ (h 249 (376 + x6)) ≤ 57)
noncomputable def B_X12_workRules_54 (y4 : Int) (x1 : Int) (x3 : Int) (h : pH) (x6 : Int) (x7 : Int) : Int × Int := (x6 + 1, s_X12_workRules_11 x3 x6 x7 h)
noncomputable def P_X12_workRules_54 (y4 : Int) (x1 : Int) (x3 : Int) (h : pH) (x6 : Int) (x7 : Int) : Prop := (((x6 < y4) → ((fx_i (376 + x6)) ∧ (0 ≤ 376 + x6 ∧ 376 + x6 < 620)))) ∧ ((x6 < y4 ∧ (48 ≤ (h 249 (376 + x6)) ∧ (h 249 (376 + x6)) ≤ 57)) → ((fx_i (376 + x6)) ∧ (0 ≤ 376 + x6 ∧ 376 + x6 < 620) ∧ (fx_i (x6 - x3)) ∧ (((x6 - x3 < 6) → ((fx_l (10 * x7)) ∧ (fx_l ((10 * x7) + (h 249 (376 + x6)))) ∧ (fx_l (((10 * x7) + (h 249 (376 + x6))) - 48))))) ∧ (fx_i (x6 + 1))))
noncomputable def L_X12_workRules_54 (y4 : Int) (x1 : Int) (x3 : Int) (h : pH) (x6 : Int) (x7 : Int) : Int × Int := fx_wh (σ := Int × Int) (fun s => C_X12_workRules_54 y4 x1 x3 h s.1 s.2) (fun s => B_X12_workRules_54 y4 x1 x3 h s.1 s.2) (x6, x7)
def O_X12_workRules_54 (y4 : Int) (x1 : Int) (x3 : Int) (h : pH) (x6 : Int) (x7 : Int) : Prop := fx_ok (σ := Int × Int) (fun s => C_X12_workRules_54 y4 x1 x3 h s.1 s.2) (fun s => B_X12_workRules_54 y4 x1 x3 h s.1 s.2) (fun s => P_X12_workRules_54 y4 x1 x3 h s.1 s.2) (x6, x7)
set_option maxHeartbeats 4000000 in
theorem lp_X12_workRules_54 (y4 : Int) (x1 : Int) (x3 : Int) (h : pH) (x6 : Int) (x7 : Int) {Q : Option pV → pH → Prop} (hp : O_X12_workRules_54 y4 x1 x3 h x6 x7) (kk : ∀ us : List pV, WP 174 (87, [(14, 248), (0, x1), us.getD 0 pU, (0, x3), (0, y4), us.getD 1 pU, (0, (L_X12_workRules_54 y4 x1 x3 h x6 x7).1), (1, (L_X12_workRules_54 y4 x1 x3 h x6 x7).2), pU], [], h) Q) : ∀ us : List pV, WP 174 (54, [(14, 248), (0, x1), us.getD 0 pU, (0, x3), (0, y4), us.getD 1 pU, (0, x6), (1, x7), pU], [], h) Q := by
  refine WP.wh (σ := Int × Int) (fun s => C_X12_workRules_54 y4 x1 x3 h s.1 s.2) (fun s => B_X12_workRules_54 y4 x1 x3 h s.1 s.2) (fun s => P_X12_workRules_54 y4 x1 x3 h s.1 s.2) (fun s us => (54, [(14, 248), (0, x1), us.getD 0 pU, (0, x3), (0, y4), us.getD 1 pU, (0, s.1), (1, s.2), pU], [], h)) (x6, x7) hp ?_ ?_
  · intro s us hP hc kk
    obtain ⟨x6, x7⟩ := s
    change P_X12_workRules_54 y4 x1 x3 h x6 x7 at hP
    change x6 < y4 ∧ (48 ≤ (h 249 (376 + x6)) ∧ (h 249 (376 + x6)) ≤ 57) at hc
    replace kk : ∀ (us' : List pV) (s' : Int × Int), s' = B_X12_workRules_54 y4 x1 x3 h x6 x7 → WP 174 (54, [(14, 248), (0, x1), us'.getD 0 pU, (0, x3), (0, y4), us'.getD 1 pU, (0, s'.1), (1, s'.2), pU], [], h) Q := fun us' s' e => by subst e; exact kk us'
    unfold P_X12_workRules_54 at hP
    obtain ⟨hPc, hPb⟩ := hP
    have q87 := hPc
    obtain ⟨o89, o90, o92, q100, o101⟩ := hPb hc
    show WP 174 (54, [(14, 248), (0, x1), us.getD 0 pU, (0, x3), (0, y4), us.getD 1 pU, (0, x6), (1, x7), pU], [], h) Q
    refine WP.iload rfl rfl ?_
    refine WP.iload rfl rfl ?_
    refine WP.ni_ge rfl (fun c88 => ?_) (fun c88 => ?_)
    · exact absurd hc (fun q => (Int.not_lt.mpr c88) q.1)
    · refine WP.aload_n rfl rfl ⟨by decide, by decide⟩ ?_
      refine WP.getRF (b := 249) rfl rfl rfl ?_
      refine WP.sipush rfl ?_
      refine WP.iload rfl rfl ?_
      refine WP.iaddE rfl o89 ?_
      refine WP.laload rfl ⟨by decide, by decide, by decide⟩ o90 ?_
      refine WP.callF (c_X12_isDigit (h 249 (376 + x6)) h) rfl rfl (pm_cok rfl rfl (Or.inl rfl) rfl rfl) rfl rfl ?_
      show WP 174 (64, [(14, 248), (0, x1), us.getD 0 pU, (0, x3), (0, y4), us.getD 1 pU, (0, x6), (1, x7), pU], [(0, if 48 ≤ (h 249 (376 + x6)) ∧ (h 249 (376 + x6)) ≤ 57 then 1 else 0)], h) Q
      refine WP.nb_eq rfl (fun c91 => ?_) (fun c91 => ?_)
      · exact absurd hc (fun q => (c91) q.2)
      · refine WP.iload rfl rfl ?_
        refine WP.iload_n rfl rfl ?_
        refine WP.isubE rfl o92 ?_
        refine WP.bipush rfl ?_
        have k93 : ∀ Q' : Option pV → pH → Prop, (WP 174 (84, [(14, 248), (0, x1), us.getD 0 pU, (0, x3), (0, y4), us.getD 1 pU, (0, x6), (1, x7), pU], [(1, s_X12_workRules_11 x3 x6 x7 h)], h) Q') → WP 174 (69, [(14, 248), (0, x1), us.getD 0 pU, (0, x3), (0, y4), us.getD 1 pU, (0, x6), (1, x7), pU], [(0, 6), (0, x6 - x3)], h) Q' := fun Q' kk => by
          have q98 := q100
          refine WP.ni_ge rfl (fun c94 => ?_) (fun c94 => ?_)
          · refine WP.lload rfl rfl ?_
            have e := kk; simp only [s_X12_workRules_11, if_pos c94] at e ⊢; exact e
          · obtain ⟨o95, o96, o97⟩ := q98 c94
            refine WP.ldc2_w rfl ?_
            refine WP.lload rfl rfl ?_
            refine WP.lmulE rfl o95 ?_
            refine WP.aload_n rfl rfl ⟨by decide, by decide⟩ ?_
            refine WP.getRF (b := 249) rfl rfl rfl ?_
            refine WP.sipush rfl ?_
            refine WP.iload rfl rfl ?_
            refine WP.iaddE rfl o89 ?_
            refine WP.laload rfl ⟨by decide, by decide, by decide⟩ o90 ?_
            refine WP.laddE rfl o96 ?_
            refine WP.ldc2_w rfl ?_
            refine WP.lsubE rfl o97 ?_
            refine WP.goto rfl ?_
            have e := kk; simp only [s_X12_workRules_11, if_neg (Int.not_le.mpr c94)] at e ⊢; exact e
        refine k93 _ ?_
        refine WP.lstore (L' := [(14, 248), (0, x1), us.getD 0 pU, (0, x3), (0, y4), us.getD 1 pU, (0, x6), (1, s_X12_workRules_11 x3 x6 x7 h), pU]) rfl rfl ?_
        refine WP.iincE (L' := [(14, 248), (0, x1), us.getD 0 pU, (0, x3), (0, y4), if (us.getD 1 pU).1 = 1 then pU else us.getD 1 pU, (0, x6 + 1), (1, s_X12_workRules_11 x3 x6 x7 h), pU]) rfl rfl o101 rfl ?_
        refine WP.goto rfl ?_
        exact kk [us.getD 0 pU, if (us.getD 1 pU).1 = 1 then pU else us.getD 1 pU] (x6 + 1, s_X12_workRules_11 x3 x6 x7 h) (rfl)
  · intro hP hc
    generalize hs : (L_X12_workRules_54 y4 x1 x3 h x6 x7 : Int × Int) = s at kk
    change P_X12_workRules_54 y4 x1 x3 h (L_X12_workRules_54 y4 x1 x3 h x6 x7).1 (L_X12_workRules_54 y4 x1 x3 h x6 x7).2 at hP
    change ¬ C_X12_workRules_54 y4 x1 x3 h (L_X12_workRules_54 y4 x1 x3 h x6 x7).1 (L_X12_workRules_54 y4 x1 x3 h x6 x7).2 at hc
    intro us
    show WP 174 (54, [(14, 248), (0, x1), us.getD 0 pU, (0, x3), (0, y4), us.getD 1 pU, (0, (L_X12_workRules_54 y4 x1 x3 h x6 x7).1), (1, (L_X12_workRules_54 y4 x1 x3 h x6 x7).2), pU], [], h) Q
    rw [hs] at hP hc ⊢
    obtain ⟨x6, x7⟩ := s
    change P_X12_workRules_54 y4 x1 x3 h x6 x7 at hP
    change ¬ (x6 < y4 ∧ (48 ≤ (h 249 (376 + x6)) ∧ (h 249 (376 + x6)) ≤ 57)) at hc
    unfold P_X12_workRules_54 at hP
    have q87 := hP.1
    show WP 174 (54, [(14, 248), (0, x1), us.getD 0 pU, (0, x3), (0, y4), us.getD 1 pU, (0, x6), (1, x7), pU], [], h) Q
    refine WP.iload rfl rfl ?_
    refine WP.iload rfl rfl ?_
    refine WP.ni_ge rfl (fun c83 => ?_) (fun c83 => ?_)
    · exact kk [us.getD 0 pU, us.getD 1 pU]
    · obtain ⟨o84, o85⟩ := q87 c83
      refine WP.aload_n rfl rfl ⟨by decide, by decide⟩ ?_
      refine WP.getRF (b := 249) rfl rfl rfl ?_
      refine WP.sipush rfl ?_
      refine WP.iload rfl rfl ?_
      refine WP.iaddE rfl o84 ?_
      refine WP.laload rfl ⟨by decide, by decide, by decide⟩ o85 ?_
      refine WP.callF (c_X12_isDigit (h 249 (376 + x6)) h) rfl rfl (pm_cok rfl rfl (Or.inl rfl) rfl rfl) rfl rfl ?_
      show WP 174 (64, [(14, 248), (0, x1), us.getD 0 pU, (0, x3), (0, y4), us.getD 1 pU, (0, x6), (1, x7), pU], [(0, if 48 ≤ (h 249 (376 + x6)) ∧ (h 249 (376 + x6)) ≤ 57 then 1 else 0)], h) Q
      refine WP.nb_eq rfl (fun c86 => ?_) (fun c86 => ?_)
      · exact kk [us.getD 0 pU, us.getD 1 pU]
      · exact absurd (show x6 < y4 ∧ (48 ≤ (h 249 (376 + x6)) ∧ (h 249 (376 + x6)) ≤ 57) from ⟨c83, c86⟩) hc
noncomputable def s_X12_workRules_12 (y4 : Int) (x1 : Int) (x3 : Int) (h : pH) : Int := (L_X12_workRules_54 y4 x1 x3 h x3 0).1
noncomputable def s_X12_workRules_13 (y4 : Int) (x1 : Int) (x3 : Int) (h : pH) : Int := (L_X12_workRules_54 y4 x1 x3 h x3 0).2
noncomputable def s_X12_workRules_14 (y4 : Int) (x1 : Int) (x3 : Int) (h : pH) : Int := if (s_X12_workRules_12 y4 x1 x3 h) - x3 ≤ 6 then (-1) else (10 * x3) + 2
noncomputable def s_X12_workRules_15 (y4 : Int) (x1 : Int) (x3 : Int) (h : pH) : pH := H_X12_put (s_X12_workRules_13 y4 x1 x3 h) (pm_upd h 248 12 (s_X12_workRules_14 y4 x1 x3 h))
noncomputable def s_X12_workRules_16 (h : pH) : pH := pm_upd (pm_upd h 256 (h 248 9) 6) 248 9 (((pm_upd h 256 (h 248 9) 6) 248 9) + 1)
noncomputable def s_X12_workRules_17 (h : pH) : pH := pm_upd (pm_upd h 256 (h 248 9) 7) 248 9 (((pm_upd h 256 (h 248 9) 7) 248 9) + 1)
noncomputable def s_X12_workRules_18 (x1 : Int) (x3 : Int) : Int := if x1 = 8 then (10 * x3) + 3 else (-1)
noncomputable def s_X12_workRules_19 (x1 : Int) : Int := x1 + (if ¬ x1 = 8 then 1 else 0)
noncomputable def s_X12_workRules_20 (x1 : Int) (x3 : Int) (h : pH) : pH := pm_upd (pm_upd h 248 12 (s_X12_workRules_18 x1 x3)) 257 (s_X12_workRules_19 x1) 0
noncomputable def s_X12_workRules_21 (x1 : Int) (x3 : Int) (h : pH) : pH := pm_upd (s_X12_workRules_20 x1 x3 h) 256 ((s_X12_workRules_20 x1 x3 h) 248 9) 0
noncomputable def s_X12_workRules_22 (x1 : Int) (x3 : Int) (h : pH) : pH := pm_upd (s_X12_workRules_21 x1 x3 h) 248 9 (((s_X12_workRules_21 x1 x3 h) 248 9) + 1)
noncomputable def s_X12_workRules_23 (y4 : Int) (x1 : Int) (x2 : Int) (x3 : Int) (h : pH) : pH := if h 249 (376 + x3) = 32 then h else if x2 = 0 then if h 249 (376 + x3) = 41 then if x1 ≤ 0 then if F_X12_strength (h 249 (376 + x3)) h = 0 then pm_upd h 248 12 ((10 * x3) + 1) else if F_X12_strength (h 249 (376 + x3)) h = 3 then if h 257 x1 = 0 then s_X12_workRules_4 x1 x3 h else pm_upd h 248 12 ((10 * x3) + 1) else s_X12_workRules_7 x1 x3 h else s_X12_workRules_10 h else if F_X12_strength (h 249 (376 + x3)) h = 0 then pm_upd h 248 12 ((10 * x3) + 1) else if F_X12_strength (h 249 (376 + x3)) h = 3 then if h 257 x1 = 0 then s_X12_workRules_4 x1 x3 h else pm_upd h 248 12 ((10 * x3) + 1) else s_X12_workRules_7 x1 x3 h else if 48 ≤ (h 249 (376 + x3)) ∧ (h 249 (376 + x3)) ≤ 57 then s_X12_workRules_15 y4 x1 x3 h else if (h 249 (376 + x3)) = 103 ∨ ((h 249 (376 + x3)) = 112 ∨ ((h 249 (376 + x3)) = 115 ∨ ((h 249 (376 + x3)) = 119 ∨ ((h 249 (376 + x3)) = 109 ∨ (h 249 (376 + x3)) = 102)))) then H_X12_put (F_X12_named (h 249 (376 + x3)) h) h else if h 249 (376 + x3) = 33 then s_X12_workRules_16 h else if h 249 (376 + x3) = 45 then s_X12_workRules_17 h else if h 249 (376 + x3) = 40 then s_X12_workRules_22 x1 x3 h else pm_upd h 248 12 ((10 * x3) + 1)
noncomputable def s_X12_workRules_24 (x1 : Int) (x2 : Int) (x3 : Int) (h : pH) : Int := if h 249 (376 + x3) = 32 then x1 else if x2 = 0 then if h 249 (376 + x3) = 41 then if x1 ≤ 0 then x1 else x1 + (-1) else x1 else if 48 ≤ (h 249 (376 + x3)) ∧ (h 249 (376 + x3)) ≤ 57 then x1 else if (h 249 (376 + x3)) = 103 ∨ ((h 249 (376 + x3)) = 112 ∨ ((h 249 (376 + x3)) = 115 ∨ ((h 249 (376 + x3)) = 119 ∨ ((h 249 (376 + x3)) = 109 ∨ (h 249 (376 + x3)) = 102)))) then x1 else if h 249 (376 + x3) = 33 then x1 else if h 249 (376 + x3) = 45 then x1 else if h 249 (376 + x3) = 40 then s_X12_workRules_19 x1 else x1
noncomputable def s_X12_workRules_25 (x1 : Int) (x2 : Int) (x3 : Int) (h : pH) : Int := if h 249 (376 + x3) = 32 then x2 else if x2 = 0 then if h 249 (376 + x3) = 41 then if x1 ≤ 0 then if F_X12_strength (h 249 (376 + x3)) h = 0 then x2 else if F_X12_strength (h 249 (376 + x3)) h = 3 then if h 257 x1 = 0 then 1 else x2 else 1 else x2 else if F_X12_strength (h 249 (376 + x3)) h = 0 then x2 else if F_X12_strength (h 249 (376 + x3)) h = 3 then if h 257 x1 = 0 then 1 else x2 else 1 else if 48 ≤ (h 249 (376 + x3)) ∧ (h 249 (376 + x3)) ≤ 57 then 0 else if (h 249 (376 + x3)) = 103 ∨ ((h 249 (376 + x3)) = 112 ∨ ((h 249 (376 + x3)) = 115 ∨ ((h 249 (376 + x3)) = 119 ∨ ((h 249 (376 + x3)) = 109 ∨ (h 249 (376 + x3)) = 102)))) then 0 else x2
noncomputable def s_X12_workRules_26 (y4 : Int) (x1 : Int) (x2 : Int) (x3 : Int) (h : pH) : Int := if h 249 (376 + x3) = 32 then x3 + 1 else if x2 = 0 then x3 + 1 else if 48 ≤ (h 249 (376 + x3)) ∧ (h 249 (376 + x3)) ≤ 57 then s_X12_workRules_12 y4 x1 x3 h else x3 + 1
def C_X12_workRules_24 (y4 : Int) (x1 : Int) (x2 : Int) (x3 : Int) (h : pH) : Prop := x3 < y4 ∧ h 248 12 = (-1)
noncomputable def B_X12_workRules_24 (y4 : Int) (x1 : Int) (x2 : Int) (x3 : Int) (h : pH) : Int × Int × Int × pH := (s_X12_workRules_24 x1 x2 x3 h, s_X12_workRules_25 x1 x2 x3 h, s_X12_workRules_26 y4 x1 x2 x3 h, s_X12_workRules_23 y4 x1 x2 x3 h)
noncomputable def P_X12_workRules_24 (y4 : Int) (x1 : Int) (x2 : Int) (x3 : Int) (h : pH) : Prop := ((x3 < y4 ∧ h 248 12 = (-1)) → (fx_i (376 + x3)) ∧ (P_X12_at (376 + x3) h) ∧ (fx_i (x3 + 1)) ∧ (((¬ h 249 (376 + x3) = 32) → ((((x2 = 0) → ((((h 249 (376 + x3) = 41) → ((((x1 ≤ 0) → ((((F_X12_strength (h 249 (376 + x3)) h = 0) → ((fx_i (10 * x3)) ∧ (fx_i ((10 * x3) + 1)))) ∧ ((¬ F_X12_strength (h 249 (376 + x3)) h = 0) → ((((F_X12_strength (h 249 (376 + x3)) h = 3) → ((0 ≤ x1 ∧ x1 < 12) ∧ (((h 257 x1 = 0) → ((P_X12_reduce (F_X12_strength (h 249 (376 + x3)) h) h) ∧ (0 ≤ (s_X12_workRules_2 x1 x3 h) 248 9 ∧ (s_X12_workRules_2 x1 x3 h) 248 9 < 130) ∧ (fx_i (((s_X12_workRules_3 x1 x3 h) 248 9) + 1)))) ∧ ((¬ h 257 x1 = 0) → ((fx_i (10 * x3)) ∧ (fx_i ((10 * x3) + 1))))))) ∧ ((¬ F_X12_strength (h 249 (376 + x3)) h = 3) → ((P_X12_reduce (F_X12_strength (h 249 (376 + x3)) h) h) ∧ (((3 < F_X12_strength (h 249 (376 + x3)) h) → ((0 ≤ x1 ∧ x1 < 12)))) ∧ (0 ≤ x1 ∧ x1 < 12) ∧ (0 ≤ (s_X12_workRules_5 x1 x3 h) 248 9 ∧ (s_X12_workRules_5 x1 x3 h) 248 9 < 130) ∧ (fx_i (((s_X12_workRules_6 x1 x3 h) 248 9) + 1)))))))))) ∧ ((0 < x1) → (P_X12_reduce 1 h ∧ (fx_i (((H_X12_reduce 1 h) 248 9) - 1)) ∧ (fx_i (((s_X12_workRules_8 h) 248 8) - 1)) ∧ (fx_i (x1 + (-1))) ∧ (0 ≤ (s_X12_workRules_9 h) 248 8 ∧ (s_X12_workRules_9 h) 248 8 < 130) ∧ (P_X12_put ((s_X12_workRules_9 h) 255 ((s_X12_workRules_9 h) 248 8)) (s_X12_workRules_9 h))))))) ∧ ((¬ h 249 (376 + x3) = 41) → ((((F_X12_strength (h 249 (376 + x3)) h = 0) → ((fx_i (10 * x3)) ∧ (fx_i ((10 * x3) + 1)))) ∧ ((¬ F_X12_strength (h 249 (376 + x3)) h = 0) → ((((F_X12_strength (h 249 (376 + x3)) h = 3) → ((0 ≤ x1 ∧ x1 < 12) ∧ (((h 257 x1 = 0) → ((P_X12_reduce (F_X12_strength (h 249 (376 + x3)) h) h) ∧ (0 ≤ (s_X12_workRules_2 x1 x3 h) 248 9 ∧ (s_X12_workRules_2 x1 x3 h) 248 9 < 130) ∧ (fx_i (((s_X12_workRules_3 x1 x3 h) 248 9) + 1)))) ∧ ((¬ h 257 x1 = 0) → ((fx_i (10 * x3)) ∧ (fx_i ((10 * x3) + 1))))))) ∧ ((¬ F_X12_strength (h 249 (376 + x3)) h = 3) → ((P_X12_reduce (F_X12_strength (h 249 (376 + x3)) h) h) ∧ (((3 < F_X12_strength (h 249 (376 + x3)) h) → ((0 ≤ x1 ∧ x1 < 12)))) ∧ (0 ≤ x1 ∧ x1 < 12) ∧ (0 ≤ (s_X12_workRules_5 x1 x3 h) 248 9 ∧ (s_X12_workRules_5 x1 x3 h) 248 9 < 130) ∧ (fx_i (((s_X12_workRules_6 x1 x3 h) 248 9) + 1))))))))))))) ∧ ((¬ x2 = 0) → ((((48 ≤ (h 249 (376 + x3)) ∧ (h 249 (376 + x3)) ≤ 57) → (O_X12_workRules_54 y4 x1 x3 h x3 0 ∧ (fx_i ((s_X12_workRules_12 y4 x1 x3 h) - x3)) ∧ (((6 < (s_X12_workRules_12 y4 x1 x3 h) - x3) → ((fx_i (10 * x3)) ∧ (fx_i ((10 * x3) + 2))))) ∧ (P_X12_put (s_X12_workRules_13 y4 x1 x3 h) (pm_upd h 248 12 (s_X12_workRules_14 y4 x1 x3 h))))) ∧ ((¬ (48 ≤ (h 249 (376 + x3)) ∧ (h 249 (376 + x3)) ≤ 57)) → (((((h 249 (376 + x3)) = 103 ∨ ((h 249 (376 + x3)) = 112 ∨ ((h 249 (376 + x3)) = 115 ∨ ((h 249 (376 + x3)) = 119 ∨ ((h 249 (376 + x3)) = 109 ∨ (h 249 (376 + x3)) = 102))))) → ((P_X12_named (h 249 (376 + x3)) h) ∧ (P_X12_put (F_X12_named (h 249 (376 + x3)) h) h))) ∧ ((¬ ((h 249 (376 + x3)) = 103 ∨ ((h 249 (376 + x3)) = 112 ∨ ((h 249 (376 + x3)) = 115 ∨ ((h 249 (376 + x3)) = 119 ∨ ((h 249 (376 + x3)) = 109 ∨ (h 249 (376 + x3)) = 102)))))) → ((((h 249 (376 + x3) = 33) → ((0 ≤ h 248 9 ∧ h 248 9 < 130) ∧ (fx_i (((pm_upd h 256 (h 248 9) 6) 248 9) + 1)))) ∧ ((¬ h 249 (376 + x3) = 33) → ((((h 249 (376 + x3) = 45) → ((0 ≤ h 248 9 ∧ h 248 9 < 130) ∧ (fx_i (((pm_upd h 256 (h 248 9) 7) 248 9) + 1)))) ∧ ((¬ h 249 (376 + x3) = 45) → ((((h 249 (376 + x3) = 40) → ((((x1 = 8) → ((fx_i (10 * x3)) ∧ (fx_i ((10 * x3) + 3))))) ∧ (fx_i (x1 + (if ¬ x1 = 8 then 1 else 0))) ∧ (0 ≤ s_X12_workRules_19 x1 ∧ s_X12_workRules_19 x1 < 12) ∧ (0 ≤ (s_X12_workRules_20 x1 x3 h) 248 9 ∧ (s_X12_workRules_20 x1 x3 h) 248 9 < 130) ∧ (fx_i (((s_X12_workRules_21 x1 x3 h) 248 9) + 1)))) ∧ ((¬ h 249 (376 + x3) = 40) → ((fx_i (10 * x3)) ∧ (fx_i ((10 * x3) + 1))))))))))))))))))))))))
noncomputable def L_X12_workRules_24 (y4 : Int) (x1 : Int) (x2 : Int) (x3 : Int) (h : pH) : Int × Int × Int × pH := fx_wh (σ := Int × Int × Int × pH) (fun s => C_X12_workRules_24 y4 s.1 s.2.1 s.2.2.1 s.2.2.2) (fun s => B_X12_workRules_24 y4 s.1 s.2.1 s.2.2.1 s.2.2.2) (x1, x2, x3, h)
def O_X12_workRules_24 (y4 : Int) (x1 : Int) (x2 : Int) (x3 : Int) (h : pH) : Prop := fx_ok (σ := Int × Int × Int × pH) (fun s => C_X12_workRules_24 y4 s.1 s.2.1 s.2.2.1 s.2.2.2) (fun s => B_X12_workRules_24 y4 s.1 s.2.1 s.2.2.1 s.2.2.2) (fun s => P_X12_workRules_24 y4 s.1 s.2.1 s.2.2.1 s.2.2.2) (x1, x2, x3, h)
set_option maxHeartbeats 4000000 in
theorem lp_X12_workRules_24 (y4 : Int) (x1 : Int) (x2 : Int) (x3 : Int) (h : pH) {Q : Option pV → pH → Prop} (hp : O_X12_workRules_24 y4 x1 x2 x3 h) (kk : ∀ us : List pV, WP 174 (283, [(14, 248), (0, (L_X12_workRules_24 y4 x1 x2 x3 h).1), (0, (L_X12_workRules_24 y4 x1 x2 x3 h).2.1), (0, (L_X12_workRules_24 y4 x1 x2 x3 h).2.2.1), (0, y4), us.getD 0 pU, us.getD 1 pU, us.getD 2 pU, us.getD 3 pU], [], (L_X12_workRules_24 y4 x1 x2 x3 h).2.2.2) Q) : ∀ us : List pV, WP 174 (24, [(14, 248), (0, x1), (0, x2), (0, x3), (0, y4), us.getD 0 pU, us.getD 1 pU, us.getD 2 pU, us.getD 3 pU], [], h) Q := by
  refine WP.wh (σ := Int × Int × Int × pH) (fun s => C_X12_workRules_24 y4 s.1 s.2.1 s.2.2.1 s.2.2.2) (fun s => B_X12_workRules_24 y4 s.1 s.2.1 s.2.2.1 s.2.2.2) (fun s => P_X12_workRules_24 y4 s.1 s.2.1 s.2.2.1 s.2.2.2) (fun s us => (24, [(14, 248), (0, s.1), (0, s.2.1), (0, s.2.2.1), (0, y4), us.getD 0 pU, us.getD 1 pU, us.getD 2 pU, us.getD 3 pU], [], s.2.2.2)) (x1, x2, x3, h) hp ?_ ?_
  · intro s us hP hc kk
    obtain ⟨x1, x2, x3, h⟩ := s
    change P_X12_workRules_24 y4 x1 x2 x3 h at hP
    change x3 < y4 ∧ h 248 12 = (-1) at hc
    replace kk : ∀ (us' : List pV) (s' : Int × Int × Int × pH), s' = B_X12_workRules_24 y4 x1 x2 x3 h → WP 174 (24, [(14, 248), (0, s'.1), (0, s'.2.1), (0, s'.2.2.1), (0, y4), us'.getD 0 pU, us'.getD 1 pU, us'.getD 2 pU, us'.getD 3 pU], [], s'.2.2.2) Q := fun us' s' e => by subst e; exact kk us'
    unfold P_X12_workRules_24 at hP
    obtain ⟨o6, o7, o8, q153⟩ := hP hc
    show WP 174 (24, [(14, 248), (0, x1), (0, x2), (0, x3), (0, y4), us.getD 0 pU, us.getD 1 pU, us.getD 2 pU, us.getD 3 pU], [], h) Q
    refine WP.iload_n rfl rfl ?_
    refine WP.iload rfl rfl ?_
    refine WP.ni_ge rfl (fun c4 => ?_) (fun c4 => ?_)
    · exact absurd hc (fun q => (Int.not_lt.mpr c4) q.1)
    · refine WP.aload_n rfl rfl ⟨by decide, by decide⟩ ?_
      refine WP.getI rfl rfl ?_
      refine WP.iconst rfl ?_
      refine WP.ni_ne rfl (fun c5 => ?_) (fun c5 => ?_)
      · exact absurd hc (fun q => (c5) q.2)
      · refine WP.aload_n rfl rfl ⟨by decide, by decide⟩ ?_
        refine WP.sipush rfl ?_
        refine WP.iload_n rfl rfl ?_
        refine WP.iaddE rfl o6 ?_
        refine WP.callF (c_X12_at (376 + x3) h o7) rfl rfl (pm_cok rfl rfl (Or.inr ⟨_, _, rfl⟩) rfl rfl) rfl rfl ?_
        show WP 174 (36, [(14, 248), (0, x1), (0, x2), (0, x3), (0, y4), us.getD 0 pU, us.getD 1 pU, us.getD 2 pU, us.getD 3 pU], [(0, h 249 (376 + x3))], h) Q
        refine WP.istore (L' := [(14, 248), (0, x1), (0, x2), (0, x3), (0, y4), (0, h 249 (376 + x3)), us.getD 1 pU, us.getD 2 pU, us.getD 3 pU]) rfl rfl ?_
        refine WP.iload_n rfl rfl ?_
        refine WP.iconst rfl ?_
        refine WP.iaddE rfl o8 ?_
        refine WP.istore (L' := [(14, 248), (0, x1), (0, x2), (0, x3), (0, y4), (0, h 249 (376 + x3)), (0, x3 + 1), us.getD 2 pU, us.getD 3 pU]) rfl rfl ?_
        refine WP.iload rfl rfl ?_
        refine WP.bipush rfl ?_
        have k9 : ∀ Q' : Option pV → pH → Prop, (∀ us152 : List pV, WP 174 (280, [(14, 248), (0, s_X12_workRules_24 x1 x2 x3 h), (0, s_X12_workRules_25 x1 x2 x3 h), (0, x3), (0, y4), us152.getD 0 pU, (0, s_X12_workRules_26 y4 x1 x2 x3 h), us152.getD 1 pU, us152.getD 2 pU], [], s_X12_workRules_23 y4 x1 x2 x3 h) Q') → WP 174 (43, [(14, 248), (0, x1), (0, x2), (0, x3), (0, y4), (0, h 249 (376 + x3)), (0, x3 + 1), us.getD 2 pU, us.getD 3 pU], [(0, 32), (0, h 249 (376 + x3))], h) Q' := fun Q' kk => by
          have q151 := q153
          refine WP.ni_eq rfl (fun c10 => ?_) (fun c10 => ?_)
          · refine WP.iload rfl rfl ?_
            refine WP.bipush rfl ?_
            refine WP.ni_eq rfl (fun c11 => ?_) (fun c11 => ?_)
            · have e := kk [(0, h 249 (376 + x3)), us.getD 2 pU, us.getD 3 pU]; simp only [s_X12_workRules_24, s_X12_workRules_25, s_X12_workRules_26, s_X12_workRules_23, if_pos c10] at e ⊢; exact e
            · exact absurd c10 (c11)
          · have q150 := q151 c10
            refine WP.iload_n rfl rfl ?_
            refine WP.nz_eq rfl (fun c12 => ?_) (fun c12 => ?_)
            · have q81 := q150.1 c12
              refine WP.iload rfl rfl ?_
              refine WP.bipush rfl ?_
              refine WP.ni_eq rfl (fun c13 => ?_) (fun c13 => ?_)
              · exact absurd c13 (c10)
              · refine WP.iload rfl rfl ?_
                refine WP.callF (c_X12_strength (h 249 (376 + x3)) h) rfl rfl (pm_cok rfl rfl (Or.inl rfl) rfl rfl) rfl rfl ?_
                show WP 174 (197, [(14, 248), (0, x1), (0, x2), (0, x3), (0, y4), (0, h 249 (376 + x3)), (0, x3 + 1), us.getD 2 pU, us.getD 3 pU], [(0, F_X12_strength (h 249 (376 + x3)) h)], h) Q'
                refine WP.istore (L' := [(14, 248), (0, x1), (0, x2), (0, x3), (0, y4), (0, h 249 (376 + x3)), (0, x3 + 1), (0, F_X12_strength (h 249 (376 + x3)) h), us.getD 3 pU]) rfl rfl ?_
                refine WP.iload rfl rfl ?_
                refine WP.bipush rfl ?_
                refine WP.ni_ne rfl (fun c14 => ?_) (fun c14 => ?_)
                · have q80 := q81.2 c14
                  refine WP.iload rfl rfl ?_
                  refine WP.nz_eq rfl (fun c52 => ?_) (fun c52 => ?_)
                  · obtain ⟨o53, o54⟩ := q80.1 c52
                    refine WP.aload_n rfl rfl ⟨by decide, by decide⟩ ?_
                    refine WP.bipush rfl ?_
                    refine WP.iload_n rfl rfl ?_
                    refine WP.imulE rfl o53 ?_
                    refine WP.iconst rfl ?_
                    refine WP.iaddE rfl o54 ?_
                    refine WP.putI rfl rfl ?_
                    refine WP.goto rfl ?_
                    have e := kk [(0, h 249 (376 + x3)), (0, F_X12_strength (h 249 (376 + x3)) h), us.getD 3 pU]; simp only [s_X12_workRules_24, s_X12_workRules_25, s_X12_workRules_26, s_X12_workRules_23, if_neg (c10), if_pos c12, if_neg (c14), if_pos c52] at e ⊢; exact e
                  · have q79 := q80.2 c52
                    refine WP.iload rfl rfl ?_
                    refine WP.iconst rfl ?_
                    refine WP.ni_ne rfl (fun c55 => ?_) (fun c55 => ?_)
                    · obtain ⟨o67, q75, o76, o77, o78⟩ := q79.2 c55
                      refine WP.aload_n rfl rfl ⟨by decide, by decide⟩ ?_
                      refine WP.iload rfl rfl ?_
                      refine WP.callF (c_X12_reduce (F_X12_strength (h 249 (376 + x3)) h) h o67) rfl rfl (pm_cok rfl rfl (Or.inr ⟨_, _, rfl⟩) rfl rfl) rfl rfl ?_
                      show WP 174 (248, [(14, 248), (0, x1), (0, x2), (0, x3), (0, y4), (0, h 249 (376 + x3)), (0, x3 + 1), (0, F_X12_strength (h 249 (376 + x3)) h), us.getD 3 pU], [], H_X12_reduce (F_X12_strength (h 249 (376 + x3)) h) h) Q'
                      refine WP.aload_n rfl rfl ⟨by decide, by decide⟩ ?_
                      refine WP.getRF (b := 257) rfl rfl rfl ?_
                      refine WP.iload_n rfl rfl ?_
                      refine WP.iload rfl rfl ?_
                      refine WP.iconst rfl ?_
                      have k68 : ∀ Q' : Option pV → pH → Prop, (WP 174 (265, [(14, 248), (0, x1), (0, x2), (0, x3), (0, y4), (0, h 249 (376 + x3)), (0, x3 + 1), (0, F_X12_strength (h 249 (376 + x3)) h), us.getD 3 pU], [(0, if 3 < F_X12_strength (h 249 (376 + x3)) h ∧ (¬ (H_X12_reduce (F_X12_strength (h 249 (376 + x3)) h) h) 257 x1 = 0) then 1 else 0), (0, x1), (1050, 257)], H_X12_reduce (F_X12_strength (h 249 (376 + x3)) h) h) Q') → WP 174 (253, [(14, 248), (0, x1), (0, x2), (0, x3), (0, y4), (0, h 249 (376 + x3)), (0, x3 + 1), (0, F_X12_strength (h 249 (376 + x3)) h), us.getD 3 pU], [(0, 3), (0, F_X12_strength (h 249 (376 + x3)) h), (0, x1), (1050, 257)], H_X12_reduce (F_X12_strength (h 249 (376 + x3)) h) h) Q' := fun Q' kk => by
                        have q73 := q75
                        refine WP.ni_eq rfl (fun c69 => ?_) (fun c69 => ?_)
                        · exact absurd c69 (c55)
                        · refine WP.iload rfl rfl ?_
                          refine WP.iconst rfl ?_
                          refine WP.ni_le rfl (fun c70 => ?_) (fun c70 => ?_)
                          · refine WP.iconst rfl ?_
                            have e := kk; simp only [if_pos c70, if_neg (show ¬ (3 < F_X12_strength (h 249 (376 + x3)) h ∧ (¬ (H_X12_reduce (F_X12_strength (h 249 (376 + x3)) h) h) 257 x1 = 0)) from fun q => (Int.not_lt.mpr c70) q.1)] at e ⊢; exact e
                          · have o71 := q73 c70
                            refine WP.aload_n rfl rfl ⟨by decide, by decide⟩ ?_
                            refine WP.getRF (b := 257) rfl rfl rfl ?_
                            refine WP.iload_n rfl rfl ?_
                            refine WP.baload rfl ⟨by decide, by decide, by decide⟩ o71 ?_
                            refine WP.nz_eq rfl (fun c72 => ?_) (fun c72 => ?_)
                            · refine WP.iconst rfl ?_
                              have e := kk; simp only [if_neg (Int.not_le.mpr c70), if_pos c72, if_neg (show ¬ (3 < F_X12_strength (h 249 (376 + x3)) h ∧ (¬ (H_X12_reduce (F_X12_strength (h 249 (376 + x3)) h) h) 257 x1 = 0)) from fun q => (fun q => q c72) q.2)] at e ⊢; exact e
                            · refine WP.iconst rfl ?_
                              refine WP.goto rfl ?_
                              have e := kk; simp only [if_neg (Int.not_le.mpr c70), if_neg (c72), if_pos (show 3 < F_X12_strength (h 249 (376 + x3)) h ∧ (¬ (H_X12_reduce (F_X12_strength (h 249 (376 + x3)) h) h) 257 x1 = 0) from ⟨c70, c72⟩)] at e ⊢; exact e
                      refine k68 _ ?_
                      refine WP.bastore rfl ⟨by decide, by decide, by decide⟩ o76 (fx_01 _) ?_
                      show WP 174 (266, [(14, 248), (0, x1), (0, x2), (0, x3), (0, y4), (0, h 249 (376 + x3)), (0, x3 + 1), (0, F_X12_strength (h 249 (376 + x3)) h), us.getD 3 pU], [], s_X12_workRules_5 x1 x3 h) Q'
                      refine WP.aload_n rfl rfl ⟨by decide, by decide⟩ ?_
                      refine WP.getRF (b := 256) rfl rfl rfl ?_
                      refine WP.aload_n rfl rfl ⟨by decide, by decide⟩ ?_
                      refine WP.getI rfl rfl ?_
                      refine WP.iload rfl rfl ?_
                      refine WP.iastore rfl ⟨by decide, by decide, by decide⟩ o77 ?_
                      show WP 174 (272, [(14, 248), (0, x1), (0, x2), (0, x3), (0, y4), (0, h 249 (376 + x3)), (0, x3 + 1), (0, F_X12_strength (h 249 (376 + x3)) h), us.getD 3 pU], [], s_X12_workRules_6 x1 x3 h) Q'
                      refine WP.aload_n rfl rfl ⟨by decide, by decide⟩ ?_
                      refine WP.dup rfl (by decide) ?_
                      refine WP.getI rfl rfl ?_
                      refine WP.iconst rfl ?_
                      refine WP.iaddE rfl o78 ?_
                      refine WP.putI rfl rfl ?_
                      show WP 174 (278, [(14, 248), (0, x1), (0, x2), (0, x3), (0, y4), (0, h 249 (376 + x3)), (0, x3 + 1), (0, F_X12_strength (h 249 (376 + x3)) h), us.getD 3 pU], [], s_X12_workRules_7 x1 x3 h) Q'
                      refine WP.iconst rfl ?_
                      refine WP.istore_n (L' := [(14, 248), (0, x1), (0, 1), (0, x3), (0, y4), (0, h 249 (376 + x3)), (0, x3 + 1), (0, F_X12_strength (h 249 (376 + x3)) h), us.getD 3 pU]) rfl rfl ?_
                      have e := kk [(0, h 249 (376 + x3)), (0, F_X12_strength (h 249 (376 + x3)) h), us.getD 3 pU]; simp only [s_X12_workRules_24, s_X12_workRules_25, s_X12_workRules_26, s_X12_workRules_23, if_neg (c10), if_pos c12, if_neg (c14), if_neg (c52), if_neg (c55)] at e ⊢; exact e
                    · obtain ⟨o56, q66⟩ := q79.1 c55
                      refine WP.aload_n rfl rfl ⟨by decide, by decide⟩ ?_
                      refine WP.getRF (b := 257) rfl rfl rfl ?_
                      refine WP.iload_n rfl rfl ?_
                      refine WP.baload rfl ⟨by decide, by decide, by decide⟩ o56 ?_
                      refine WP.nz_eq rfl (fun c57 => ?_) (fun c57 => ?_)
                      · obtain ⟨o58, o62, o63⟩ := q66.1 c57
                        refine WP.aload_n rfl rfl ⟨by decide, by decide⟩ ?_
                        refine WP.iload rfl rfl ?_
                        refine WP.callF (c_X12_reduce (F_X12_strength (h 249 (376 + x3)) h) h o58) rfl rfl (pm_cok rfl rfl (Or.inr ⟨_, _, rfl⟩) rfl rfl) rfl rfl ?_
                        show WP 174 (248, [(14, 248), (0, x1), (0, x2), (0, x3), (0, y4), (0, h 249 (376 + x3)), (0, x3 + 1), (0, F_X12_strength (h 249 (376 + x3)) h), us.getD 3 pU], [], H_X12_reduce (F_X12_strength (h 249 (376 + x3)) h) h) Q'
                        refine WP.aload_n rfl rfl ⟨by decide, by decide⟩ ?_
                        refine WP.getRF (b := 257) rfl rfl rfl ?_
                        refine WP.iload_n rfl rfl ?_
                        refine WP.iload rfl rfl ?_
                        refine WP.iconst rfl ?_
                        have k59 : ∀ Q' : Option pV → pH → Prop, (WP 174 (265, [(14, 248), (0, x1), (0, x2), (0, x3), (0, y4), (0, h 249 (376 + x3)), (0, x3 + 1), (0, F_X12_strength (h 249 (376 + x3)) h), us.getD 3 pU], [(0, 1), (0, x1), (1050, 257)], H_X12_reduce (F_X12_strength (h 249 (376 + x3)) h) h) Q') → WP 174 (253, [(14, 248), (0, x1), (0, x2), (0, x3), (0, y4), (0, h 249 (376 + x3)), (0, x3 + 1), (0, F_X12_strength (h 249 (376 + x3)) h), us.getD 3 pU], [(0, 3), (0, F_X12_strength (h 249 (376 + x3)) h), (0, x1), (1050, 257)], H_X12_reduce (F_X12_strength (h 249 (376 + x3)) h) h) Q' := fun Q' kk => by
                          refine WP.ni_eq rfl (fun c60 => ?_) (fun c60 => ?_)
                          · refine WP.iconst rfl ?_
                            refine WP.goto rfl ?_
                            exact kk
                          · exact absurd c55 (c60)
                        refine k59 _ ?_
                        refine WP.bastore rfl ⟨by decide, by decide, by decide⟩ o56 (by decide) ?_
                        show WP 174 (266, [(14, 248), (0, x1), (0, x2), (0, x3), (0, y4), (0, h 249 (376 + x3)), (0, x3 + 1), (0, F_X12_strength (h 249 (376 + x3)) h), us.getD 3 pU], [], s_X12_workRules_2 x1 x3 h) Q'
                        refine WP.aload_n rfl rfl ⟨by decide, by decide⟩ ?_
                        refine WP.getRF (b := 256) rfl rfl rfl ?_
                        refine WP.aload_n rfl rfl ⟨by decide, by decide⟩ ?_
                        refine WP.getI rfl rfl ?_
                        refine WP.iload rfl rfl ?_
                        refine WP.iastore rfl ⟨by decide, by decide, by decide⟩ o62 ?_
                        show WP 174 (272, [(14, 248), (0, x1), (0, x2), (0, x3), (0, y4), (0, h 249 (376 + x3)), (0, x3 + 1), (0, F_X12_strength (h 249 (376 + x3)) h), us.getD 3 pU], [], s_X12_workRules_3 x1 x3 h) Q'
                        refine WP.aload_n rfl rfl ⟨by decide, by decide⟩ ?_
                        refine WP.dup rfl (by decide) ?_
                        refine WP.getI rfl rfl ?_
                        refine WP.iconst rfl ?_
                        refine WP.iaddE rfl o63 ?_
                        refine WP.putI rfl rfl ?_
                        show WP 174 (278, [(14, 248), (0, x1), (0, x2), (0, x3), (0, y4), (0, h 249 (376 + x3)), (0, x3 + 1), (0, F_X12_strength (h 249 (376 + x3)) h), us.getD 3 pU], [], s_X12_workRules_4 x1 x3 h) Q'
                        refine WP.iconst rfl ?_
                        refine WP.istore_n (L' := [(14, 248), (0, x1), (0, 1), (0, x3), (0, y4), (0, h 249 (376 + x3)), (0, x3 + 1), (0, F_X12_strength (h 249 (376 + x3)) h), us.getD 3 pU]) rfl rfl ?_
                        have e := kk [(0, h 249 (376 + x3)), (0, F_X12_strength (h 249 (376 + x3)) h), us.getD 3 pU]; simp only [s_X12_workRules_24, s_X12_workRules_25, s_X12_workRules_26, s_X12_workRules_23, if_neg (c10), if_pos c12, if_neg (c14), if_neg (c52), if_pos c55, if_pos c57] at e ⊢; exact e
                      · obtain ⟨o64, o65⟩ := q66.2 c57
                        refine WP.aload_n rfl rfl ⟨by decide, by decide⟩ ?_
                        refine WP.bipush rfl ?_
                        refine WP.iload_n rfl rfl ?_
                        refine WP.imulE rfl o64 ?_
                        refine WP.iconst rfl ?_
                        refine WP.iaddE rfl o65 ?_
                        refine WP.putI rfl rfl ?_
                        refine WP.goto rfl ?_
                        have e := kk [(0, h 249 (376 + x3)), (0, F_X12_strength (h 249 (376 + x3)) h), us.getD 3 pU]; simp only [s_X12_workRules_24, s_X12_workRules_25, s_X12_workRules_26, s_X12_workRules_23, if_neg (c10), if_pos c12, if_neg (c14), if_neg (c52), if_pos c55, if_neg (c57)] at e ⊢; exact e
                · have q51 := q81.1 c14
                  refine WP.iload_n rfl rfl ?_
                  refine WP.nz_le rfl (fun c15 => ?_) (fun c15 => ?_)
                  · have q44 := q51.1 c15
                    refine WP.iload rfl rfl ?_
                    refine WP.nz_eq rfl (fun c16 => ?_) (fun c16 => ?_)
                    · obtain ⟨o17, o18⟩ := q44.1 c16
                      refine WP.aload_n rfl rfl ⟨by decide, by decide⟩ ?_
                      refine WP.bipush rfl ?_
                      refine WP.iload_n rfl rfl ?_
                      refine WP.imulE rfl o17 ?_
                      refine WP.iconst rfl ?_
                      refine WP.iaddE rfl o18 ?_
                      refine WP.putI rfl rfl ?_
                      refine WP.goto rfl ?_
                      have e := kk [(0, h 249 (376 + x3)), (0, F_X12_strength (h 249 (376 + x3)) h), us.getD 3 pU]; simp only [s_X12_workRules_24, s_X12_workRules_25, s_X12_workRules_26, s_X12_workRules_23, if_neg (c10), if_pos c12, if_pos c14, if_pos c15, if_pos c16] at e ⊢; exact e
                    · have q43 := q44.2 c16
                      refine WP.iload rfl rfl ?_
                      refine WP.iconst rfl ?_
                      refine WP.ni_ne rfl (fun c19 => ?_) (fun c19 => ?_)
                      · obtain ⟨o31, q39, o40, o41, o42⟩ := q43.2 c19
                        refine WP.aload_n rfl rfl ⟨by decide, by decide⟩ ?_
                        refine WP.iload rfl rfl ?_
                        refine WP.callF (c_X12_reduce (F_X12_strength (h 249 (376 + x3)) h) h o31) rfl rfl (pm_cok rfl rfl (Or.inr ⟨_, _, rfl⟩) rfl rfl) rfl rfl ?_
                        show WP 174 (248, [(14, 248), (0, x1), (0, x2), (0, x3), (0, y4), (0, h 249 (376 + x3)), (0, x3 + 1), (0, F_X12_strength (h 249 (376 + x3)) h), us.getD 3 pU], [], H_X12_reduce (F_X12_strength (h 249 (376 + x3)) h) h) Q'
                        refine WP.aload_n rfl rfl ⟨by decide, by decide⟩ ?_
                        refine WP.getRF (b := 257) rfl rfl rfl ?_
                        refine WP.iload_n rfl rfl ?_
                        refine WP.iload rfl rfl ?_
                        refine WP.iconst rfl ?_
                        have k32 : ∀ Q' : Option pV → pH → Prop, (WP 174 (265, [(14, 248), (0, x1), (0, x2), (0, x3), (0, y4), (0, h 249 (376 + x3)), (0, x3 + 1), (0, F_X12_strength (h 249 (376 + x3)) h), us.getD 3 pU], [(0, if 3 < F_X12_strength (h 249 (376 + x3)) h ∧ (¬ (H_X12_reduce (F_X12_strength (h 249 (376 + x3)) h) h) 257 x1 = 0) then 1 else 0), (0, x1), (1050, 257)], H_X12_reduce (F_X12_strength (h 249 (376 + x3)) h) h) Q') → WP 174 (253, [(14, 248), (0, x1), (0, x2), (0, x3), (0, y4), (0, h 249 (376 + x3)), (0, x3 + 1), (0, F_X12_strength (h 249 (376 + x3)) h), us.getD 3 pU], [(0, 3), (0, F_X12_strength (h 249 (376 + x3)) h), (0, x1), (1050, 257)], H_X12_reduce (F_X12_strength (h 249 (376 + x3)) h) h) Q' := fun Q' kk => by
                          have q37 := q39
                          refine WP.ni_eq rfl (fun c33 => ?_) (fun c33 => ?_)
                          · exact absurd c33 (c19)
                          · refine WP.iload rfl rfl ?_
                            refine WP.iconst rfl ?_
                            refine WP.ni_le rfl (fun c34 => ?_) (fun c34 => ?_)
                            · refine WP.iconst rfl ?_
                              have e := kk; simp only [if_pos c34, if_neg (show ¬ (3 < F_X12_strength (h 249 (376 + x3)) h ∧ (¬ (H_X12_reduce (F_X12_strength (h 249 (376 + x3)) h) h) 257 x1 = 0)) from fun q => (Int.not_lt.mpr c34) q.1)] at e ⊢; exact e
                            · have o35 := q37 c34
                              refine WP.aload_n rfl rfl ⟨by decide, by decide⟩ ?_
                              refine WP.getRF (b := 257) rfl rfl rfl ?_
                              refine WP.iload_n rfl rfl ?_
                              refine WP.baload rfl ⟨by decide, by decide, by decide⟩ o35 ?_
                              refine WP.nz_eq rfl (fun c36 => ?_) (fun c36 => ?_)
                              · refine WP.iconst rfl ?_
                                have e := kk; simp only [if_neg (Int.not_le.mpr c34), if_pos c36, if_neg (show ¬ (3 < F_X12_strength (h 249 (376 + x3)) h ∧ (¬ (H_X12_reduce (F_X12_strength (h 249 (376 + x3)) h) h) 257 x1 = 0)) from fun q => (fun q => q c36) q.2)] at e ⊢; exact e
                              · refine WP.iconst rfl ?_
                                refine WP.goto rfl ?_
                                have e := kk; simp only [if_neg (Int.not_le.mpr c34), if_neg (c36), if_pos (show 3 < F_X12_strength (h 249 (376 + x3)) h ∧ (¬ (H_X12_reduce (F_X12_strength (h 249 (376 + x3)) h) h) 257 x1 = 0) from ⟨c34, c36⟩)] at e ⊢; exact e
                        refine k32 _ ?_
                        refine WP.bastore rfl ⟨by decide, by decide, by decide⟩ o40 (fx_01 _) ?_
                        show WP 174 (266, [(14, 248), (0, x1), (0, x2), (0, x3), (0, y4), (0, h 249 (376 + x3)), (0, x3 + 1), (0, F_X12_strength (h 249 (376 + x3)) h), us.getD 3 pU], [], s_X12_workRules_5 x1 x3 h) Q'
                        refine WP.aload_n rfl rfl ⟨by decide, by decide⟩ ?_
                        refine WP.getRF (b := 256) rfl rfl rfl ?_
                        refine WP.aload_n rfl rfl ⟨by decide, by decide⟩ ?_
                        refine WP.getI rfl rfl ?_
                        refine WP.iload rfl rfl ?_
                        refine WP.iastore rfl ⟨by decide, by decide, by decide⟩ o41 ?_
                        show WP 174 (272, [(14, 248), (0, x1), (0, x2), (0, x3), (0, y4), (0, h 249 (376 + x3)), (0, x3 + 1), (0, F_X12_strength (h 249 (376 + x3)) h), us.getD 3 pU], [], s_X12_workRules_6 x1 x3 h) Q'
                        refine WP.aload_n rfl rfl ⟨by decide, by decide⟩ ?_
                        refine WP.dup rfl (by decide) ?_
                        refine WP.getI rfl rfl ?_
                        refine WP.iconst rfl ?_
                        refine WP.iaddE rfl o42 ?_
                        refine WP.putI rfl rfl ?_
                        show WP 174 (278, [(14, 248), (0, x1), (0, x2), (0, x3), (0, y4), (0, h 249 (376 + x3)), (0, x3 + 1), (0, F_X12_strength (h 249 (376 + x3)) h), us.getD 3 pU], [], s_X12_workRules_7 x1 x3 h) Q'
                        refine WP.iconst rfl ?_
                        refine WP.istore_n (L' := [(14, 248), (0, x1), (0, 1), (0, x3), (0, y4), (0, h 249 (376 + x3)), (0, x3 + 1), (0, F_X12_strength (h 249 (376 + x3)) h), us.getD 3 pU]) rfl rfl ?_
                        have e := kk [(0, h 249 (376 + x3)), (0, F_X12_strength (h 249 (376 + x3)) h), us.getD 3 pU]; simp only [s_X12_workRules_24, s_X12_workRules_25, s_X12_workRules_26, s_X12_workRules_23, if_neg (c10), if_pos c12, if_pos c14, if_pos c15, if_neg (c16), if_neg (c19)] at e ⊢; exact e
                      · obtain ⟨o20, q30⟩ := q43.1 c19
                        refine WP.aload_n rfl rfl ⟨by decide, by decide⟩ ?_
                        refine WP.getRF (b := 257) rfl rfl rfl ?_
                        refine WP.iload_n rfl rfl ?_
                        refine WP.baload rfl ⟨by decide, by decide, by decide⟩ o20 ?_
                        refine WP.nz_eq rfl (fun c21 => ?_) (fun c21 => ?_)
                        · obtain ⟨o22, o26, o27⟩ := q30.1 c21
                          refine WP.aload_n rfl rfl ⟨by decide, by decide⟩ ?_
                          refine WP.iload rfl rfl ?_
                          refine WP.callF (c_X12_reduce (F_X12_strength (h 249 (376 + x3)) h) h o22) rfl rfl (pm_cok rfl rfl (Or.inr ⟨_, _, rfl⟩) rfl rfl) rfl rfl ?_
                          show WP 174 (248, [(14, 248), (0, x1), (0, x2), (0, x3), (0, y4), (0, h 249 (376 + x3)), (0, x3 + 1), (0, F_X12_strength (h 249 (376 + x3)) h), us.getD 3 pU], [], H_X12_reduce (F_X12_strength (h 249 (376 + x3)) h) h) Q'
                          refine WP.aload_n rfl rfl ⟨by decide, by decide⟩ ?_
                          refine WP.getRF (b := 257) rfl rfl rfl ?_
                          refine WP.iload_n rfl rfl ?_
                          refine WP.iload rfl rfl ?_
                          refine WP.iconst rfl ?_
                          have k23 : ∀ Q' : Option pV → pH → Prop, (WP 174 (265, [(14, 248), (0, x1), (0, x2), (0, x3), (0, y4), (0, h 249 (376 + x3)), (0, x3 + 1), (0, F_X12_strength (h 249 (376 + x3)) h), us.getD 3 pU], [(0, 1), (0, x1), (1050, 257)], H_X12_reduce (F_X12_strength (h 249 (376 + x3)) h) h) Q') → WP 174 (253, [(14, 248), (0, x1), (0, x2), (0, x3), (0, y4), (0, h 249 (376 + x3)), (0, x3 + 1), (0, F_X12_strength (h 249 (376 + x3)) h), us.getD 3 pU], [(0, 3), (0, F_X12_strength (h 249 (376 + x3)) h), (0, x1), (1050, 257)], H_X12_reduce (F_X12_strength (h 249 (376 + x3)) h) h) Q' := fun Q' kk => by
                            refine WP.ni_eq rfl (fun c24 => ?_) (fun c24 => ?_)
                            · refine WP.iconst rfl ?_
                              refine WP.goto rfl ?_
                              exact kk
                            · exact absurd c19 (c24)
                          refine k23 _ ?_
                          refine WP.bastore rfl ⟨by decide, by decide, by decide⟩ o20 (by decide) ?_
                          show WP 174 (266, [(14, 248), (0, x1), (0, x2), (0, x3), (0, y4), (0, h 249 (376 + x3)), (0, x3 + 1), (0, F_X12_strength (h 249 (376 + x3)) h), us.getD 3 pU], [], s_X12_workRules_2 x1 x3 h) Q'
                          refine WP.aload_n rfl rfl ⟨by decide, by decide⟩ ?_
                          refine WP.getRF (b := 256) rfl rfl rfl ?_
                          refine WP.aload_n rfl rfl ⟨by decide, by decide⟩ ?_
                          refine WP.getI rfl rfl ?_
                          refine WP.iload rfl rfl ?_
                          refine WP.iastore rfl ⟨by decide, by decide, by decide⟩ o26 ?_
                          show WP 174 (272, [(14, 248), (0, x1), (0, x2), (0, x3), (0, y4), (0, h 249 (376 + x3)), (0, x3 + 1), (0, F_X12_strength (h 249 (376 + x3)) h), us.getD 3 pU], [], s_X12_workRules_3 x1 x3 h) Q'
                          refine WP.aload_n rfl rfl ⟨by decide, by decide⟩ ?_
                          refine WP.dup rfl (by decide) ?_
                          refine WP.getI rfl rfl ?_
                          refine WP.iconst rfl ?_
                          refine WP.iaddE rfl o27 ?_
                          refine WP.putI rfl rfl ?_
                          show WP 174 (278, [(14, 248), (0, x1), (0, x2), (0, x3), (0, y4), (0, h 249 (376 + x3)), (0, x3 + 1), (0, F_X12_strength (h 249 (376 + x3)) h), us.getD 3 pU], [], s_X12_workRules_4 x1 x3 h) Q'
                          refine WP.iconst rfl ?_
                          refine WP.istore_n (L' := [(14, 248), (0, x1), (0, 1), (0, x3), (0, y4), (0, h 249 (376 + x3)), (0, x3 + 1), (0, F_X12_strength (h 249 (376 + x3)) h), us.getD 3 pU]) rfl rfl ?_
                          have e := kk [(0, h 249 (376 + x3)), (0, F_X12_strength (h 249 (376 + x3)) h), us.getD 3 pU]; simp only [s_X12_workRules_24, s_X12_workRules_25, s_X12_workRules_26, s_X12_workRules_23, if_neg (c10), if_pos c12, if_pos c14, if_pos c15, if_neg (c16), if_pos c19, if_pos c21] at e ⊢; exact e
                        · obtain ⟨o28, o29⟩ := q30.2 c21
                          refine WP.aload_n rfl rfl ⟨by decide, by decide⟩ ?_
                          refine WP.bipush rfl ?_
                          refine WP.iload_n rfl rfl ?_
                          refine WP.imulE rfl o28 ?_
                          refine WP.iconst rfl ?_
                          refine WP.iaddE rfl o29 ?_
                          refine WP.putI rfl rfl ?_
                          refine WP.goto rfl ?_
                          have e := kk [(0, h 249 (376 + x3)), (0, F_X12_strength (h 249 (376 + x3)) h), us.getD 3 pU]; simp only [s_X12_workRules_24, s_X12_workRules_25, s_X12_workRules_26, s_X12_workRules_23, if_neg (c10), if_pos c12, if_pos c14, if_pos c15, if_neg (c16), if_pos c19, if_neg (c21)] at e ⊢; exact e
                  · obtain ⟨o45, o46, o47, o48, o49, o50⟩ := q51.2 c15
                    refine WP.aload_n rfl rfl ⟨by decide, by decide⟩ ?_
                    refine WP.iconst rfl ?_
                    refine WP.callF (c_X12_reduce 1 h o45) rfl rfl (pm_cok rfl rfl (Or.inr ⟨_, _, rfl⟩) rfl rfl) rfl rfl ?_
                    show WP 174 (206, [(14, 248), (0, x1), (0, x2), (0, x3), (0, y4), (0, h 249 (376 + x3)), (0, x3 + 1), (0, F_X12_strength (h 249 (376 + x3)) h), us.getD 3 pU], [], H_X12_reduce 1 h) Q'
                    refine WP.aload_n rfl rfl ⟨by decide, by decide⟩ ?_
                    refine WP.dup rfl (by decide) ?_
                    refine WP.getI rfl rfl ?_
                    refine WP.iconst rfl ?_
                    refine WP.isubE rfl o46 ?_
                    refine WP.putI rfl rfl ?_
                    show WP 174 (212, [(14, 248), (0, x1), (0, x2), (0, x3), (0, y4), (0, h 249 (376 + x3)), (0, x3 + 1), (0, F_X12_strength (h 249 (376 + x3)) h), us.getD 3 pU], [], s_X12_workRules_8 h) Q'
                    refine WP.aload_n rfl rfl ⟨by decide, by decide⟩ ?_
                    refine WP.dup rfl (by decide) ?_
                    refine WP.getI rfl rfl ?_
                    refine WP.iconst rfl ?_
                    refine WP.isubE rfl o47 ?_
                    refine WP.putI rfl rfl ?_
                    show WP 174 (218, [(14, 248), (0, x1), (0, x2), (0, x3), (0, y4), (0, h 249 (376 + x3)), (0, x3 + 1), (0, F_X12_strength (h 249 (376 + x3)) h), us.getD 3 pU], [], s_X12_workRules_9 h) Q'
                    refine WP.iincE (L' := [(14, 248), (0, x1 + (-1)), (0, x2), (0, x3), (0, y4), (0, h 249 (376 + x3)), (0, x3 + 1), (0, F_X12_strength (h 249 (376 + x3)) h), us.getD 3 pU]) rfl rfl o48 rfl ?_
                    refine WP.aload_n rfl rfl ⟨by decide, by decide⟩ ?_
                    refine WP.aload_n rfl rfl ⟨by decide, by decide⟩ ?_
                    refine WP.getRF (b := 255) rfl rfl rfl ?_
                    refine WP.aload_n rfl rfl ⟨by decide, by decide⟩ ?_
                    refine WP.getI rfl rfl ?_
                    refine WP.laload rfl ⟨by decide, by decide, by decide⟩ o49 ?_
                    refine WP.callF (c_X12_put ((s_X12_workRules_9 h) 255 ((s_X12_workRules_9 h) 248 8)) (s_X12_workRules_9 h) o50) rfl rfl (pm_cok rfl rfl (Or.inr ⟨_, _, rfl⟩) rfl rfl) rfl rfl ?_
                    show WP 174 (226, [(14, 248), (0, x1 + (-1)), (0, x2), (0, x3), (0, y4), (0, h 249 (376 + x3)), (0, x3 + 1), (0, F_X12_strength (h 249 (376 + x3)) h), us.getD 3 pU], [], s_X12_workRules_10 h) Q'
                    refine WP.goto rfl ?_
                    have e := kk [(0, h 249 (376 + x3)), (0, F_X12_strength (h 249 (376 + x3)) h), us.getD 3 pU]; simp only [s_X12_workRules_24, s_X12_workRules_25, s_X12_workRules_26, s_X12_workRules_23, if_neg (c10), if_pos c12, if_pos c14, if_neg (Int.not_le.mpr c15)] at e ⊢; exact e
            · have q149 := q150.2 c12
              refine WP.iload rfl rfl ?_
              refine WP.i2l rfl ?_
              refine WP.callF (c_X12_isDigit (h 249 (376 + x3)) h) rfl rfl (pm_cok rfl rfl (Or.inl rfl) rfl rfl) rfl rfl ?_
              show WP 174 (49, [(14, 248), (0, x1), (0, x2), (0, x3), (0, y4), (0, h 249 (376 + x3)), (0, x3 + 1), us.getD 2 pU, us.getD 3 pU], [(0, if 48 ≤ (h 249 (376 + x3)) ∧ (h 249 (376 + x3)) ≤ 57 then 1 else 0)], h) Q'
              refine WP.nb_eq rfl (fun c82 => ?_) (fun c82 => ?_)
              · have q148 := q149.2 c82
                refine WP.iload rfl rfl ?_
                refine WP.callF (c_X12_isName (h 249 (376 + x3)) h) rfl rfl (pm_cok rfl rfl (Or.inl rfl) rfl rfl) rfl rfl ?_
                show WP 174 (109, [(14, 248), (0, x1), (0, x2), (0, x3), (0, y4), (0, h 249 (376 + x3)), (0, x3 + 1), us.getD 2 pU, us.getD 3 pU], [(0, if (h 249 (376 + x3)) = 103 ∨ ((h 249 (376 + x3)) = 112 ∨ ((h 249 (376 + x3)) = 115 ∨ ((h 249 (376 + x3)) = 119 ∨ ((h 249 (376 + x3)) = 109 ∨ (h 249 (376 + x3)) = 102)))) then 1 else 0)], h) Q'
                refine WP.nb_eq rfl (fun c113 => ?_) (fun c113 => ?_)
                · have q147 := q148.2 c113
                  refine WP.iload rfl rfl ?_
                  refine WP.bipush rfl ?_
                  refine WP.ni_eq rfl (fun c116 => ?_) (fun c116 => ?_)
                  · obtain ⟨o120, o121⟩ := q147.1 c116
                    refine WP.aload_n rfl rfl ⟨by decide, by decide⟩ ?_
                    refine WP.getRF (b := 256) rfl rfl rfl ?_
                    refine WP.aload_n rfl rfl ⟨by decide, by decide⟩ ?_
                    refine WP.getI rfl rfl ?_
                    refine WP.iload rfl rfl ?_
                    refine WP.bipush rfl ?_
                    have k117 : ∀ Q' : Option pV → pH → Prop, (WP 174 (134, [(14, 248), (0, x1), (0, x2), (0, x3), (0, y4), (0, h 249 (376 + x3)), (0, x3 + 1), us.getD 2 pU, us.getD 3 pU], [(0, 6), (0, h 248 9), (1520, 256)], h) Q') → WP 174 (130, [(14, 248), (0, x1), (0, x2), (0, x3), (0, y4), (0, h 249 (376 + x3)), (0, x3 + 1), us.getD 2 pU, us.getD 3 pU], [(0, 33), (0, h 249 (376 + x3)), (0, h 248 9), (1520, 256)], h) Q' := fun Q' kk => by
                      refine WP.ni_ne rfl (fun c118 => ?_) (fun c118 => ?_)
                      · exact absurd c116 (c118)
                      · refine WP.bipush rfl ?_
                        refine WP.goto rfl ?_
                        exact kk
                    refine k117 _ ?_
                    refine WP.iastore rfl ⟨by decide, by decide, by decide⟩ o120 ?_
                    refine WP.aload_n rfl rfl ⟨by decide, by decide⟩ ?_
                    refine WP.dup rfl (by decide) ?_
                    refine WP.getI rfl rfl ?_
                    refine WP.iconst rfl ?_
                    refine WP.iaddE rfl o121 ?_
                    refine WP.putI rfl rfl ?_
                    show WP 174 (141, [(14, 248), (0, x1), (0, x2), (0, x3), (0, y4), (0, h 249 (376 + x3)), (0, x3 + 1), us.getD 2 pU, us.getD 3 pU], [], s_X12_workRules_16 h) Q'
                    refine WP.goto rfl ?_
                    have e := kk [(0, h 249 (376 + x3)), us.getD 2 pU, us.getD 3 pU]; simp only [s_X12_workRules_24, s_X12_workRules_25, s_X12_workRules_26, s_X12_workRules_23, if_neg (c10), if_neg (c12), if_neg (c82), if_neg (c113), if_pos c116] at e ⊢; exact e
                  · have q146 := q147.2 c116
                    refine WP.iload rfl rfl ?_
                    refine WP.bipush rfl ?_
                    refine WP.ni_ne rfl (fun c122 => ?_) (fun c122 => ?_)
                    · have q145 := q146.2 c122
                      refine WP.iload rfl rfl ?_
                      refine WP.bipush rfl ?_
                      refine WP.ni_ne rfl (fun c128 => ?_) (fun c128 => ?_)
                      · obtain ⟨o143, o144⟩ := q145.2 c128
                        refine WP.aload_n rfl rfl ⟨by decide, by decide⟩ ?_
                        refine WP.bipush rfl ?_
                        refine WP.iload_n rfl rfl ?_
                        refine WP.imulE rfl o143 ?_
                        refine WP.iconst rfl ?_
                        refine WP.iaddE rfl o144 ?_
                        refine WP.putI rfl rfl ?_
                        refine WP.goto rfl ?_
                        have e := kk [(0, h 249 (376 + x3)), us.getD 2 pU, us.getD 3 pU]; simp only [s_X12_workRules_24, s_X12_workRules_25, s_X12_workRules_26, s_X12_workRules_23, if_neg (c10), if_neg (c12), if_neg (c82), if_neg (c113), if_neg (c116), if_neg (c122), if_neg (c128)] at e ⊢; exact e
                      · obtain ⟨q135, o139, o140, o141, o142⟩ := q145.1 c128
                        refine WP.aload_n rfl rfl ⟨by decide, by decide⟩ ?_
                        refine WP.iload_n rfl rfl ?_
                        refine WP.bipush rfl ?_
                        have k129 : ∀ Q' : Option pV → pH → Prop, (WP 174 (156, [(14, 248), (0, x1), (0, x2), (0, x3), (0, y4), (0, h 249 (376 + x3)), (0, x3 + 1), us.getD 2 pU, us.getD 3 pU], [(0, s_X12_workRules_18 x1 x3), (14, 248)], h) Q') → WP 174 (148, [(14, 248), (0, x1), (0, x2), (0, x3), (0, y4), (0, h 249 (376 + x3)), (0, x3 + 1), us.getD 2 pU, us.getD 3 pU], [(0, 8), (0, x1), (14, 248)], h) Q' := fun Q' kk => by
                          have q133 := q135
                          refine WP.ni_ne rfl (fun c130 => ?_) (fun c130 => ?_)
                          · refine WP.iconst rfl ?_
                            have e := kk; simp only [s_X12_workRules_18, if_neg (c130)] at e ⊢; exact e
                          · obtain ⟨o131, o132⟩ := q133 c130
                            refine WP.bipush rfl ?_
                            refine WP.iload_n rfl rfl ?_
                            refine WP.imulE rfl o131 ?_
                            refine WP.iconst rfl ?_
                            refine WP.iaddE rfl o132 ?_
                            refine WP.goto rfl ?_
                            have e := kk; simp only [s_X12_workRules_18, if_pos c130] at e ⊢; exact e
                        refine k129 _ ?_
                        refine WP.putI rfl rfl ?_
                        refine WP.iload_n rfl rfl ?_
                        refine WP.iload_n rfl rfl ?_
                        refine WP.bipush rfl ?_
                        have k136 : ∀ Q' : Option pV → pH → Prop, (WP 174 (164, [(14, 248), (0, x1), (0, x2), (0, x3), (0, y4), (0, h 249 (376 + x3)), (0, x3 + 1), us.getD 2 pU, us.getD 3 pU], [(0, if ¬ x1 = 8 then 1 else 0), (0, x1)], pm_upd h 248 12 (s_X12_workRules_18 x1 x3)) Q') → WP 174 (160, [(14, 248), (0, x1), (0, x2), (0, x3), (0, y4), (0, h 249 (376 + x3)), (0, x3 + 1), us.getD 2 pU, us.getD 3 pU], [(0, 8), (0, x1), (0, x1)], pm_upd h 248 12 (s_X12_workRules_18 x1 x3)) Q' := fun Q' kk => by
                          refine WP.ni_ne rfl (fun c137 => ?_) (fun c137 => ?_)
                          · refine WP.iconst rfl ?_
                            have e := kk; simp only [if_neg (c137), if_pos (show ¬ x1 = 8 from c137)] at e ⊢; exact e
                          · refine WP.iconst rfl ?_
                            refine WP.goto rfl ?_
                            have e := kk; simp only [if_pos c137, if_neg (show ¬ (¬ x1 = 8) from fun q => q c137)] at e ⊢; exact e
                        refine k136 _ ?_
                        refine WP.iaddE rfl o139 ?_
                        refine WP.istore_n (L' := [(14, 248), (0, x1 + (if ¬ x1 = 8 then 1 else 0)), (0, x2), (0, x3), (0, y4), (0, h 249 (376 + x3)), (0, x3 + 1), us.getD 2 pU, us.getD 3 pU]) rfl rfl ?_
                        show WP 174 (166, [(14, 248), (0, s_X12_workRules_19 x1), (0, x2), (0, x3), (0, y4), (0, h 249 (376 + x3)), (0, x3 + 1), us.getD 2 pU, us.getD 3 pU], [], pm_upd h 248 12 (s_X12_workRules_18 x1 x3)) Q'
                        refine WP.aload_n rfl rfl ⟨by decide, by decide⟩ ?_
                        refine WP.getRF (b := 257) rfl rfl rfl ?_
                        refine WP.iload_n rfl rfl ?_
                        refine WP.iconst rfl ?_
                        refine WP.bastore rfl ⟨by decide, by decide, by decide⟩ o140 (by decide) ?_
                        show WP 174 (171, [(14, 248), (0, s_X12_workRules_19 x1), (0, x2), (0, x3), (0, y4), (0, h 249 (376 + x3)), (0, x3 + 1), us.getD 2 pU, us.getD 3 pU], [], s_X12_workRules_20 x1 x3 h) Q'
                        refine WP.aload_n rfl rfl ⟨by decide, by decide⟩ ?_
                        refine WP.getRF (b := 256) rfl rfl rfl ?_
                        refine WP.aload_n rfl rfl ⟨by decide, by decide⟩ ?_
                        refine WP.getI rfl rfl ?_
                        refine WP.iconst rfl ?_
                        refine WP.iastore rfl ⟨by decide, by decide, by decide⟩ o141 ?_
                        show WP 174 (177, [(14, 248), (0, s_X12_workRules_19 x1), (0, x2), (0, x3), (0, y4), (0, h 249 (376 + x3)), (0, x3 + 1), us.getD 2 pU, us.getD 3 pU], [], s_X12_workRules_21 x1 x3 h) Q'
                        refine WP.aload_n rfl rfl ⟨by decide, by decide⟩ ?_
                        refine WP.dup rfl (by decide) ?_
                        refine WP.getI rfl rfl ?_
                        refine WP.iconst rfl ?_
                        refine WP.iaddE rfl o142 ?_
                        refine WP.putI rfl rfl ?_
                        show WP 174 (183, [(14, 248), (0, s_X12_workRules_19 x1), (0, x2), (0, x3), (0, y4), (0, h 249 (376 + x3)), (0, x3 + 1), us.getD 2 pU, us.getD 3 pU], [], s_X12_workRules_22 x1 x3 h) Q'
                        refine WP.goto rfl ?_
                        have e := kk [(0, h 249 (376 + x3)), us.getD 2 pU, us.getD 3 pU]; simp only [s_X12_workRules_24, s_X12_workRules_25, s_X12_workRules_26, s_X12_workRules_23, if_neg (c10), if_neg (c12), if_neg (c82), if_neg (c113), if_neg (c116), if_neg (c122), if_pos c128] at e ⊢; exact e
                    · obtain ⟨o126, o127⟩ := q146.1 c122
                      refine WP.aload_n rfl rfl ⟨by decide, by decide⟩ ?_
                      refine WP.getRF (b := 256) rfl rfl rfl ?_
                      refine WP.aload_n rfl rfl ⟨by decide, by decide⟩ ?_
                      refine WP.getI rfl rfl ?_
                      refine WP.iload rfl rfl ?_
                      refine WP.bipush rfl ?_
                      have k123 : ∀ Q' : Option pV → pH → Prop, (WP 174 (134, [(14, 248), (0, x1), (0, x2), (0, x3), (0, y4), (0, h 249 (376 + x3)), (0, x3 + 1), us.getD 2 pU, us.getD 3 pU], [(0, 7), (0, h 248 9), (1520, 256)], h) Q') → WP 174 (130, [(14, 248), (0, x1), (0, x2), (0, x3), (0, y4), (0, h 249 (376 + x3)), (0, x3 + 1), us.getD 2 pU, us.getD 3 pU], [(0, 33), (0, h 249 (376 + x3)), (0, h 248 9), (1520, 256)], h) Q' := fun Q' kk => by
                        refine WP.ni_ne rfl (fun c124 => ?_) (fun c124 => ?_)
                        · refine WP.bipush rfl ?_
                          exact kk
                        · exact absurd c124 (c116)
                      refine k123 _ ?_
                      refine WP.iastore rfl ⟨by decide, by decide, by decide⟩ o126 ?_
                      refine WP.aload_n rfl rfl ⟨by decide, by decide⟩ ?_
                      refine WP.dup rfl (by decide) ?_
                      refine WP.getI rfl rfl ?_
                      refine WP.iconst rfl ?_
                      refine WP.iaddE rfl o127 ?_
                      refine WP.putI rfl rfl ?_
                      show WP 174 (141, [(14, 248), (0, x1), (0, x2), (0, x3), (0, y4), (0, h 249 (376 + x3)), (0, x3 + 1), us.getD 2 pU, us.getD 3 pU], [], s_X12_workRules_17 h) Q'
                      refine WP.goto rfl ?_
                      have e := kk [(0, h 249 (376 + x3)), us.getD 2 pU, us.getD 3 pU]; simp only [s_X12_workRules_24, s_X12_workRules_25, s_X12_workRules_26, s_X12_workRules_23, if_neg (c10), if_neg (c12), if_neg (c82), if_neg (c113), if_neg (c116), if_pos c122] at e ⊢; exact e
                · obtain ⟨o114, o115⟩ := q148.1 c113
                  refine WP.aload_n rfl rfl ⟨by decide, by decide⟩ ?_
                  refine WP.aload_n rfl rfl ⟨by decide, by decide⟩ ?_
                  refine WP.iload rfl rfl ?_
                  refine WP.callF (c_X12_named (h 249 (376 + x3)) h o114) rfl rfl (pm_cok rfl rfl (Or.inr ⟨_, _, rfl⟩) rfl rfl) rfl rfl ?_
                  show WP 174 (114, [(14, 248), (0, x1), (0, x2), (0, x3), (0, y4), (0, h 249 (376 + x3)), (0, x3 + 1), us.getD 2 pU, us.getD 3 pU], [(1, F_X12_named (h 249 (376 + x3)) h), (14, 248)], h) Q'
                  refine WP.callF (c_X12_put (F_X12_named (h 249 (376 + x3)) h) h o115) rfl rfl (pm_cok rfl rfl (Or.inr ⟨_, _, rfl⟩) rfl rfl) rfl rfl ?_
                  show WP 174 (115, [(14, 248), (0, x1), (0, x2), (0, x3), (0, y4), (0, h 249 (376 + x3)), (0, x3 + 1), us.getD 2 pU, us.getD 3 pU], [], H_X12_put (F_X12_named (h 249 (376 + x3)) h) h) Q'
                  refine WP.iconst rfl ?_
                  refine WP.istore_n (L' := [(14, 248), (0, x1), (0, 0), (0, x3), (0, y4), (0, h 249 (376 + x3)), (0, x3 + 1), us.getD 2 pU, us.getD 3 pU]) rfl rfl ?_
                  refine WP.goto rfl ?_
                  have e := kk [(0, h 249 (376 + x3)), us.getD 2 pU, us.getD 3 pU]; simp only [s_X12_workRules_24, s_X12_workRules_25, s_X12_workRules_26, s_X12_workRules_23, if_neg (c10), if_neg (c12), if_neg (c82), if_pos c113] at e ⊢; exact e
              · obtain ⟨o102, o104, q111, o112⟩ := q149.1 c82
                refine WP.lconst rfl ?_
                refine WP.lstore (L' := [(14, 248), (0, x1), (0, x2), (0, x3), (0, y4), (0, h 249 (376 + x3)), (0, x3 + 1), (1, 0), pU]) rfl rfl ?_
                refine WP.iload_n rfl rfl ?_
                refine WP.istore (L' := [(14, 248), (0, x1), (0, x2), (0, x3), (0, y4), (0, h 249 (376 + x3)), (0, x3), (1, 0), pU]) rfl rfl ?_
                refine lp_X12_workRules_54 y4 x1 x3 h x3 0 o102 (fun us103 => ?_) [(0, x2), (0, h 249 (376 + x3))]
                show WP 174 (87, [(14, 248), (0, x1), us103.getD 0 pU, (0, x3), (0, y4), us103.getD 1 pU, (0, s_X12_workRules_12 y4 x1 x3 h), (1, s_X12_workRules_13 y4 x1 x3 h), pU], [], h) Q'
                refine WP.aload_n rfl rfl ⟨by decide, by decide⟩ ?_
                refine WP.iload rfl rfl ?_
                refine WP.iload_n rfl rfl ?_
                refine WP.isubE rfl o104 ?_
                refine WP.bipush rfl ?_
                have k105 : ∀ Q' : Option pV → pH → Prop, (WP 174 (100, [(14, 248), (0, x1), us103.getD 0 pU, (0, x3), (0, y4), us103.getD 1 pU, (0, s_X12_workRules_12 y4 x1 x3 h), (1, s_X12_workRules_13 y4 x1 x3 h), pU], [(0, s_X12_workRules_14 y4 x1 x3 h), (14, 248)], h) Q') → WP 174 (92, [(14, 248), (0, x1), us103.getD 0 pU, (0, x3), (0, y4), us103.getD 1 pU, (0, s_X12_workRules_12 y4 x1 x3 h), (1, s_X12_workRules_13 y4 x1 x3 h), pU], [(0, 6), (0, (s_X12_workRules_12 y4 x1 x3 h) - x3), (14, 248)], h) Q' := fun Q' kk => by
                  have q109 := q111
                  refine WP.ni_le rfl (fun c106 => ?_) (fun c106 => ?_)
                  · refine WP.iconst rfl ?_
                    have e := kk; simp only [s_X12_workRules_14, if_pos c106] at e ⊢; exact e
                  · obtain ⟨o107, o108⟩ := q109 c106
                    refine WP.bipush rfl ?_
                    refine WP.iload_n rfl rfl ?_
                    refine WP.imulE rfl o107 ?_
                    refine WP.iconst rfl ?_
                    refine WP.iaddE rfl o108 ?_
                    refine WP.goto rfl ?_
                    have e := kk; simp only [s_X12_workRules_14, if_neg (Int.not_le.mpr c106)] at e ⊢; exact e
                refine k105 _ ?_
                refine WP.putI rfl rfl ?_
                refine WP.aload_n rfl rfl ⟨by decide, by decide⟩ ?_
                refine WP.lload rfl rfl ?_
                refine WP.callF (c_X12_put (s_X12_workRules_13 y4 x1 x3 h) (pm_upd h 248 12 (s_X12_workRules_14 y4 x1 x3 h)) o112) rfl rfl (pm_cok rfl rfl (Or.inr ⟨_, _, rfl⟩) rfl rfl) rfl rfl ?_
                show WP 174 (104, [(14, 248), (0, x1), us103.getD 0 pU, (0, x3), (0, y4), us103.getD 1 pU, (0, s_X12_workRules_12 y4 x1 x3 h), (1, s_X12_workRules_13 y4 x1 x3 h), pU], [], s_X12_workRules_15 y4 x1 x3 h) Q'
                refine WP.iconst rfl ?_
                refine WP.istore_n (L' := [(14, 248), (0, x1), (0, 0), (0, x3), (0, y4), us103.getD 1 pU, (0, s_X12_workRules_12 y4 x1 x3 h), (1, s_X12_workRules_13 y4 x1 x3 h), pU]) rfl rfl ?_
                refine WP.goto rfl ?_
                have e := kk [us103.getD 1 pU, (1, s_X12_workRules_13 y4 x1 x3 h), pU]; simp only [s_X12_workRules_24, s_X12_workRules_25, s_X12_workRules_26, s_X12_workRules_23, if_neg (c10), if_neg (c12), if_pos c82] at e ⊢; exact e
        refine k9 _ (fun us152 => ?_)
        refine WP.iload rfl rfl ?_
        refine WP.istore_n (L' := [(14, 248), (0, s_X12_workRules_24 x1 x2 x3 h), (0, s_X12_workRules_25 x1 x2 x3 h), (0, s_X12_workRules_26 y4 x1 x2 x3 h), (0, y4), us152.getD 0 pU, (0, s_X12_workRules_26 y4 x1 x2 x3 h), us152.getD 1 pU, us152.getD 2 pU]) rfl rfl ?_
        refine WP.goto rfl ?_
        exact kk [us152.getD 0 pU, (0, s_X12_workRules_26 y4 x1 x2 x3 h), us152.getD 1 pU, us152.getD 2 pU] (s_X12_workRules_24 x1 x2 x3 h, s_X12_workRules_25 x1 x2 x3 h, s_X12_workRules_26 y4 x1 x2 x3 h, s_X12_workRules_23 y4 x1 x2 x3 h) (rfl)
  · intro hP hc
    generalize hs : (L_X12_workRules_24 y4 x1 x2 x3 h : Int × Int × Int × pH) = s at kk
    change P_X12_workRules_24 y4 (L_X12_workRules_24 y4 x1 x2 x3 h).1 (L_X12_workRules_24 y4 x1 x2 x3 h).2.1 (L_X12_workRules_24 y4 x1 x2 x3 h).2.2.1 (L_X12_workRules_24 y4 x1 x2 x3 h).2.2.2 at hP
    change ¬ C_X12_workRules_24 y4 (L_X12_workRules_24 y4 x1 x2 x3 h).1 (L_X12_workRules_24 y4 x1 x2 x3 h).2.1 (L_X12_workRules_24 y4 x1 x2 x3 h).2.2.1 (L_X12_workRules_24 y4 x1 x2 x3 h).2.2.2 at hc
    intro us
    show WP 174 (24, [(14, 248), (0, (L_X12_workRules_24 y4 x1 x2 x3 h).1), (0, (L_X12_workRules_24 y4 x1 x2 x3 h).2.1), (0, (L_X12_workRules_24 y4 x1 x2 x3 h).2.2.1), (0, y4), us.getD 0 pU, us.getD 1 pU, us.getD 2 pU, us.getD 3 pU], [], (L_X12_workRules_24 y4 x1 x2 x3 h).2.2.2) Q
    rw [hs] at hP hc ⊢
    obtain ⟨x1, x2, x3, h⟩ := s
    change P_X12_workRules_24 y4 x1 x2 x3 h at hP
    change ¬ (x3 < y4 ∧ h 248 12 = (-1)) at hc
    unfold P_X12_workRules_24 at hP
    show WP 174 (24, [(14, 248), (0, x1), (0, x2), (0, x3), (0, y4), us.getD 0 pU, us.getD 1 pU, us.getD 2 pU, us.getD 3 pU], [], h) Q
    refine WP.iload_n rfl rfl ?_
    refine WP.iload rfl rfl ?_
    refine WP.ni_ge rfl (fun c2 => ?_) (fun c2 => ?_)
    · exact kk [us.getD 0 pU, us.getD 1 pU, us.getD 2 pU, us.getD 3 pU]
    · refine WP.aload_n rfl rfl ⟨by decide, by decide⟩ ?_
      refine WP.getI rfl rfl ?_
      refine WP.iconst rfl ?_
      refine WP.ni_ne rfl (fun c3 => ?_) (fun c3 => ?_)
      · exact kk [us.getD 0 pU, us.getD 1 pU, us.getD 2 pU, us.getD 3 pU]
      · exact absurd (show x3 < y4 ∧ h 248 12 = (-1) from ⟨c2, c3⟩) hc
noncomputable def s_X12_workRules_27 (h : pH) : Int := (L_X12_workRules_24 ((pm_upd (pm_upd (pm_upd h 248 8 0) 248 9 0) 257 0 0) 249 14) 0 1 0 (s_X12_workRules_1 h)).1
noncomputable def s_X12_workRules_28 (h : pH) : Int := (L_X12_workRules_24 ((pm_upd (pm_upd (pm_upd h 248 8 0) 248 9 0) 257 0 0) 249 14) 0 1 0 (s_X12_workRules_1 h)).2.1
noncomputable def s_X12_workRules_29 (h : pH) : Int := (L_X12_workRules_24 ((pm_upd (pm_upd (pm_upd h 248 8 0) 248 9 0) 257 0 0) 249 14) 0 1 0 (s_X12_workRules_1 h)).2.2.1
noncomputable def s_X12_workRules_30 (h : pH) : pH := (L_X12_workRules_24 ((pm_upd (pm_upd (pm_upd h 248 8 0) 248 9 0) 257 0 0) 249 14) 0 1 0 (s_X12_workRules_1 h)).2.2.2
noncomputable def s_X12_workRules_31 (h : pH) : pH := pm_upd (s_X12_workRules_30 h) 248 12 ((10 * ((pm_upd (pm_upd (pm_upd h 248 8 0) 248 9 0) 257 0 0) 249 14)) + 1)
noncomputable def s_X12_workRules_32 (h : pH) : pH := if (s_X12_workRules_30 h) 248 12 = (-1) then if s_X12_workRules_28 h = 0 then if s_X12_workRules_27 h ≤ 0 then s_X12_workRules_30 h else s_X12_workRules_31 h else s_X12_workRules_31 h else s_X12_workRules_30 h
noncomputable def s_X12_workRules_33 (h : pH) : pH := pm_upd (H_X12_reduce 1 (s_X12_workRules_32 h)) 248 11 ((H_X12_reduce 1 (s_X12_workRules_32 h)) 255 0)
noncomputable def s_X12_workRules_34 (h : pH) : pH := if (s_X12_workRules_32 h) 248 12 = (-1) then s_X12_workRules_33 h else s_X12_workRules_32 h
noncomputable def H_X12_workRules (h : pH) : pH := s_X12_workRules_34 h
noncomputable def P_X12_workRules (h : pH) : Prop := (P_X12_at 14 (pm_upd (pm_upd (pm_upd h 248 8 0) 248 9 0) 257 0 0)) ∧ (O_X12_workRules_24 ((pm_upd (pm_upd (pm_upd h 248 8 0) 248 9 0) 257 0 0) 249 14) 0 1 0 (s_X12_workRules_1 h)) ∧ ((((s_X12_workRules_30 h) 248 12 = (-1)) → ((((s_X12_workRules_28 h = 0) → (((0 < s_X12_workRules_27 h) → ((fx_i (10 * ((pm_upd (pm_upd (pm_upd h 248 8 0) 248 9 0) 257 0 0) 249 14))) ∧ (fx_i ((10 * ((pm_upd (pm_upd (pm_upd h 248 8 0) 248 9 0) 257 0 0) 249 14)) + 1)))))) ∧ ((¬ s_X12_workRules_28 h = 0) → ((fx_i (10 * ((pm_upd (pm_upd (pm_upd h 248 8 0) 248 9 0) 257 0 0) 249 14))) ∧ (fx_i ((10 * ((pm_upd (pm_upd (pm_upd h 248 8 0) 248 9 0) 257 0 0) 249 14)) + 1)))))))) ∧ ((((s_X12_workRules_32 h) 248 12 = (-1)) → ((P_X12_reduce 1 (s_X12_workRules_32 h)))))
set_option maxHeartbeats 4000000 in
theorem w_X12_workRules (h : pH) {Q : Option pV → pH → Prop} (hp : P_X12_workRules h) (kk : Q (none) (H_X12_workRules h)) : WP 174 (0, [(14, 248), pU, pU, pU, pU, pU, pU, pU, pU], [], h) Q := by
  unfold P_X12_workRules at hp
  obtain ⟨o1, o154, q168, q174⟩ := hp
  refine WP.aload_n rfl rfl ⟨by decide, by decide⟩ ?_
  refine WP.iconst rfl ?_
  refine WP.putI rfl rfl ?_
  refine WP.aload_n rfl rfl ⟨by decide, by decide⟩ ?_
  refine WP.iconst rfl ?_
  refine WP.putI rfl rfl ?_
  refine WP.iconst rfl ?_
  refine WP.istore_n (L' := [(14, 248), (0, 0), pU, pU, pU, pU, pU, pU, pU]) rfl rfl ?_
  refine WP.aload_n rfl rfl ⟨by decide, by decide⟩ ?_
  refine WP.getRF (b := 257) rfl rfl rfl ?_
  refine WP.iconst rfl ?_
  refine WP.iconst rfl ?_
  refine WP.bastore rfl ⟨by decide, by decide, by decide⟩ (by decide) (by decide) ?_
  refine WP.iconst rfl ?_
  refine WP.istore_n (L' := [(14, 248), (0, 0), (0, 1), pU, pU, pU, pU, pU, pU]) rfl rfl ?_
  refine WP.iconst rfl ?_
  refine WP.istore_n (L' := [(14, 248), (0, 0), (0, 1), (0, 0), pU, pU, pU, pU, pU]) rfl rfl ?_
  refine WP.aload_n rfl rfl ⟨by decide, by decide⟩ ?_
  refine WP.bipush rfl ?_
  refine WP.callF (c_X12_at 14 (pm_upd (pm_upd (pm_upd h 248 8 0) 248 9 0) 257 0 0) o1) rfl rfl (pm_cok rfl rfl (Or.inr ⟨_, _, rfl⟩) rfl rfl) rfl rfl ?_
  show WP 174 (20, [(14, 248), (0, 0), (0, 1), (0, 0), pU, pU, pU, pU, pU], [(0, (pm_upd (pm_upd (pm_upd h 248 8 0) 248 9 0) 257 0 0) 249 14)], pm_upd (pm_upd (pm_upd h 248 8 0) 248 9 0) 257 0 0) Q
  refine WP.istore (L' := [(14, 248), (0, 0), (0, 1), (0, 0), (0, (pm_upd (pm_upd (pm_upd h 248 8 0) 248 9 0) 257 0 0) 249 14), pU, pU, pU, pU]) rfl rfl ?_
  refine WP.aload_n rfl rfl ⟨by decide, by decide⟩ ?_
  refine WP.iconst rfl ?_
  refine WP.putI rfl rfl ?_
  show WP 174 (24, [(14, 248), (0, 0), (0, 1), (0, 0), (0, (pm_upd (pm_upd (pm_upd h 248 8 0) 248 9 0) 257 0 0) 249 14), pU, pU, pU, pU], [], s_X12_workRules_1 h) Q
  refine lp_X12_workRules_24 ((pm_upd (pm_upd (pm_upd h 248 8 0) 248 9 0) 257 0 0) 249 14) 0 1 0 (s_X12_workRules_1 h) o154 (fun us155 => ?_) [pU, pU, pU, pU]
  show WP 174 (283, [(14, 248), (0, s_X12_workRules_27 h), (0, s_X12_workRules_28 h), (0, s_X12_workRules_29 h), (0, (pm_upd (pm_upd (pm_upd h 248 8 0) 248 9 0) 257 0 0) 249 14), us155.getD 0 pU, us155.getD 1 pU, us155.getD 2 pU, us155.getD 3 pU], [], s_X12_workRules_30 h) Q
  refine WP.aload_n rfl rfl ⟨by decide, by decide⟩ ?_
  refine WP.getI rfl rfl ?_
  refine WP.iconst rfl ?_
  have k156 : ∀ Q' : Option pV → pH → Prop, (WP 174 (298, [(14, 248), (0, s_X12_workRules_27 h), (0, s_X12_workRules_28 h), (0, s_X12_workRules_29 h), (0, (pm_upd (pm_upd (pm_upd h 248 8 0) 248 9 0) 257 0 0) 249 14), us155.getD 0 pU, us155.getD 1 pU, us155.getD 2 pU, us155.getD 3 pU], [], s_X12_workRules_32 h) Q') → WP 174 (286, [(14, 248), (0, s_X12_workRules_27 h), (0, s_X12_workRules_28 h), (0, s_X12_workRules_29 h), (0, (pm_upd (pm_upd (pm_upd h 248 8 0) 248 9 0) 257 0 0) 249 14), us155.getD 0 pU, us155.getD 1 pU, us155.getD 2 pU, us155.getD 3 pU], [(0, (-1)), (0, (s_X12_workRules_30 h) 248 12)], s_X12_workRules_30 h) Q' := fun Q' kk => by
    have q166 := q168
    refine WP.ni_ne rfl (fun c157 => ?_) (fun c157 => ?_)
    · have e := kk; simp only [s_X12_workRules_32, if_neg (c157)] at e ⊢; exact e
    · have q165 := q166 c157
      refine WP.iload_n rfl rfl ?_
      refine WP.nz_ne rfl (fun c158 => ?_) (fun c158 => ?_)
      · obtain ⟨o163, o164⟩ := q165.2 c158
        refine WP.aload_n rfl rfl ⟨by decide, by decide⟩ ?_
        refine WP.bipush rfl ?_
        refine WP.iload rfl rfl ?_
        refine WP.imulE rfl o163 ?_
        refine WP.iconst rfl ?_
        refine WP.iaddE rfl o164 ?_
        refine WP.putI rfl rfl ?_
        show WP 174 (298, [(14, 248), (0, s_X12_workRules_27 h), (0, s_X12_workRules_28 h), (0, s_X12_workRules_29 h), (0, (pm_upd (pm_upd (pm_upd h 248 8 0) 248 9 0) 257 0 0) 249 14), us155.getD 0 pU, us155.getD 1 pU, us155.getD 2 pU, us155.getD 3 pU], [], s_X12_workRules_31 h) Q'
        have e := kk; simp only [s_X12_workRules_32, if_pos c157, if_neg (c158)] at e ⊢; exact e
      · have q162 := q165.1 c158
        refine WP.iload_n rfl rfl ?_
        refine WP.nz_le rfl (fun c159 => ?_) (fun c159 => ?_)
        · have e := kk; simp only [s_X12_workRules_32, if_pos c157, if_pos c158, if_pos c159] at e ⊢; exact e
        · obtain ⟨o160, o161⟩ := q162 c159
          refine WP.aload_n rfl rfl ⟨by decide, by decide⟩ ?_
          refine WP.bipush rfl ?_
          refine WP.iload rfl rfl ?_
          refine WP.imulE rfl o160 ?_
          refine WP.iconst rfl ?_
          refine WP.iaddE rfl o161 ?_
          refine WP.putI rfl rfl ?_
          show WP 174 (298, [(14, 248), (0, s_X12_workRules_27 h), (0, s_X12_workRules_28 h), (0, s_X12_workRules_29 h), (0, (pm_upd (pm_upd (pm_upd h 248 8 0) 248 9 0) 257 0 0) 249 14), us155.getD 0 pU, us155.getD 1 pU, us155.getD 2 pU, us155.getD 3 pU], [], s_X12_workRules_31 h) Q'
          have e := kk; simp only [s_X12_workRules_32, if_pos c157, if_pos c158, if_neg (Int.not_le.mpr c159)] at e ⊢; exact e
  refine k156 _ ?_
  refine WP.aload_n rfl rfl ⟨by decide, by decide⟩ ?_
  refine WP.getI rfl rfl ?_
  refine WP.iconst rfl ?_
  have k169 : ∀ Q' : Option pV → pH → Prop, (WP 174 (311, [(14, 248), (0, s_X12_workRules_27 h), (0, s_X12_workRules_28 h), (0, s_X12_workRules_29 h), (0, (pm_upd (pm_upd (pm_upd h 248 8 0) 248 9 0) 257 0 0) 249 14), us155.getD 0 pU, us155.getD 1 pU, us155.getD 2 pU, us155.getD 3 pU], [], s_X12_workRules_34 h) Q') → WP 174 (301, [(14, 248), (0, s_X12_workRules_27 h), (0, s_X12_workRules_28 h), (0, s_X12_workRules_29 h), (0, (pm_upd (pm_upd (pm_upd h 248 8 0) 248 9 0) 257 0 0) 249 14), us155.getD 0 pU, us155.getD 1 pU, us155.getD 2 pU, us155.getD 3 pU], [(0, (-1)), (0, (s_X12_workRules_32 h) 248 12)], s_X12_workRules_32 h) Q' := fun Q' kk => by
    have q172 := q174
    refine WP.ni_ne rfl (fun c170 => ?_) (fun c170 => ?_)
    · have e := kk; simp only [s_X12_workRules_34, if_neg (c170)] at e ⊢; exact e
    · have o171 := q172 c170
      refine WP.aload_n rfl rfl ⟨by decide, by decide⟩ ?_
      refine WP.iconst rfl ?_
      refine WP.callF (c_X12_reduce 1 (s_X12_workRules_32 h) o171) rfl rfl (pm_cok rfl rfl (Or.inr ⟨_, _, rfl⟩) rfl rfl) rfl rfl ?_
      show WP 174 (305, [(14, 248), (0, s_X12_workRules_27 h), (0, s_X12_workRules_28 h), (0, s_X12_workRules_29 h), (0, (pm_upd (pm_upd (pm_upd h 248 8 0) 248 9 0) 257 0 0) 249 14), us155.getD 0 pU, us155.getD 1 pU, us155.getD 2 pU, us155.getD 3 pU], [], H_X12_reduce 1 (s_X12_workRules_32 h)) Q'
      refine WP.aload_n rfl rfl ⟨by decide, by decide⟩ ?_
      refine WP.aload_n rfl rfl ⟨by decide, by decide⟩ ?_
      refine WP.getRF (b := 255) rfl rfl rfl ?_
      refine WP.iconst rfl ?_
      refine WP.laload rfl ⟨by decide, by decide, by decide⟩ (by decide) ?_
      refine WP.putJ rfl rfl ?_
      show WP 174 (311, [(14, 248), (0, s_X12_workRules_27 h), (0, s_X12_workRules_28 h), (0, s_X12_workRules_29 h), (0, (pm_upd (pm_upd (pm_upd h 248 8 0) 248 9 0) 257 0 0) 249 14), us155.getD 0 pU, us155.getD 1 pU, us155.getD 2 pU, us155.getD 3 pU], [], s_X12_workRules_33 h) Q'
      have e := kk; simp only [s_X12_workRules_34, if_pos c170] at e ⊢; exact e
  refine k169 _ ?_
  refine WP.retv rfl ?_; exact kk
theorem c_X12_workRules (h : pH) (hp : P_X12_workRules h) : CP 174 [(14, 248)] h (fun r h1 => r = none ∧ h1 = H_X12_workRules h) := w_X12_workRules h hp ⟨rfl, rfl⟩
