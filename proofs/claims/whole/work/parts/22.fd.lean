def C_X12_failedOnes_4 (h : pH) (x1 : Int) (x2 : Int) : Prop := x2 < h 249 12
noncomputable def B_X12_failedOnes_4 (h : pH) (x1 : Int) (x2 : Int) : Int × Int := (x1 + (h 249 (144 + x2)), x2 + 1)
noncomputable def P_X12_failedOnes_4 (h : pH) (x1 : Int) (x2 : Int) : Prop := ((x2 < h 249 12) → (fx_i (144 + x2)) ∧ (P_X12_at (144 + x2) h) ∧ (fx_i (x1 + (h 249 (144 + x2)))) ∧ (fx_i (x2 + 1)))
noncomputable def L_X12_failedOnes_4 (h : pH) (x1 : Int) (x2 : Int) : Int × Int := fx_wh (σ := Int × Int) (fun s => C_X12_failedOnes_4 h s.1 s.2) (fun s => B_X12_failedOnes_4 h s.1 s.2) (x1, x2)
def O_X12_failedOnes_4 (h : pH) (x1 : Int) (x2 : Int) : Prop := fx_ok (σ := Int × Int) (fun s => C_X12_failedOnes_4 h s.1 s.2) (fun s => B_X12_failedOnes_4 h s.1 s.2) (fun s => P_X12_failedOnes_4 h s.1 s.2) (x1, x2)
set_option maxHeartbeats 4000000 in
theorem lp_X12_failedOnes_4 (h : pH) (x1 : Int) (x2 : Int) {Q : Option pV → pH → Prop} (hp : O_X12_failedOnes_4 h x1 x2) (kk : ∀ us : List pV, WP 169 (22, [(14, 248), (0, (L_X12_failedOnes_4 h x1 x2).1), (0, (L_X12_failedOnes_4 h x1 x2).2)], [], h) Q) : ∀ us : List pV, WP 169 (4, [(14, 248), (0, x1), (0, x2)], [], h) Q := by
  refine WP.wh (σ := Int × Int) (fun s => C_X12_failedOnes_4 h s.1 s.2) (fun s => B_X12_failedOnes_4 h s.1 s.2) (fun s => P_X12_failedOnes_4 h s.1 s.2) (fun s us => (4, [(14, 248), (0, s.1), (0, s.2)], [], h)) (x1, x2) hp ?_ ?_
  · intro s us hP hc kk
    obtain ⟨x1, x2⟩ := s
    change P_X12_failedOnes_4 h x1 x2 at hP
    change x2 < h 249 12 at hc
    replace kk : ∀ (us' : List pV) (s' : Int × Int), s' = B_X12_failedOnes_4 h x1 x2 → WP 169 (4, [(14, 248), (0, s'.1), (0, s'.2)], [], h) Q := fun us' s' e => by subst e; exact kk us'
    unfold P_X12_failedOnes_4 at hP
    obtain ⟨o3, o4, o5, o6⟩ := hP hc
    show WP 169 (4, [(14, 248), (0, x1), (0, x2)], [], h) Q
    refine WP.iload_n rfl rfl ?_
    refine WP.i2l rfl ?_
    refine WP.aload_n rfl rfl ⟨by decide, by decide⟩ ?_
    refine WP.getRF (b := 249) rfl rfl rfl ?_
    refine WP.bipush rfl ?_
    refine WP.laload rfl ⟨by decide, by decide, by decide⟩ (by decide) ?_
    refine WP.lcmp rfl ?_
    refine WP.nl_ge rfl (fun c2 => ?_) (fun c2 => ?_)
    · exact absurd hc (Int.not_lt.mpr c2)
    · refine WP.iload_n rfl rfl ?_
      refine WP.aload_n rfl rfl ⟨by decide, by decide⟩ ?_
      refine WP.sipush rfl ?_
      refine WP.iload_n rfl rfl ?_
      refine WP.iaddE rfl o3 ?_
      refine WP.callF (c_X12_at (144 + x2) h o4) rfl rfl (pm_cok rfl rfl (Or.inr ⟨_, _, rfl⟩) rfl rfl) rfl rfl ?_
      show WP 169 (18, [(14, 248), (0, x1), (0, x2)], [(0, h 249 (144 + x2)), (0, x1)], h) Q
      refine WP.iaddE rfl o5 ?_
      refine WP.istore_n (L' := [(14, 248), (0, x1 + (h 249 (144 + x2))), (0, x2)]) rfl rfl ?_
      refine WP.iincE (L' := [(14, 248), (0, x1 + (h 249 (144 + x2))), (0, x2 + 1)]) rfl rfl o6 rfl ?_
      refine WP.goto rfl ?_
      exact kk [] (x1 + (h 249 (144 + x2)), x2 + 1) (rfl)
  · intro hP hc
    generalize hs : (L_X12_failedOnes_4 h x1 x2 : Int × Int) = s at kk
    change P_X12_failedOnes_4 h (L_X12_failedOnes_4 h x1 x2).1 (L_X12_failedOnes_4 h x1 x2).2 at hP
    change ¬ C_X12_failedOnes_4 h (L_X12_failedOnes_4 h x1 x2).1 (L_X12_failedOnes_4 h x1 x2).2 at hc
    intro us
    show WP 169 (4, [(14, 248), (0, (L_X12_failedOnes_4 h x1 x2).1), (0, (L_X12_failedOnes_4 h x1 x2).2)], [], h) Q
    rw [hs] at hP hc ⊢
    obtain ⟨x1, x2⟩ := s
    change P_X12_failedOnes_4 h x1 x2 at hP
    change ¬ (x2 < h 249 12) at hc
    unfold P_X12_failedOnes_4 at hP
    show WP 169 (4, [(14, 248), (0, x1), (0, x2)], [], h) Q
    refine WP.iload_n rfl rfl ?_
    refine WP.i2l rfl ?_
    refine WP.aload_n rfl rfl ⟨by decide, by decide⟩ ?_
    refine WP.getRF (b := 249) rfl rfl rfl ?_
    refine WP.bipush rfl ?_
    refine WP.laload rfl ⟨by decide, by decide, by decide⟩ (by decide) ?_
    refine WP.lcmp rfl ?_
    refine WP.nl_ge rfl (fun c1 => ?_) (fun c1 => ?_)
    · exact kk []
    · exact absurd (show x2 < h 249 12 from c1) hc
noncomputable def F_X12_failedOnes (h : pH) : Int := (L_X12_failedOnes_4 h 0 0).1
noncomputable def P_X12_failedOnes (h : pH) : Prop := O_X12_failedOnes_4 h 0 0
set_option maxHeartbeats 4000000 in
theorem w_X12_failedOnes (h : pH) {Q : Option pV → pH → Prop} (hp : P_X12_failedOnes h) (kk : Q (some (0, F_X12_failedOnes h)) (h)) : WP 169 (0, [(14, 248), pU, pU], [], h) Q := by
  unfold P_X12_failedOnes at hp
  have o7 := hp
  refine WP.iconst rfl ?_
  refine WP.istore_n (L' := [(14, 248), (0, 0), pU]) rfl rfl ?_
  refine WP.iconst rfl ?_
  refine WP.istore_n (L' := [(14, 248), (0, 0), (0, 0)]) rfl rfl ?_
  refine lp_X12_failedOnes_4 h 0 0 o7 (fun us8 => ?_) []
  show WP 169 (22, [(14, 248), (0, (L_X12_failedOnes_4 h 0 0).1), (0, (L_X12_failedOnes_4 h 0 0).2)], [], h) Q
  refine WP.iload_n rfl rfl ?_
  refine WP.reti rfl ?_; exact kk
theorem c_X12_failedOnes (h : pH) (hp : P_X12_failedOnes h) : CP 169 [(14, 248)] h (fun r h1 => r = some (0, F_X12_failedOnes h) ∧ h1 = h) := w_X12_failedOnes h hp ⟨rfl, rfl⟩
noncomputable def F_X12_isDigit (a0 : Int) (h : pH) : Int := if 48 ≤ a0 ∧ a0 ≤ 57 then 1 else 0
set_option maxHeartbeats 4000000 in
theorem w_X12_isDigit (a0 : Int) (h : pH) {Q : Option pV → pH → Prop} (kk : Q (some (0, F_X12_isDigit a0 h)) (h)) : WP 173 (0, [(1, a0), pU], [], h) Q := by
  refine WP.lload_n rfl rfl ?_
  refine WP.ldc2_w rfl ?_
  refine WP.ldc2_w rfl ?_
  refine WP.callF (c_X12_in a0 48 57 h) rfl rfl (pm_cok rfl rfl (Or.inl rfl) rfl rfl) rfl rfl ?_
  show WP 173 (4, [(1, a0), pU], [(0, if 48 ≤ a0 ∧ a0 ≤ 57 then 1 else 0)], h) Q
  refine WP.retz rfl (fx_01 _) ?_; exact kk
theorem c_X12_isDigit (a0 : Int) (h : pH) : CP 173 [(1, a0)] h (fun r h1 => r = some (0, F_X12_isDigit a0 h) ∧ h1 = h) := w_X12_isDigit a0 h ⟨rfl, rfl⟩
noncomputable def s_X12_gauge_1 (a1 : Int) (h : pH) : Int := if h 249 8 = 0 then h 249 (20 + a1) else h 249 ((440 + (12 * ((h 249 8) - 1))) + a1)
noncomputable def F_X12_gauge (a1 : Int) (h : pH) : Int := s_X12_gauge_1 a1 h
noncomputable def P_X12_gauge (a1 : Int) (h : pH) : Prop := ((((h 249 8 = 0) → ((fx_i (20 + a1)) ∧ (0 ≤ 20 + a1 ∧ 20 + a1 < 620))) ∧ ((¬ h 249 8 = 0) → (P_X12_at 8 h ∧ (fx_i ((h 249 8) - 1)) ∧ (fx_i (12 * ((h 249 8) - 1))) ∧ (fx_i (440 + (12 * ((h 249 8) - 1)))) ∧ (fx_i ((440 + (12 * ((h 249 8) - 1))) + a1)) ∧ (0 ≤ (440 + (12 * ((h 249 8) - 1))) + a1 ∧ (440 + (12 * ((h 249 8) - 1))) + a1 < 620)))))
set_option maxHeartbeats 4000000 in
theorem w_X12_gauge (a1 : Int) (h : pH) {Q : Option pV → pH → Prop} (hp : P_X12_gauge a1 h) (kk : Q (some (1, F_X12_gauge a1 h)) (h)) : WP 176 (0, [(14, 248), (0, a1)], [], h) Q := by
  unfold P_X12_gauge at hp
  have q13 := hp
  refine WP.aload_n rfl rfl ⟨by decide, by decide⟩ ?_
  refine WP.getRF (b := 249) rfl rfl rfl ?_
  refine WP.bipush rfl ?_
  refine WP.laload rfl ⟨by decide, by decide, by decide⟩ (by decide) ?_
  refine WP.lconst rfl ?_
  refine WP.lcmp rfl ?_
  have k1 : ∀ Q' : Option pV → pH → Prop, (WP 176 (28, [(14, 248), (0, a1)], [(1, s_X12_gauge_1 a1 h)], h) Q') → WP 176 (6, [(14, 248), (0, a1)], [(0, pm_lcmp (h 249 8) 0)], h) Q' := fun Q' kk => by
    have q11 := q13
    refine WP.nl_ne rfl (fun c2 => ?_) (fun c2 => ?_)
    · obtain ⟨o5, o6, o7, o8, o9, o10⟩ := q11.2 c2
      refine WP.aload_n rfl rfl ⟨by decide, by decide⟩ ?_
      refine WP.getRF (b := 249) rfl rfl rfl ?_
      refine WP.sipush rfl ?_
      refine WP.bipush rfl ?_
      refine WP.aload_n rfl rfl ⟨by decide, by decide⟩ ?_
      refine WP.bipush rfl ?_
      refine WP.callF (c_X12_at 8 h o5) rfl rfl (pm_cok rfl rfl (Or.inr ⟨_, _, rfl⟩) rfl rfl) rfl rfl ?_
      show WP 176 (21, [(14, 248), (0, a1)], [(0, h 249 8), (0, 12), (0, 440), (3481, 249)], h) Q'
      refine WP.iconst rfl ?_
      refine WP.isubE rfl o6 ?_
      refine WP.imulE rfl o7 ?_
      refine WP.iaddE rfl o8 ?_
      refine WP.iload_n rfl rfl ?_
      refine WP.iaddE rfl o9 ?_
      refine WP.laload rfl ⟨by decide, by decide, by decide⟩ o10 ?_
      have e := kk; simp only [s_X12_gauge_1, if_neg (c2)] at e ⊢; exact e
    · obtain ⟨o3, o4⟩ := q11.1 c2
      refine WP.aload_n rfl rfl ⟨by decide, by decide⟩ ?_
      refine WP.getRF (b := 249) rfl rfl rfl ?_
      refine WP.bipush rfl ?_
      refine WP.iload_n rfl rfl ?_
      refine WP.iaddE rfl o3 ?_
      refine WP.laload rfl ⟨by decide, by decide, by decide⟩ o4 ?_
      refine WP.goto rfl ?_
      have e := kk; simp only [s_X12_gauge_1, if_pos c2] at e ⊢; exact e
  refine k1 _ ?_
  refine WP.retl rfl ?_; exact kk
theorem c_X12_gauge (a1 : Int) (h : pH) (hp : P_X12_gauge a1 h) : CP 176 [(14, 248), (0, a1)] h (fun r h1 => r = some (1, F_X12_gauge a1 h) ∧ h1 = h) := w_X12_gauge a1 h hp ⟨rfl, rfl⟩
noncomputable def F_X12_isOpen (a1 : Int) (h : pH) : Int := if h 249 (328 + a1) = 0 ∧ (h 249 (200 + a1) = 0 ∨ ((h 249 (248 + a1)) ≤ (h 249 15) ∧ (h 249 15) ≤ (h 249 (264 + a1)))) then 1 else 0
noncomputable def P_X12_isOpen (a1 : Int) (h : pH) : Prop := (fx_i (328 + a1)) ∧ (0 ≤ 328 + a1 ∧ 328 + a1 < 620) ∧ (((h 249 (328 + a1) = 0) → ((fx_i (200 + a1)) ∧ (0 ≤ 200 + a1 ∧ 200 + a1 < 620) ∧ ((¬ h 249 (200 + a1) = 0) → ((fx_i (248 + a1)) ∧ (0 ≤ 248 + a1 ∧ 248 + a1 < 620) ∧ (fx_i (264 + a1)) ∧ (0 ≤ 264 + a1 ∧ 264 + a1 < 620))))))
set_option maxHeartbeats 4000000 in
theorem w_X12_isOpen (a1 : Int) (h : pH) {Q : Option pV → pH → Prop} (hp : P_X12_isOpen a1 h) (kk : Q (some (0, F_X12_isOpen a1 h)) (h)) : WP 177 (0, [(14, 248), (0, a1)], [], h) Q := by
  unfold P_X12_isOpen at hp
  obtain ⟨o1, o2, q16⟩ := hp
  refine WP.aload_n rfl rfl ⟨by decide, by decide⟩ ?_
  refine WP.getRF (b := 249) rfl rfl rfl ?_
  refine WP.sipush rfl ?_
  refine WP.iload_n rfl rfl ?_
  refine WP.iaddE rfl o1 ?_
  refine WP.laload rfl ⟨by decide, by decide, by decide⟩ o2 ?_
  refine WP.lconst rfl ?_
  refine WP.lcmp rfl ?_
  have k3 : ∀ Q' : Option pV → pH → Prop, (WP 177 (39, [(14, 248), (0, a1)], [(0, if h 249 (328 + a1) = 0 ∧ (h 249 (200 + a1) = 0 ∨ ((h 249 (248 + a1)) ≤ (h 249 15) ∧ (h 249 15) ≤ (h 249 (264 + a1)))) then 1 else 0)], h) Q') → WP 177 (8, [(14, 248), (0, a1)], [(0, pm_lcmp (h 249 (328 + a1)) 0)], h) Q' := fun Q' kk => by
    have q14 := q16
    refine WP.nl_ne rfl (fun c4 => ?_) (fun c4 => ?_)
    · refine WP.iconst rfl ?_
      have e := kk; simp only [if_neg (c4), if_neg (show ¬ (h 249 (328 + a1) = 0 ∧ (h 249 (200 + a1) = 0 ∨ ((h 249 (248 + a1)) ≤ (h 249 15) ∧ (h 249 15) ≤ (h 249 (264 + a1))))) from fun q => (c4) q.1)] at e ⊢; exact e
    · obtain ⟨o5, o6, q13⟩ := q14 c4
      refine WP.aload_n rfl rfl ⟨by decide, by decide⟩ ?_
      refine WP.getRF (b := 249) rfl rfl rfl ?_
      refine WP.sipush rfl ?_
      refine WP.iload_n rfl rfl ?_
      refine WP.iaddE rfl o5 ?_
      refine WP.laload rfl ⟨by decide, by decide, by decide⟩ o6 ?_
      refine WP.lconst rfl ?_
      refine WP.lcmp rfl ?_
      refine WP.nl_eq rfl (fun c7 => ?_) (fun c7 => ?_)
      · refine WP.iconst rfl ?_
        refine WP.goto rfl ?_
        have e := kk; simp only [if_pos c4, if_pos c7, if_pos (show h 249 (328 + a1) = 0 ∧ (h 249 (200 + a1) = 0 ∨ ((h 249 (248 + a1)) ≤ (h 249 15) ∧ (h 249 15) ≤ (h 249 (264 + a1)))) from ⟨c4, Or.inl c7⟩)] at e ⊢; exact e
      · obtain ⟨o8, o9, o10, o11⟩ := q13 c7
        refine WP.aload_n rfl rfl ⟨by decide, by decide⟩ ?_
        refine WP.getRF (b := 249) rfl rfl rfl ?_
        refine WP.bipush rfl ?_
        refine WP.laload rfl ⟨by decide, by decide, by decide⟩ (by decide) ?_
        refine WP.aload_n rfl rfl ⟨by decide, by decide⟩ ?_
        refine WP.getRF (b := 249) rfl rfl rfl ?_
        refine WP.sipush rfl ?_
        refine WP.iload_n rfl rfl ?_
        refine WP.iaddE rfl o8 ?_
        refine WP.laload rfl ⟨by decide, by decide, by decide⟩ o9 ?_
        refine WP.aload_n rfl rfl ⟨by decide, by decide⟩ ?_
        refine WP.getRF (b := 249) rfl rfl rfl ?_
        refine WP.sipush rfl ?_
        refine WP.iload_n rfl rfl ?_
        refine WP.iaddE rfl o10 ?_
        refine WP.laload rfl ⟨by decide, by decide, by decide⟩ o11 ?_
        refine WP.callF (c_X12_in (h 249 15) (h 249 (248 + a1)) (h 249 (264 + a1)) h) rfl rfl (pm_cok rfl rfl (Or.inl rfl) rfl rfl) rfl rfl ?_
        show WP 177 (35, [(14, 248), (0, a1)], [(0, if (h 249 (248 + a1)) ≤ (h 249 15) ∧ (h 249 15) ≤ (h 249 (264 + a1)) then 1 else 0)], h) Q'
        refine WP.nb_eq rfl (fun c12 => ?_) (fun c12 => ?_)
        · refine WP.iconst rfl ?_
          have e := kk; simp only [if_pos c4, if_neg (c7), if_neg (c12), if_neg (show ¬ (h 249 (328 + a1) = 0 ∧ (h 249 (200 + a1) = 0 ∨ ((h 249 (248 + a1)) ≤ (h 249 15) ∧ (h 249 15) ≤ (h 249 (264 + a1))))) from fun q => (fun q => q.elim (c7) (c12)) q.2)] at e ⊢; exact e
        · refine WP.iconst rfl ?_
          refine WP.goto rfl ?_
          have e := kk; simp only [if_pos c4, if_neg (c7), if_pos c12, if_pos (show h 249 (328 + a1) = 0 ∧ (h 249 (200 + a1) = 0 ∨ ((h 249 (248 + a1)) ≤ (h 249 15) ∧ (h 249 15) ≤ (h 249 (264 + a1)))) from ⟨c4, Or.inr c12⟩)] at e ⊢; exact e
  refine k3 _ ?_
  refine WP.retz rfl (fx_01 _) ?_; exact kk
theorem c_X12_isOpen (a1 : Int) (h : pH) (hp : P_X12_isOpen a1 h) : CP 177 [(14, 248), (0, a1)] h (fun r h1 => r = some (0, F_X12_isOpen a1 h) ∧ h1 = h) := w_X12_isOpen a1 h hp ⟨rfl, rfl⟩
noncomputable def F_X12_isAhead (a1 : Int) (a2 : Int) (h : pH) : Int := if h 249 (174 + (h 249 (216 + a1))) = h 249 (174 + (h 249 (216 + a2))) then if (h 249 (216 + a1) = h 249 (216 + a2) ∧ a1 < a2) ∨ ((¬ h 249 (216 + a1) = h 249 (216 + a2)) ∧ h 249 (216 + a1) < h 249 (216 + a2)) then 1 else 0 else if h 249 (174 + (h 249 (216 + a1))) < h 249 (174 + (h 249 (216 + a2))) then 1 else 0
noncomputable def P_X12_isAhead (a1 : Int) (a2 : Int) (h : pH) : Prop := (fx_i (216 + a1)) ∧ (P_X12_at (216 + a1) h) ∧ (fx_i (174 + (h 249 (216 + a1)))) ∧ (0 ≤ 174 + (h 249 (216 + a1)) ∧ 174 + (h 249 (216 + a1)) < 620) ∧ (fx_i (216 + a2)) ∧ (P_X12_at (216 + a2) h) ∧ (fx_i (174 + (h 249 (216 + a2)))) ∧ (0 ≤ 174 + (h 249 (216 + a2)) ∧ 174 + (h 249 (216 + a2)) < 620) ∧ ((h 249 (174 + (h 249 (216 + a1))) = h 249 (174 + (h 249 (216 + a2)))) → ((0 ≤ 216 + a1 ∧ 216 + a1 < 620) ∧ (0 ≤ 216 + a2 ∧ 216 + a2 < 620)))
set_option maxHeartbeats 4000000 in
theorem w_X12_isAhead (a1 : Int) (a2 : Int) (h : pH) {Q : Option pV → pH → Prop} (hp : P_X12_isAhead a1 a2 h) (kk : Q (some (0, F_X12_isAhead a1 a2 h)) (h)) : WP 178 (0, [(14, 248), (0, a1), (0, a2), pU, pU, pU, pU], [], h) Q := by
  unfold P_X12_isAhead at hp
  obtain ⟨o1, o2, o3, o4, o5, o6, o7, o8, q20⟩ := hp
  refine WP.aload_n rfl rfl ⟨by decide, by decide⟩ ?_
  refine WP.getRF (b := 249) rfl rfl rfl ?_
  refine WP.sipush rfl ?_
  refine WP.aload_n rfl rfl ⟨by decide, by decide⟩ ?_
  refine WP.sipush rfl ?_
  refine WP.iload_n rfl rfl ?_
  refine WP.iaddE rfl o1 ?_
  refine WP.callF (c_X12_at (216 + a1) h o2) rfl rfl (pm_cok rfl rfl (Or.inr ⟨_, _, rfl⟩) rfl rfl) rfl rfl ?_
  show WP 178 (8, [(14, 248), (0, a1), (0, a2), pU, pU, pU, pU], [(0, h 249 (216 + a1)), (0, 174), (3481, 249)], h) Q
  refine WP.iaddE rfl o3 ?_
  refine WP.laload rfl ⟨by decide, by decide, by decide⟩ o4 ?_
  refine WP.lstore_n (L' := [(14, 248), (0, a1), (0, a2), (1, h 249 (174 + (h 249 (216 + a1)))), pU, pU, pU]) rfl rfl ?_
  refine WP.aload_n rfl rfl ⟨by decide, by decide⟩ ?_
  refine WP.getRF (b := 249) rfl rfl rfl ?_
  refine WP.sipush rfl ?_
  refine WP.aload_n rfl rfl ⟨by decide, by decide⟩ ?_
  refine WP.sipush rfl ?_
  refine WP.iload_n rfl rfl ?_
  refine WP.iaddE rfl o5 ?_
  refine WP.callF (c_X12_at (216 + a2) h o6) rfl rfl (pm_cok rfl rfl (Or.inr ⟨_, _, rfl⟩) rfl rfl) rfl rfl ?_
  show WP 178 (19, [(14, 248), (0, a1), (0, a2), (1, h 249 (174 + (h 249 (216 + a1)))), pU, pU, pU], [(0, h 249 (216 + a2)), (0, 174), (3481, 249)], h) Q
  refine WP.iaddE rfl o7 ?_
  refine WP.laload rfl ⟨by decide, by decide, by decide⟩ o8 ?_
  refine WP.lstore (L' := [(14, 248), (0, a1), (0, a2), (1, h 249 (174 + (h 249 (216 + a1)))), pU, (1, h 249 (174 + (h 249 (216 + a2)))), pU]) rfl rfl ?_
  refine WP.lload_n rfl rfl ?_
  refine WP.lload rfl rfl ?_
  refine WP.lcmp rfl ?_
  refine WP.nl_eq rfl (fun c9 => ?_) (fun c9 => ?_)
  · obtain ⟨o10, o11⟩ := q20 c9
    refine WP.aload_n rfl rfl ⟨by decide, by decide⟩ ?_
    refine WP.getRF (b := 249) rfl rfl rfl ?_
    refine WP.sipush rfl ?_
    refine WP.iload_n rfl rfl ?_
    refine WP.iaddE rfl o1 ?_
    refine WP.laload rfl ⟨by decide, by decide, by decide⟩ o10 ?_
    refine WP.aload_n rfl rfl ⟨by decide, by decide⟩ ?_
    refine WP.getRF (b := 249) rfl rfl rfl ?_
    refine WP.sipush rfl ?_
    refine WP.iload_n rfl rfl ?_
    refine WP.iaddE rfl o5 ?_
    refine WP.laload rfl ⟨by decide, by decide, by decide⟩ o11 ?_
    refine WP.lcmp rfl ?_
    have k12 : ∀ Q' : Option pV → pH → Prop, (WP 178 (72, [(14, 248), (0, a1), (0, a2), (1, h 249 (174 + (h 249 (216 + a1)))), pU, (1, h 249 (174 + (h 249 (216 + a2)))), pU], [(0, if (h 249 (216 + a1) = h 249 (216 + a2) ∧ a1 < a2) ∨ ((¬ h 249 (216 + a1) = h 249 (216 + a2)) ∧ h 249 (216 + a1) < h 249 (216 + a2)) then 1 else 0)], h) Q') → WP 178 (47, [(14, 248), (0, a1), (0, a2), (1, h 249 (174 + (h 249 (216 + a1)))), pU, (1, h 249 (174 + (h 249 (216 + a2)))), pU], [(0, pm_lcmp (h 249 (216 + a1)) (h 249 (216 + a2)))], h) Q' := fun Q' kk => by
      refine WP.nl_eq rfl (fun c13 => ?_) (fun c13 => ?_)
      · refine WP.iload_n rfl rfl ?_
        refine WP.iload_n rfl rfl ?_
        refine WP.ni_ge rfl (fun c14 => ?_) (fun c14 => ?_)
        · refine WP.iconst rfl ?_
          have e := kk; simp only [if_pos c13, if_pos c14, if_neg (show ¬ ((h 249 (216 + a1) = h 249 (216 + a2) ∧ a1 < a2) ∨ ((¬ h 249 (216 + a1) = h 249 (216 + a2)) ∧ h 249 (216 + a1) < h 249 (216 + a2))) from fun q => q.elim (fun q => (Int.not_lt.mpr c14) q.2) (fun q => (fun q => q c13) q.1))] at e ⊢; exact e
        · refine WP.iconst rfl ?_
          refine WP.goto rfl ?_
          have e := kk; simp only [if_pos c13, if_neg (Int.not_le.mpr c14), if_pos (show (h 249 (216 + a1) = h 249 (216 + a2) ∧ a1 < a2) ∨ ((¬ h 249 (216 + a1) = h 249 (216 + a2)) ∧ h 249 (216 + a1) < h 249 (216 + a2)) from Or.inl ⟨c13, c14⟩)] at e ⊢; exact e
      · refine WP.aload_n rfl rfl ⟨by decide, by decide⟩ ?_
        refine WP.getRF (b := 249) rfl rfl rfl ?_
        refine WP.sipush rfl ?_
        refine WP.iload_n rfl rfl ?_
        refine WP.iaddE rfl o1 ?_
        refine WP.laload rfl ⟨by decide, by decide, by decide⟩ o10 ?_
        refine WP.aload_n rfl rfl ⟨by decide, by decide⟩ ?_
        refine WP.getRF (b := 249) rfl rfl rfl ?_
        refine WP.sipush rfl ?_
        refine WP.iload_n rfl rfl ?_
        refine WP.iaddE rfl o5 ?_
        refine WP.laload rfl ⟨by decide, by decide, by decide⟩ o11 ?_
        refine WP.lcmp rfl ?_
        refine WP.nl_ge rfl (fun c15 => ?_) (fun c15 => ?_)
        · refine WP.iconst rfl ?_
          refine WP.goto rfl ?_
          have e := kk; simp only [if_neg (c13), if_pos c15, if_neg (show ¬ ((h 249 (216 + a1) = h 249 (216 + a2) ∧ a1 < a2) ∨ ((¬ h 249 (216 + a1) = h 249 (216 + a2)) ∧ h 249 (216 + a1) < h 249 (216 + a2))) from fun q => q.elim (fun q => (c13) q.1) (fun q => (Int.not_lt.mpr c15) q.2))] at e ⊢; exact e
        · refine WP.iconst rfl ?_
          refine WP.goto rfl ?_
          have e := kk; simp only [if_neg (c13), if_neg (Int.not_le.mpr c15), if_pos (show (h 249 (216 + a1) = h 249 (216 + a2) ∧ a1 < a2) ∨ ((¬ h 249 (216 + a1) = h 249 (216 + a2)) ∧ h 249 (216 + a1) < h 249 (216 + a2)) from Or.inr ⟨c13, c15⟩)] at e ⊢; exact e
    refine k12 _ ?_
    refine WP.retz rfl (fx_01 _) ?_; have e := kk; simp only [F_X12_isAhead, if_pos c9] at e ⊢; exact e
  · refine WP.lload_n rfl rfl ?_
    refine WP.lload rfl rfl ?_
    refine WP.lcmp rfl ?_
    have k17 : ∀ Q' : Option pV → pH → Prop, (WP 178 (33, [(14, 248), (0, a1), (0, a2), (1, h 249 (174 + (h 249 (216 + a1)))), pU, (1, h 249 (174 + (h 249 (216 + a2)))), pU], [(0, if h 249 (174 + (h 249 (216 + a1))) < h 249 (174 + (h 249 (216 + a2))) then 1 else 0)], h) Q') → WP 178 (29, [(14, 248), (0, a1), (0, a2), (1, h 249 (174 + (h 249 (216 + a1)))), pU, (1, h 249 (174 + (h 249 (216 + a2)))), pU], [(0, pm_lcmp (h 249 (174 + (h 249 (216 + a1)))) (h 249 (174 + (h 249 (216 + a2)))))], h) Q' := fun Q' kk => by
      refine WP.nl_ge rfl (fun c18 => ?_) (fun c18 => ?_)
      · refine WP.iconst rfl ?_
        have e := kk; simp only [if_pos c18, if_neg (show ¬ (h 249 (174 + (h 249 (216 + a1))) < h 249 (174 + (h 249 (216 + a2)))) from Int.not_lt.mpr c18)] at e ⊢; exact e
      · refine WP.iconst rfl ?_
        refine WP.goto rfl ?_
        have e := kk; simp only [if_neg (Int.not_le.mpr c18), if_pos (show h 249 (174 + (h 249 (216 + a1))) < h 249 (174 + (h 249 (216 + a2))) from c18)] at e ⊢; exact e
    refine k17 _ ?_
    refine WP.retz rfl (fx_01 _) ?_; have e := kk; simp only [F_X12_isAhead, if_neg (c9)] at e ⊢; exact e
theorem c_X12_isAhead (a1 : Int) (a2 : Int) (h : pH) (hp : P_X12_isAhead a1 a2 h) : CP 178 [(14, 248), (0, a1), (0, a2)] h (fun r h1 => r = some (0, F_X12_isAhead a1 a2 h) ∧ h1 = h) := w_X12_isAhead a1 a2 h hp ⟨rfl, rfl⟩
noncomputable def s_X12_place_1 (a1 : Int) (x2 : Int) (x3 : Int) (h : pH) : Int := if h 249 (154 + x3) = (-1) ∧ (h 249 (134 + x3) = 0 ∧ (h 249 (144 + x3) = 0 ∧ (h 249 (280 + a1) = (-1) ∨ h 249 (280 + a1) = x3))) then if x2 = (-1) then x3 else if h 261 (h 249 (84 + x2)) ≤ h 261 (h 249 (84 + x3)) then x2 else x3 else x2
def C_X12_place_4 (a1 : Int) (h : pH) (x2 : Int) (x3 : Int) : Prop := x3 < h 249 12
noncomputable def B_X12_place_4 (a1 : Int) (h : pH) (x2 : Int) (x3 : Int) : Int × Int := (s_X12_place_1 a1 x2 x3 h, x3 + 1)
noncomputable def P_X12_place_4 (a1 : Int) (h : pH) (x2 : Int) (x3 : Int) : Prop := ((x3 < h 249 12) → (fx_i (154 + x3)) ∧ (0 ≤ 154 + x3 ∧ 154 + x3 < 620) ∧ (((h 249 (154 + x3) = (-1)) → P_X12_mayHave x3 a1 h)) ∧ (((h 249 (154 + x3) = (-1) ∧ (h 249 (134 + x3) = 0 ∧ (h 249 (144 + x3) = 0 ∧ (h 249 (280 + a1) = (-1) ∨ h 249 (280 + a1) = x3)))) → (((¬ x2 = (-1)) → ((fx_i (84 + x3)) ∧ (P_X12_at (84 + x3) h) ∧ (0 ≤ h 249 (84 + x3) ∧ h 249 (84 + x3) < 12) ∧ (fx_i (84 + x2)) ∧ (P_X12_at (84 + x2) h) ∧ (0 ≤ h 249 (84 + x2) ∧ h 249 (84 + x2) < 12)))))) ∧ (fx_i (x3 + 1)))
noncomputable def L_X12_place_4 (a1 : Int) (h : pH) (x2 : Int) (x3 : Int) : Int × Int := fx_wh (σ := Int × Int) (fun s => C_X12_place_4 a1 h s.1 s.2) (fun s => B_X12_place_4 a1 h s.1 s.2) (x2, x3)
def O_X12_place_4 (a1 : Int) (h : pH) (x2 : Int) (x3 : Int) : Prop := fx_ok (σ := Int × Int) (fun s => C_X12_place_4 a1 h s.1 s.2) (fun s => B_X12_place_4 a1 h s.1 s.2) (fun s => P_X12_place_4 a1 h s.1 s.2) (x2, x3)
set_option maxHeartbeats 4000000 in
theorem lp_X12_place_4 (a1 : Int) (h : pH) (x2 : Int) (x3 : Int) {Q : Option pV → pH → Prop} (hp : O_X12_place_4 a1 h x2 x3) (kk : ∀ us : List pV, WP 181 (59, [(14, 248), (0, a1), (0, (L_X12_place_4 a1 h x2 x3).1), (0, (L_X12_place_4 a1 h x2 x3).2), us.getD 0 pU], [], h) Q) : ∀ us : List pV, WP 181 (4, [(14, 248), (0, a1), (0, x2), (0, x3), us.getD 0 pU], [], h) Q := by
  refine WP.wh (σ := Int × Int) (fun s => C_X12_place_4 a1 h s.1 s.2) (fun s => B_X12_place_4 a1 h s.1 s.2) (fun s => P_X12_place_4 a1 h s.1 s.2) (fun s us => (4, [(14, 248), (0, a1), (0, s.1), (0, s.2), us.getD 0 pU], [], h)) (x2, x3) hp ?_ ?_
  · intro s us hP hc kk
    obtain ⟨x2, x3⟩ := s
    change P_X12_place_4 a1 h x2 x3 at hP
    change x3 < h 249 12 at hc
    replace kk : ∀ (us' : List pV) (s' : Int × Int), s' = B_X12_place_4 a1 h x2 x3 → WP 181 (4, [(14, 248), (0, a1), (0, s'.1), (0, s'.2), us'.getD 0 pU], [], h) Q := fun us' s' e => by subst e; exact kk us'
    unfold P_X12_place_4 at hP
    obtain ⟨o3, o4, q11, q25, o26⟩ := hP hc
    show WP 181 (4, [(14, 248), (0, a1), (0, x2), (0, x3), us.getD 0 pU], [], h) Q
    refine WP.iload_n rfl rfl ?_
    refine WP.i2l rfl ?_
    refine WP.aload_n rfl rfl ⟨by decide, by decide⟩ ?_
    refine WP.getRF (b := 249) rfl rfl rfl ?_
    refine WP.bipush rfl ?_
    refine WP.laload rfl ⟨by decide, by decide, by decide⟩ (by decide) ?_
    refine WP.lcmp rfl ?_
    refine WP.nl_ge rfl (fun c2 => ?_) (fun c2 => ?_)
    · exact absurd hc (Int.not_lt.mpr c2)
    · refine WP.aload_n rfl rfl ⟨by decide, by decide⟩ ?_
      refine WP.getRF (b := 249) rfl rfl rfl ?_
      refine WP.sipush rfl ?_
      refine WP.iload_n rfl rfl ?_
      refine WP.iaddE rfl o3 ?_
      refine WP.laload rfl ⟨by decide, by decide, by decide⟩ o4 ?_
      refine WP.ldc2_w rfl ?_
      refine WP.lcmp rfl ?_
      have k5 : ∀ Q' : Option pV → pH → Prop, (WP 181 (29, [(14, 248), (0, a1), (0, x2), (0, x3), us.getD 0 pU], [(0, if h 249 (154 + x3) = (-1) ∧ (h 249 (134 + x3) = 0 ∧ (h 249 (144 + x3) = 0 ∧ (h 249 (280 + a1) = (-1) ∨ h 249 (280 + a1) = x3))) then 1 else 0)], h) Q') → WP 181 (20, [(14, 248), (0, a1), (0, x2), (0, x3), us.getD 0 pU], [(0, pm_lcmp (h 249 (154 + x3)) (-1))], h) Q' := fun Q' kk => by
        have q9 := q11
        refine WP.nl_ne rfl (fun c6 => ?_) (fun c6 => ?_)
        · refine WP.iconst rfl ?_
          have e := kk; simp only [if_neg (c6), if_neg (show ¬ (h 249 (154 + x3) = (-1) ∧ (h 249 (134 + x3) = 0 ∧ (h 249 (144 + x3) = 0 ∧ (h 249 (280 + a1) = (-1) ∨ h 249 (280 + a1) = x3)))) from fun q => (c6) q.1)] at e ⊢; exact e
        · have o7 := q9 c6
          refine WP.aload_n rfl rfl ⟨by decide, by decide⟩ ?_
          refine WP.iload_n rfl rfl ?_
          refine WP.iload_n rfl rfl ?_
          refine WP.callF (c_X12_mayHave x3 a1 h o7) rfl rfl (pm_cok rfl rfl (Or.inr ⟨_, _, rfl⟩) rfl rfl) rfl rfl ?_
          show WP 181 (25, [(14, 248), (0, a1), (0, x2), (0, x3), us.getD 0 pU], [(0, if h 249 (134 + x3) = 0 ∧ (h 249 (144 + x3) = 0 ∧ (h 249 (280 + a1) = (-1) ∨ h 249 (280 + a1) = x3)) then 1 else 0)], h) Q'
          refine WP.nb_eq rfl (fun c8 => ?_) (fun c8 => ?_)
          · refine WP.iconst rfl ?_
            have e := kk; simp only [if_pos c6, if_neg (c8), if_neg (show ¬ (h 249 (154 + x3) = (-1) ∧ (h 249 (134 + x3) = 0 ∧ (h 249 (144 + x3) = 0 ∧ (h 249 (280 + a1) = (-1) ∨ h 249 (280 + a1) = x3)))) from fun q => (c8) q.2)] at e ⊢; exact e
          · refine WP.iconst rfl ?_
            refine WP.goto rfl ?_
            have e := kk; simp only [if_pos c6, if_pos c8, if_pos (show h 249 (154 + x3) = (-1) ∧ (h 249 (134 + x3) = 0 ∧ (h 249 (144 + x3) = 0 ∧ (h 249 (280 + a1) = (-1) ∨ h 249 (280 + a1) = x3))) from ⟨c6, c8⟩)] at e ⊢; exact e
      refine k5 _ ?_
      refine WP.istore (L' := [(14, 248), (0, a1), (0, x2), (0, x3), (0, if h 249 (154 + x3) = (-1) ∧ (h 249 (134 + x3) = 0 ∧ (h 249 (144 + x3) = 0 ∧ (h 249 (280 + a1) = (-1) ∨ h 249 (280 + a1) = x3))) then 1 else 0)]) rfl rfl ?_
      refine WP.iload rfl rfl ?_
      have k12 : ∀ Q' : Option pV → pH → Prop, (WP 181 (56, [(14, 248), (0, a1), (0, x2), (0, x3), (0, if h 249 (154 + x3) = (-1) ∧ (h 249 (134 + x3) = 0 ∧ (h 249 (144 + x3) = 0 ∧ (h 249 (280 + a1) = (-1) ∨ h 249 (280 + a1) = x3))) then 1 else 0)], [(0, s_X12_place_1 a1 x2 x3 h)], h) Q') → WP 181 (31, [(14, 248), (0, a1), (0, x2), (0, x3), (0, if h 249 (154 + x3) = (-1) ∧ (h 249 (134 + x3) = 0 ∧ (h 249 (144 + x3) = 0 ∧ (h 249 (280 + a1) = (-1) ∨ h 249 (280 + a1) = x3))) then 1 else 0)], [(0, if h 249 (154 + x3) = (-1) ∧ (h 249 (134 + x3) = 0 ∧ (h 249 (144 + x3) = 0 ∧ (h 249 (280 + a1) = (-1) ∨ h 249 (280 + a1) = x3))) then 1 else 0)], h) Q' := fun Q' kk => by
        have q23 := q25
        refine WP.nb_eq rfl (fun c13 => ?_) (fun c13 => ?_)
        · refine WP.iload_n rfl rfl ?_
          have e := kk; simp only [s_X12_place_1, if_neg (c13)] at e ⊢; exact e
        · have q22 := q23 c13
          refine WP.iload_n rfl rfl ?_
          refine WP.iconst rfl ?_
          refine WP.ni_eq rfl (fun c14 => ?_) (fun c14 => ?_)
          · refine WP.iload_n rfl rfl ?_
            refine WP.goto rfl ?_
            have e := kk; simp only [s_X12_place_1, if_pos c13, if_pos c14] at e ⊢; exact e
          · obtain ⟨o15, o16, o17, o18, o19, o20⟩ := q22 c14
            refine WP.aload_n rfl rfl ⟨by decide, by decide⟩ ?_
            refine WP.getRF (b := 261) rfl rfl rfl ?_
            refine WP.aload_n rfl rfl ⟨by decide, by decide⟩ ?_
            refine WP.bipush rfl ?_
            refine WP.iload_n rfl rfl ?_
            refine WP.iaddE rfl o15 ?_
            refine WP.callF (c_X12_at (84 + x3) h o16) rfl rfl (pm_cok rfl rfl (Or.inr ⟨_, _, rfl⟩) rfl rfl) rfl rfl ?_
            show WP 181 (42, [(14, 248), (0, a1), (0, x2), (0, x3), (0, if h 249 (154 + x3) = (-1) ∧ (h 249 (134 + x3) = 0 ∧ (h 249 (144 + x3) = 0 ∧ (h 249 (280 + a1) = (-1) ∨ h 249 (280 + a1) = x3))) then 1 else 0)], [(0, h 249 (84 + x3)), (1049, 261)], h) Q'
            refine WP.laload rfl ⟨by decide, by decide, by decide⟩ o17 ?_
            refine WP.aload_n rfl rfl ⟨by decide, by decide⟩ ?_
            refine WP.getRF (b := 261) rfl rfl rfl ?_
            refine WP.aload_n rfl rfl ⟨by decide, by decide⟩ ?_
            refine WP.bipush rfl ?_
            refine WP.iload_n rfl rfl ?_
            refine WP.iaddE rfl o18 ?_
            refine WP.callF (c_X12_at (84 + x2) h o19) rfl rfl (pm_cok rfl rfl (Or.inr ⟨_, _, rfl⟩) rfl rfl) rfl rfl ?_
            show WP 181 (50, [(14, 248), (0, a1), (0, x2), (0, x3), (0, if h 249 (154 + x3) = (-1) ∧ (h 249 (134 + x3) = 0 ∧ (h 249 (144 + x3) = 0 ∧ (h 249 (280 + a1) = (-1) ∨ h 249 (280 + a1) = x3))) then 1 else 0)], [(0, h 249 (84 + x2)), (1049, 261), (1, h 261 (h 249 (84 + x3)))], h) Q'
            refine WP.laload rfl ⟨by decide, by decide, by decide⟩ o20 ?_
            refine WP.lcmp rfl ?_
            refine WP.nl_ge rfl (fun c21 => ?_) (fun c21 => ?_)
            · refine WP.iload_n rfl rfl ?_
              have e := kk; simp only [s_X12_place_1, if_pos c13, if_neg (c14), if_pos c21] at e ⊢; exact e
            · refine WP.iload_n rfl rfl ?_
              refine WP.goto rfl ?_
              have e := kk; simp only [s_X12_place_1, if_pos c13, if_neg (c14), if_neg (Int.not_le.mpr c21)] at e ⊢; exact e
      refine k12 _ ?_
      refine WP.istore_n (L' := [(14, 248), (0, a1), (0, s_X12_place_1 a1 x2 x3 h), (0, x3), (0, if h 249 (154 + x3) = (-1) ∧ (h 249 (134 + x3) = 0 ∧ (h 249 (144 + x3) = 0 ∧ (h 249 (280 + a1) = (-1) ∨ h 249 (280 + a1) = x3))) then 1 else 0)]) rfl rfl ?_
      refine WP.iincE (L' := [(14, 248), (0, a1), (0, s_X12_place_1 a1 x2 x3 h), (0, x3 + 1), (0, if h 249 (154 + x3) = (-1) ∧ (h 249 (134 + x3) = 0 ∧ (h 249 (144 + x3) = 0 ∧ (h 249 (280 + a1) = (-1) ∨ h 249 (280 + a1) = x3))) then 1 else 0)]) rfl rfl o26 rfl ?_
      refine WP.goto rfl ?_
      exact kk [(0, if h 249 (154 + x3) = (-1) ∧ (h 249 (134 + x3) = 0 ∧ (h 249 (144 + x3) = 0 ∧ (h 249 (280 + a1) = (-1) ∨ h 249 (280 + a1) = x3))) then 1 else 0)] (s_X12_place_1 a1 x2 x3 h, x3 + 1) (rfl)
  · intro hP hc
    generalize hs : (L_X12_place_4 a1 h x2 x3 : Int × Int) = s at kk
    change P_X12_place_4 a1 h (L_X12_place_4 a1 h x2 x3).1 (L_X12_place_4 a1 h x2 x3).2 at hP
    change ¬ C_X12_place_4 a1 h (L_X12_place_4 a1 h x2 x3).1 (L_X12_place_4 a1 h x2 x3).2 at hc
    intro us
    show WP 181 (4, [(14, 248), (0, a1), (0, (L_X12_place_4 a1 h x2 x3).1), (0, (L_X12_place_4 a1 h x2 x3).2), us.getD 0 pU], [], h) Q
    rw [hs] at hP hc ⊢
    obtain ⟨x2, x3⟩ := s
    change P_X12_place_4 a1 h x2 x3 at hP
    change ¬ (x3 < h 249 12) at hc
    unfold P_X12_place_4 at hP
    show WP 181 (4, [(14, 248), (0, a1), (0, x2), (0, x3), us.getD 0 pU], [], h) Q
    refine WP.iload_n rfl rfl ?_
    refine WP.i2l rfl ?_
    refine WP.aload_n rfl rfl ⟨by decide, by decide⟩ ?_
    refine WP.getRF (b := 249) rfl rfl rfl ?_
    refine WP.bipush rfl ?_
    refine WP.laload rfl ⟨by decide, by decide, by decide⟩ (by decide) ?_
    refine WP.lcmp rfl ?_
    refine WP.nl_ge rfl (fun c1 => ?_) (fun c1 => ?_)
    · exact kk [us.getD 0 pU]
    · exact absurd (show x3 < h 249 12 from c1) hc
noncomputable def s_X12_place_2 (a1 : Int) (h : pH) : pH := pm_upd (pm_upd h 249 (344 + a1) ((L_X12_place_4 a1 h (-1) 0).1)) 259 a1 1
noncomputable def s_X12_place_3 (a1 : Int) (h : pH) : pH := pm_upd (pm_upd h 249 (344 + a1) ((L_X12_place_4 a1 h (-1) 0).1)) 249 (154 + ((L_X12_place_4 a1 h (-1) 0).1)) a1
noncomputable def s_X12_place_4 (a1 : Int) (h : pH) : pH := if (L_X12_place_4 a1 h (-1) 0).1 = (-1) then s_X12_place_2 a1 h else s_X12_place_3 a1 h
noncomputable def H_X12_place (a1 : Int) (h : pH) : pH := s_X12_place_4 a1 h
noncomputable def P_X12_place (a1 : Int) (h : pH) : Prop := (O_X12_place_4 a1 h (-1) 0) ∧ (fx_i (344 + a1)) ∧ (0 ≤ 344 + a1 ∧ 344 + a1 < 620) ∧ (((((L_X12_place_4 a1 h (-1) 0).1 = (-1)) → ((0 ≤ a1 ∧ a1 < 16))) ∧ ((¬ (L_X12_place_4 a1 h (-1) 0).1 = (-1)) → ((fx_i (154 + ((L_X12_place_4 a1 h (-1) 0).1))) ∧ (0 ≤ 154 + ((L_X12_place_4 a1 h (-1) 0).1) ∧ 154 + ((L_X12_place_4 a1 h (-1) 0).1) < 620)))))
set_option maxHeartbeats 4000000 in
theorem w_X12_place (a1 : Int) (h : pH) {Q : Option pV → pH → Prop} (hp : P_X12_place a1 h) (kk : Q (none) (H_X12_place a1 h)) : WP 181 (0, [(14, 248), (0, a1), pU, pU, pU], [], h) Q := by
  unfold P_X12_place at hp
  obtain ⟨o27, o29, o30, q38⟩ := hp
  refine WP.iconst rfl ?_
  refine WP.istore_n (L' := [(14, 248), (0, a1), (0, (-1)), pU, pU]) rfl rfl ?_
  refine WP.iconst rfl ?_
  refine WP.istore_n (L' := [(14, 248), (0, a1), (0, (-1)), (0, 0), pU]) rfl rfl ?_
  refine lp_X12_place_4 a1 h (-1) 0 o27 (fun us28 => ?_) [pU]
  show WP 181 (59, [(14, 248), (0, a1), (0, (L_X12_place_4 a1 h (-1) 0).1), (0, (L_X12_place_4 a1 h (-1) 0).2), us28.getD 0 pU], [], h) Q
  refine WP.aload_n rfl rfl ⟨by decide, by decide⟩ ?_
  refine WP.getRF (b := 249) rfl rfl rfl ?_
  refine WP.sipush rfl ?_
  refine WP.iload_n rfl rfl ?_
  refine WP.iaddE rfl o29 ?_
  refine WP.iload_n rfl rfl ?_
  refine WP.i2l rfl ?_
  refine WP.lastore rfl ⟨by decide, by decide, by decide⟩ o30 ?_
  refine WP.iload_n rfl rfl ?_
  refine WP.iconst rfl ?_
  have k31 : ∀ Q' : Option pV → pH → Prop, (WP 181 (84, [(14, 248), (0, a1), (0, (L_X12_place_4 a1 h (-1) 0).1), (0, (L_X12_place_4 a1 h (-1) 0).2), us28.getD 0 pU], [], s_X12_place_4 a1 h) Q') → WP 181 (69, [(14, 248), (0, a1), (0, (L_X12_place_4 a1 h (-1) 0).1), (0, (L_X12_place_4 a1 h (-1) 0).2), us28.getD 0 pU], [(0, (-1)), (0, (L_X12_place_4 a1 h (-1) 0).1)], pm_upd h 249 (344 + a1) ((L_X12_place_4 a1 h (-1) 0).1)) Q' := fun Q' kk => by
    have q36 := q38
    refine WP.ni_ne rfl (fun c32 => ?_) (fun c32 => ?_)
    · obtain ⟨o34, o35⟩ := q36.2 c32
      refine WP.aload_n rfl rfl ⟨by decide, by decide⟩ ?_
      refine WP.getRF (b := 249) rfl rfl rfl ?_
      refine WP.sipush rfl ?_
      refine WP.iload_n rfl rfl ?_
      refine WP.iaddE rfl o34 ?_
      refine WP.iload_n rfl rfl ?_
      refine WP.i2l rfl ?_
      refine WP.lastore rfl ⟨by decide, by decide, by decide⟩ o35 ?_
      show WP 181 (84, [(14, 248), (0, a1), (0, (L_X12_place_4 a1 h (-1) 0).1), (0, (L_X12_place_4 a1 h (-1) 0).2), us28.getD 0 pU], [], s_X12_place_3 a1 h) Q'
      have e := kk; simp only [s_X12_place_4, if_neg (c32)] at e ⊢; exact e
    · have o33 := q36.1 c32
      refine WP.aload_n rfl rfl ⟨by decide, by decide⟩ ?_
      refine WP.getRF (b := 259) rfl rfl rfl ?_
      refine WP.iload_n rfl rfl ?_
      refine WP.iconst rfl ?_
      refine WP.iastore rfl ⟨by decide, by decide, by decide⟩ o33 ?_
      show WP 181 (75, [(14, 248), (0, a1), (0, (L_X12_place_4 a1 h (-1) 0).1), (0, (L_X12_place_4 a1 h (-1) 0).2), us28.getD 0 pU], [], s_X12_place_2 a1 h) Q'
      refine WP.goto rfl ?_
      have e := kk; simp only [s_X12_place_4, if_pos c32] at e ⊢; exact e
  refine k31 _ ?_
  refine WP.retv rfl ?_; exact kk
theorem c_X12_place (a1 : Int) (h : pH) (hp : P_X12_place a1 h) : CP 181 [(14, 248), (0, a1)] h (fun r h1 => r = none ∧ h1 = H_X12_place a1 h) := w_X12_place a1 h hp ⟨rfl, rfl⟩
noncomputable def s_X12_still_1 (a1 : Int) (a2 : Int) (h : pH) : pH := pm_upd (pm_upd h 249 (164 + a1) 0) 259 ((pm_upd h 249 (164 + a1) 0) 249 (154 + a1)) a2
noncomputable def H_X12_still (a1 : Int) (a2 : Int) (h : pH) : pH := s_X12_still_1 a1 a2 h
noncomputable def P_X12_still (a1 : Int) (a2 : Int) (h : pH) : Prop := (fx_i (164 + a1)) ∧ (0 ≤ 164 + a1 ∧ 164 + a1 < 620) ∧ (fx_i (154 + a1)) ∧ (P_X12_at (154 + a1) (pm_upd h 249 (164 + a1) 0)) ∧ (0 ≤ (pm_upd h 249 (164 + a1) 0) 249 (154 + a1) ∧ (pm_upd h 249 (164 + a1) 0) 249 (154 + a1) < 16)
set_option maxHeartbeats 4000000 in
theorem w_X12_still (a1 : Int) (a2 : Int) (h : pH) {Q : Option pV → pH → Prop} (hp : P_X12_still a1 a2 h) (kk : Q (none) (H_X12_still a1 a2 h)) : WP 183 (0, [(14, 248), (0, a1), (0, a2)], [], h) Q := by
  unfold P_X12_still at hp
  obtain ⟨o1, o2, o3, o4, o5⟩ := hp
  refine WP.aload_n rfl rfl ⟨by decide, by decide⟩ ?_
  refine WP.getRF (b := 249) rfl rfl rfl ?_
  refine WP.sipush rfl ?_
  refine WP.iload_n rfl rfl ?_
  refine WP.iaddE rfl o1 ?_
  refine WP.lconst rfl ?_
  refine WP.lastore rfl ⟨by decide, by decide, by decide⟩ o2 ?_
  refine WP.aload_n rfl rfl ⟨by decide, by decide⟩ ?_
  refine WP.getRF (b := 259) rfl rfl rfl ?_
  refine WP.aload_n rfl rfl ⟨by decide, by decide⟩ ?_
  refine WP.sipush rfl ?_
  refine WP.iload_n rfl rfl ?_
  refine WP.iaddE rfl o3 ?_
  refine WP.callF (c_X12_at (154 + a1) (pm_upd h 249 (164 + a1) 0) o4) rfl rfl (pm_cok rfl rfl (Or.inr ⟨_, _, rfl⟩) rfl rfl) rfl rfl ?_
  show WP 183 (14, [(14, 248), (0, a1), (0, a2)], [(0, (pm_upd h 249 (164 + a1) 0) 249 (154 + a1)), (1064, 259)], pm_upd h 249 (164 + a1) 0) Q
  refine WP.iload_n rfl rfl ?_
  refine WP.iastore rfl ⟨by decide, by decide, by decide⟩ o5 ?_
  show WP 183 (16, [(14, 248), (0, a1), (0, a2)], [], s_X12_still_1 a1 a2 h) Q
  refine WP.retv rfl ?_; exact kk
theorem c_X12_still (a1 : Int) (a2 : Int) (h : pH) (hp : P_X12_still a1 a2 h) : CP 183 [(14, 248), (0, a1), (0, a2)] h (fun r h1 => r = none ∧ h1 = H_X12_still a1 a2 h) := w_X12_still a1 a2 h hp ⟨rfl, rfl⟩
def C_X12_allDrawn_4 (h : pH) (x1 : Int) (x3 : Int) : Prop := x3 < h 249 12
noncomputable def B_X12_allDrawn_4 (h : pH) (x1 : Int) (x3 : Int) : Int × Int := (x1 + ((h 249 (164 + x3)) * (h 249 (104 + x3))), x3 + 1)
noncomputable def P_X12_allDrawn_4 (h : pH) (x1 : Int) (x3 : Int) : Prop := ((x3 < h 249 12) → P_X12_drawn x3 h ∧ (fx_l (x1 + ((h 249 (164 + x3)) * (h 249 (104 + x3))))) ∧ (fx_i (x3 + 1)))
noncomputable def L_X12_allDrawn_4 (h : pH) (x1 : Int) (x3 : Int) : Int × Int := fx_wh (σ := Int × Int) (fun s => C_X12_allDrawn_4 h s.1 s.2) (fun s => B_X12_allDrawn_4 h s.1 s.2) (x1, x3)
def O_X12_allDrawn_4 (h : pH) (x1 : Int) (x3 : Int) : Prop := fx_ok (σ := Int × Int) (fun s => C_X12_allDrawn_4 h s.1 s.2) (fun s => B_X12_allDrawn_4 h s.1 s.2) (fun s => P_X12_allDrawn_4 h s.1 s.2) (x1, x3)
set_option maxHeartbeats 4000000 in
theorem lp_X12_allDrawn_4 (h : pH) (x1 : Int) (x3 : Int) {Q : Option pV → pH → Prop} (hp : O_X12_allDrawn_4 h x1 x3) (kk : ∀ us : List pV, WP 186 (20, [(14, 248), (1, (L_X12_allDrawn_4 h x1 x3).1), pU, (0, (L_X12_allDrawn_4 h x1 x3).2)], [], h) Q) : ∀ us : List pV, WP 186 (4, [(14, 248), (1, x1), pU, (0, x3)], [], h) Q := by
  refine WP.wh (σ := Int × Int) (fun s => C_X12_allDrawn_4 h s.1 s.2) (fun s => B_X12_allDrawn_4 h s.1 s.2) (fun s => P_X12_allDrawn_4 h s.1 s.2) (fun s us => (4, [(14, 248), (1, s.1), pU, (0, s.2)], [], h)) (x1, x3) hp ?_ ?_
  · intro s us hP hc kk
    obtain ⟨x1, x3⟩ := s
    change P_X12_allDrawn_4 h x1 x3 at hP
    change x3 < h 249 12 at hc
    replace kk : ∀ (us' : List pV) (s' : Int × Int), s' = B_X12_allDrawn_4 h x1 x3 → WP 186 (4, [(14, 248), (1, s'.1), pU, (0, s'.2)], [], h) Q := fun us' s' e => by subst e; exact kk us'
    unfold P_X12_allDrawn_4 at hP
    obtain ⟨o3, o4, o5⟩ := hP hc
    show WP 186 (4, [(14, 248), (1, x1), pU, (0, x3)], [], h) Q
    refine WP.iload_n rfl rfl ?_
    refine WP.i2l rfl ?_
    refine WP.aload_n rfl rfl ⟨by decide, by decide⟩ ?_
    refine WP.getRF (b := 249) rfl rfl rfl ?_
    refine WP.bipush rfl ?_
    refine WP.laload rfl ⟨by decide, by decide, by decide⟩ (by decide) ?_
    refine WP.lcmp rfl ?_
    refine WP.nl_ge rfl (fun c2 => ?_) (fun c2 => ?_)
    · exact absurd hc (Int.not_lt.mpr c2)
    · refine WP.lload_n rfl rfl ?_
      refine WP.aload_n rfl rfl ⟨by decide, by decide⟩ ?_
      refine WP.iload_n rfl rfl ?_
      refine WP.callF (c_X12_drawn x3 h o3) rfl rfl (pm_cok rfl rfl (Or.inr ⟨_, _, rfl⟩) rfl rfl) rfl rfl ?_
      show WP 186 (16, [(14, 248), (1, x1), pU, (0, x3)], [(1, (h 249 (164 + x3)) * (h 249 (104 + x3))), (1, x1)], h) Q
      refine WP.laddE rfl o4 ?_
      refine WP.lstore_n (L' := [(14, 248), (1, x1 + ((h 249 (164 + x3)) * (h 249 (104 + x3)))), pU, (0, x3)]) rfl rfl ?_
      refine WP.iincE (L' := [(14, 248), (1, x1 + ((h 249 (164 + x3)) * (h 249 (104 + x3)))), pU, (0, x3 + 1)]) rfl rfl o5 rfl ?_
      refine WP.goto rfl ?_
      exact kk [] (x1 + ((h 249 (164 + x3)) * (h 249 (104 + x3))), x3 + 1) (rfl)
  · intro hP hc
    generalize hs : (L_X12_allDrawn_4 h x1 x3 : Int × Int) = s at kk
    change P_X12_allDrawn_4 h (L_X12_allDrawn_4 h x1 x3).1 (L_X12_allDrawn_4 h x1 x3).2 at hP
    change ¬ C_X12_allDrawn_4 h (L_X12_allDrawn_4 h x1 x3).1 (L_X12_allDrawn_4 h x1 x3).2 at hc
    intro us
    show WP 186 (4, [(14, 248), (1, (L_X12_allDrawn_4 h x1 x3).1), pU, (0, (L_X12_allDrawn_4 h x1 x3).2)], [], h) Q
    rw [hs] at hP hc ⊢
    obtain ⟨x1, x3⟩ := s
    change P_X12_allDrawn_4 h x1 x3 at hP
    change ¬ (x3 < h 249 12) at hc
    unfold P_X12_allDrawn_4 at hP
    show WP 186 (4, [(14, 248), (1, x1), pU, (0, x3)], [], h) Q
    refine WP.iload_n rfl rfl ?_
    refine WP.i2l rfl ?_
    refine WP.aload_n rfl rfl ⟨by decide, by decide⟩ ?_
    refine WP.getRF (b := 249) rfl rfl rfl ?_
    refine WP.bipush rfl ?_
    refine WP.laload rfl ⟨by decide, by decide, by decide⟩ (by decide) ?_
    refine WP.lcmp rfl ?_
    refine WP.nl_ge rfl (fun c1 => ?_) (fun c1 => ?_)
    · exact kk []
    · exact absurd (show x3 < h 249 12 from c1) hc
noncomputable def F_X12_allDrawn (h : pH) : Int := (L_X12_allDrawn_4 h 0 0).1
noncomputable def P_X12_allDrawn (h : pH) : Prop := O_X12_allDrawn_4 h 0 0
set_option maxHeartbeats 4000000 in
theorem w_X12_allDrawn (h : pH) {Q : Option pV → pH → Prop} (hp : P_X12_allDrawn h) (kk : Q (some (1, F_X12_allDrawn h)) (h)) : WP 186 (0, [(14, 248), pU, pU, pU], [], h) Q := by
  unfold P_X12_allDrawn at hp
  have o6 := hp
  refine WP.lconst rfl ?_
  refine WP.lstore_n (L' := [(14, 248), (1, 0), pU, pU]) rfl rfl ?_
  refine WP.iconst rfl ?_
  refine WP.istore_n (L' := [(14, 248), (1, 0), pU, (0, 0)]) rfl rfl ?_
  refine lp_X12_allDrawn_4 h 0 0 o6 (fun us7 => ?_) []
  show WP 186 (20, [(14, 248), (1, (L_X12_allDrawn_4 h 0 0).1), pU, (0, (L_X12_allDrawn_4 h 0 0).2)], [], h) Q
  refine WP.lload_n rfl rfl ?_
  refine WP.retl rfl ?_; exact kk
theorem c_X12_allDrawn (h : pH) (hp : P_X12_allDrawn h) : CP 186 [(14, 248)] h (fun r h1 => r = some (1, F_X12_allDrawn h) ∧ h1 = h) := w_X12_allDrawn h hp ⟨rfl, rfl⟩
noncomputable def s_X12_warm_1 (x1 : Int) (h : pH) : pH := pm_upd h 249 (20 + (h 249 (84 + x1))) ((h 249 (20 + (h 249 (84 + x1)))) + ((h 249 (164 + x1)) * (h 249 (94 + x1))))
def C_X12_warm_2 (x1 : Int) (h : pH) : Prop := x1 < h 249 12
noncomputable def B_X12_warm_2 (x1 : Int) (h : pH) : Int × pH := (x1 + 1, s_X12_warm_1 x1 h)
noncomputable def P_X12_warm_2 (x1 : Int) (h : pH) : Prop := ((x1 < h 249 12) → (fx_i (84 + x1)) ∧ (P_X12_at (84 + x1) h) ∧ (fx_i (20 + (h 249 (84 + x1)))) ∧ (0 ≤ 20 + (h 249 (84 + x1)) ∧ 20 + (h 249 (84 + x1)) < 620) ∧ (fx_i (164 + x1)) ∧ (0 ≤ 164 + x1 ∧ 164 + x1 < 620) ∧ (fx_i (94 + x1)) ∧ (0 ≤ 94 + x1 ∧ 94 + x1 < 620) ∧ (fx_l ((h 249 (164 + x1)) * (h 249 (94 + x1)))) ∧ (fx_l ((h 249 (20 + (h 249 (84 + x1)))) + ((h 249 (164 + x1)) * (h 249 (94 + x1))))) ∧ (fx_i (x1 + 1)))
noncomputable def L_X12_warm_2 (x1 : Int) (h : pH) : Int × pH := fx_wh (σ := Int × pH) (fun s => C_X12_warm_2 s.1 s.2) (fun s => B_X12_warm_2 s.1 s.2) (x1, h)
def O_X12_warm_2 (x1 : Int) (h : pH) : Prop := fx_ok (σ := Int × pH) (fun s => C_X12_warm_2 s.1 s.2) (fun s => B_X12_warm_2 s.1 s.2) (fun s => P_X12_warm_2 s.1 s.2) (x1, h)
set_option maxHeartbeats 4000000 in
theorem lp_X12_warm_2 (x1 : Int) (h : pH) {Q : Option pV → pH → Prop} (hp : O_X12_warm_2 x1 h) (kk : ∀ us : List pV, WP 188 (38, [(14, 248), (0, (L_X12_warm_2 x1 h).1), us.getD 0 pU, us.getD 1 pU], [], (L_X12_warm_2 x1 h).2) Q) : ∀ us : List pV, WP 188 (2, [(14, 248), (0, x1), us.getD 0 pU, us.getD 1 pU], [], h) Q := by
  refine WP.wh (σ := Int × pH) (fun s => C_X12_warm_2 s.1 s.2) (fun s => B_X12_warm_2 s.1 s.2) (fun s => P_X12_warm_2 s.1 s.2) (fun s us => (2, [(14, 248), (0, s.1), us.getD 0 pU, us.getD 1 pU], [], s.2)) (x1, h) hp ?_ ?_
  · intro s us hP hc kk
    obtain ⟨x1, h⟩ := s
    change P_X12_warm_2 x1 h at hP
    change x1 < h 249 12 at hc
    replace kk : ∀ (us' : List pV) (s' : Int × pH), s' = B_X12_warm_2 x1 h → WP 188 (2, [(14, 248), (0, s'.1), us'.getD 0 pU, us'.getD 1 pU], [], s'.2) Q := fun us' s' e => by subst e; exact kk us'
    unfold P_X12_warm_2 at hP
    obtain ⟨o3, o4, o5, o6, o7, o8, o9, o10, o11, o12, o13⟩ := hP hc
    show WP 188 (2, [(14, 248), (0, x1), us.getD 0 pU, us.getD 1 pU], [], h) Q
    refine WP.iload_n rfl rfl ?_
    refine WP.i2l rfl ?_
    refine WP.aload_n rfl rfl ⟨by decide, by decide⟩ ?_
    refine WP.getRF (b := 249) rfl rfl rfl ?_
    refine WP.bipush rfl ?_
    refine WP.laload rfl ⟨by decide, by decide, by decide⟩ (by decide) ?_
    refine WP.lcmp rfl ?_
    refine WP.nl_ge rfl (fun c2 => ?_) (fun c2 => ?_)
    · exact absurd hc (Int.not_lt.mpr c2)
    · refine WP.aload_n rfl rfl ⟨by decide, by decide⟩ ?_
      refine WP.getRF (b := 249) rfl rfl rfl ?_
      refine WP.bipush rfl ?_
      refine WP.aload_n rfl rfl ⟨by decide, by decide⟩ ?_
      refine WP.bipush rfl ?_
      refine WP.iload_n rfl rfl ?_
      refine WP.iaddE rfl o3 ?_
      refine WP.callF (c_X12_at (84 + x1) h o4) rfl rfl (pm_cok rfl rfl (Or.inr ⟨_, _, rfl⟩) rfl rfl) rfl rfl ?_
      show WP 188 (18, [(14, 248), (0, x1), us.getD 0 pU, us.getD 1 pU], [(0, h 249 (84 + x1)), (0, 20), (3481, 249)], h) Q
      refine WP.iaddE rfl o5 ?_
      refine WP.dup2 rfl (by decide) (by decide) ?_
      refine WP.laload rfl ⟨by decide, by decide, by decide⟩ o6 ?_
      refine WP.aload_n rfl rfl ⟨by decide, by decide⟩ ?_
      refine WP.getRF (b := 249) rfl rfl rfl ?_
      refine WP.sipush rfl ?_
      refine WP.iload_n rfl rfl ?_
      refine WP.iaddE rfl o7 ?_
      refine WP.laload rfl ⟨by decide, by decide, by decide⟩ o8 ?_
      refine WP.aload_n rfl rfl ⟨by decide, by decide⟩ ?_
      refine WP.getRF (b := 249) rfl rfl rfl ?_
      refine WP.bipush rfl ?_
      refine WP.iload_n rfl rfl ?_
      refine WP.iaddE rfl o9 ?_
      refine WP.laload rfl ⟨by decide, by decide, by decide⟩ o10 ?_
      refine WP.lmulE rfl o11 ?_
      refine WP.laddE rfl o12 ?_
      refine WP.lastore rfl ⟨by decide, by decide, by decide⟩ o6 ?_
      show WP 188 (36, [(14, 248), (0, x1), us.getD 0 pU, us.getD 1 pU], [], s_X12_warm_1 x1 h) Q
      refine WP.iincE (L' := [(14, 248), (0, x1 + 1), us.getD 0 pU, us.getD 1 pU]) rfl rfl o13 rfl ?_
      refine WP.goto rfl ?_
      exact kk [us.getD 0 pU, us.getD 1 pU] (x1 + 1, s_X12_warm_1 x1 h) (rfl)
  · intro hP hc
    generalize hs : (L_X12_warm_2 x1 h : Int × pH) = s at kk
    change P_X12_warm_2 (L_X12_warm_2 x1 h).1 (L_X12_warm_2 x1 h).2 at hP
    change ¬ C_X12_warm_2 (L_X12_warm_2 x1 h).1 (L_X12_warm_2 x1 h).2 at hc
    intro us
    show WP 188 (2, [(14, 248), (0, (L_X12_warm_2 x1 h).1), us.getD 0 pU, us.getD 1 pU], [], (L_X12_warm_2 x1 h).2) Q
    rw [hs] at hP hc ⊢
    obtain ⟨x1, h⟩ := s
    change P_X12_warm_2 x1 h at hP
    change ¬ (x1 < h 249 12) at hc
    unfold P_X12_warm_2 at hP
    show WP 188 (2, [(14, 248), (0, x1), us.getD 0 pU, us.getD 1 pU], [], h) Q
    refine WP.iload_n rfl rfl ?_
    refine WP.i2l rfl ?_
    refine WP.aload_n rfl rfl ⟨by decide, by decide⟩ ?_
    refine WP.getRF (b := 249) rfl rfl rfl ?_
    refine WP.bipush rfl ?_
    refine WP.laload rfl ⟨by decide, by decide, by decide⟩ (by decide) ?_
    refine WP.lcmp rfl ?_
    refine WP.nl_ge rfl (fun c1 => ?_) (fun c1 => ?_)
    · exact kk [us.getD 0 pU, us.getD 1 pU]
    · exact absurd (show x1 < h 249 12 from c1) hc
noncomputable def s_X12_warm_2 (x1 : Int) (h : pH) : pH := pm_upd h 262 x1 (-(Int.tdiv (((h 249 (20 + x1)) - (h 249 0)) * (h 249 1)) 1000))
def C_X12_warm_40 (x1 : Int) (h : pH) : Prop := x1 < 12
noncomputable def B_X12_warm_40 (x1 : Int) (h : pH) : Int × pH := (x1 + 1, s_X12_warm_2 x1 h)
noncomputable def P_X12_warm_40 (x1 : Int) (h : pH) : Prop := ((x1 < 12) → (fx_i (20 + x1)) ∧ (0 ≤ 20 + x1 ∧ 20 + x1 < 620) ∧ (fx_l ((h 249 (20 + x1)) - (h 249 0))) ∧ (fx_l (((h 249 (20 + x1)) - (h 249 0)) * (h 249 1))) ∧ (fx_l (Int.tdiv (((h 249 (20 + x1)) - (h 249 0)) * (h 249 1)) 1000)) ∧ (fx_l (-(Int.tdiv (((h 249 (20 + x1)) - (h 249 0)) * (h 249 1)) 1000))) ∧ (0 ≤ x1 ∧ x1 < 12) ∧ (fx_i (x1 + 1)))
noncomputable def L_X12_warm_40 (x1 : Int) (h : pH) : Int × pH := fx_wh (σ := Int × pH) (fun s => C_X12_warm_40 s.1 s.2) (fun s => B_X12_warm_40 s.1 s.2) (x1, h)
def O_X12_warm_40 (x1 : Int) (h : pH) : Prop := fx_ok (σ := Int × pH) (fun s => C_X12_warm_40 s.1 s.2) (fun s => B_X12_warm_40 s.1 s.2) (fun s => P_X12_warm_40 s.1 s.2) (x1, h)
set_option maxHeartbeats 4000000 in
theorem lp_X12_warm_40 (x1 : Int) (h : pH) {Q : Option pV → pH → Prop} (hp : O_X12_warm_40 x1 h) (kk : ∀ us : List pV, WP 188 (68, [(14, 248), (0, (L_X12_warm_40 x1 h).1), us.getD 0 pU, us.getD 1 pU], [], (L_X12_warm_40 x1 h).2) Q) : ∀ us : List pV, WP 188 (40, [(14, 248), (0, x1), us.getD 0 pU, us.getD 1 pU], [], h) Q := by
  refine WP.wh (σ := Int × pH) (fun s => C_X12_warm_40 s.1 s.2) (fun s => B_X12_warm_40 s.1 s.2) (fun s => P_X12_warm_40 s.1 s.2) (fun s us => (40, [(14, 248), (0, s.1), us.getD 0 pU, us.getD 1 pU], [], s.2)) (x1, h) hp ?_ ?_
  · intro s us hP hc kk
    obtain ⟨x1, h⟩ := s
    change P_X12_warm_40 x1 h at hP
    change x1 < 12 at hc
    replace kk : ∀ (us' : List pV) (s' : Int × pH), s' = B_X12_warm_40 x1 h → WP 188 (40, [(14, 248), (0, s'.1), us'.getD 0 pU, us'.getD 1 pU], [], s'.2) Q := fun us' s' e => by subst e; exact kk us'
    unfold P_X12_warm_40 at hP
    obtain ⟨o18, o19, o20, o21, o22, o23, o24, o25⟩ := hP hc
    show WP 188 (40, [(14, 248), (0, x1), us.getD 0 pU, us.getD 1 pU], [], h) Q
    refine WP.iload_n rfl rfl ?_
    refine WP.bipush rfl ?_
    refine WP.ni_ge rfl (fun c17 => ?_) (fun c17 => ?_)
    · exact absurd hc (Int.not_lt.mpr c17)
    · refine WP.aload_n rfl rfl ⟨by decide, by decide⟩ ?_
      refine WP.getRF (b := 262) rfl rfl rfl ?_
      refine WP.iload_n rfl rfl ?_
      refine WP.aload_n rfl rfl ⟨by decide, by decide⟩ ?_
      refine WP.getRF (b := 249) rfl rfl rfl ?_
      refine WP.bipush rfl ?_
      refine WP.iload_n rfl rfl ?_
      refine WP.iaddE rfl o18 ?_
      refine WP.laload rfl ⟨by decide, by decide, by decide⟩ o19 ?_
      refine WP.aload_n rfl rfl ⟨by decide, by decide⟩ ?_
      refine WP.getRF (b := 249) rfl rfl rfl ?_
      refine WP.iconst rfl ?_
      refine WP.laload rfl ⟨by decide, by decide, by decide⟩ (by decide) ?_
      refine WP.lsubE rfl o20 ?_
      refine WP.aload_n rfl rfl ⟨by decide, by decide⟩ ?_
      refine WP.getRF (b := 249) rfl rfl rfl ?_
      refine WP.iconst rfl ?_
      refine WP.laload rfl ⟨by decide, by decide, by decide⟩ (by decide) ?_
      refine WP.lmulE rfl o21 ?_
      refine WP.ldc2_w rfl ?_
      refine WP.ldivE rfl (show (1000 : Int) ≠ 0 by decide) o22 ?_
      refine WP.lnegE rfl o23 ?_
      refine WP.lastore rfl ⟨by decide, by decide, by decide⟩ o24 ?_
      show WP 188 (66, [(14, 248), (0, x1), us.getD 0 pU, us.getD 1 pU], [], s_X12_warm_2 x1 h) Q
      refine WP.iincE (L' := [(14, 248), (0, x1 + 1), us.getD 0 pU, us.getD 1 pU]) rfl rfl o25 rfl ?_
      refine WP.goto rfl ?_
      exact kk [us.getD 0 pU, us.getD 1 pU] (x1 + 1, s_X12_warm_2 x1 h) (rfl)
  · intro hP hc
    generalize hs : (L_X12_warm_40 x1 h : Int × pH) = s at kk
    change P_X12_warm_40 (L_X12_warm_40 x1 h).1 (L_X12_warm_40 x1 h).2 at hP
    change ¬ C_X12_warm_40 (L_X12_warm_40 x1 h).1 (L_X12_warm_40 x1 h).2 at hc
    intro us
    show WP 188 (40, [(14, 248), (0, (L_X12_warm_40 x1 h).1), us.getD 0 pU, us.getD 1 pU], [], (L_X12_warm_40 x1 h).2) Q
    rw [hs] at hP hc ⊢
    obtain ⟨x1, h⟩ := s
    change P_X12_warm_40 x1 h at hP
    change ¬ (x1 < 12) at hc
    unfold P_X12_warm_40 at hP
    show WP 188 (40, [(14, 248), (0, x1), us.getD 0 pU, us.getD 1 pU], [], h) Q
    refine WP.iload_n rfl rfl ?_
    refine WP.bipush rfl ?_
    refine WP.ni_ge rfl (fun c16 => ?_) (fun c16 => ?_)
    · exact kk [us.getD 0 pU, us.getD 1 pU]
    · exact absurd (show x1 < 12 from c16) hc
noncomputable def s_X12_warm_3 (h : pH) : Int := (L_X12_warm_40 0 ((L_X12_warm_2 0 h).2)).1
noncomputable def s_X12_warm_4 (h : pH) : pH := (L_X12_warm_40 0 ((L_X12_warm_2 0 h).2)).2
noncomputable def s_X12_warm_5 (x1 : Int) : Int := if 3 ≤ Int.tmod x1 4 then (-1) else x1 + 1
noncomputable def s_X12_warm_6 (x1 : Int) : Int := if 12 ≤ x1 + 4 then (-1) else x1 + 4
noncomputable def s_X12_warm_7 (x1 : Int) (h : pH) : pH := H_X12_exchange x1 (s_X12_warm_6 x1) (H_X12_exchange x1 (s_X12_warm_5 x1) h)
def C_X12_warm_70 (x1 : Int) (h : pH) : Prop := x1 < 12
noncomputable def B_X12_warm_70 (x1 : Int) (h : pH) : Int × pH := (x1 + 1, s_X12_warm_7 x1 h)
noncomputable def P_X12_warm_70 (x1 : Int) (h : pH) : Prop := ((x1 < 12) → (((Int.tmod x1 4 < 3) → ((fx_i (x1 + 1))))) ∧ (P_X12_exchange x1 (s_X12_warm_5 x1) h) ∧ (fx_i (x1 + 4)) ∧ (P_X12_exchange x1 (s_X12_warm_6 x1) (H_X12_exchange x1 (s_X12_warm_5 x1) h)) ∧ (fx_i (x1 + 1)))
noncomputable def L_X12_warm_70 (x1 : Int) (h : pH) : Int × pH := fx_wh (σ := Int × pH) (fun s => C_X12_warm_70 s.1 s.2) (fun s => B_X12_warm_70 s.1 s.2) (x1, h)
def O_X12_warm_70 (x1 : Int) (h : pH) : Prop := fx_ok (σ := Int × pH) (fun s => C_X12_warm_70 s.1 s.2) (fun s => B_X12_warm_70 s.1 s.2) (fun s => P_X12_warm_70 s.1 s.2) (x1, h)
set_option maxHeartbeats 4000000 in
theorem lp_X12_warm_70 (x1 : Int) (h : pH) {Q : Option pV → pH → Prop} (hp : O_X12_warm_70 x1 h) (kk : ∀ us : List pV, WP 188 (101, [(14, 248), (0, (L_X12_warm_70 x1 h).1), us.getD 0 pU, us.getD 1 pU], [], (L_X12_warm_70 x1 h).2) Q) : ∀ us : List pV, WP 188 (70, [(14, 248), (0, x1), us.getD 0 pU, us.getD 1 pU], [], h) Q := by
  refine WP.wh (σ := Int × pH) (fun s => C_X12_warm_70 s.1 s.2) (fun s => B_X12_warm_70 s.1 s.2) (fun s => P_X12_warm_70 s.1 s.2) (fun s us => (70, [(14, 248), (0, s.1), us.getD 0 pU, us.getD 1 pU], [], s.2)) (x1, h) hp ?_ ?_
  · intro s us hP hc kk
    obtain ⟨x1, h⟩ := s
    change P_X12_warm_70 x1 h at hP
    change x1 < 12 at hc
    replace kk : ∀ (us' : List pV) (s' : Int × pH), s' = B_X12_warm_70 x1 h → WP 188 (70, [(14, 248), (0, s'.1), us'.getD 0 pU, us'.getD 1 pU], [], s'.2) Q := fun us' s' e => by subst e; exact kk us'
    unfold P_X12_warm_70 at hP
    obtain ⟨q35, o36, o37, o41, o42⟩ := hP hc
    show WP 188 (70, [(14, 248), (0, x1), us.getD 0 pU, us.getD 1 pU], [], h) Q
    refine WP.iload_n rfl rfl ?_
    refine WP.bipush rfl ?_
    refine WP.ni_ge rfl (fun c29 => ?_) (fun c29 => ?_)
    · exact absurd hc (Int.not_lt.mpr c29)
    · refine WP.aload_n rfl rfl ⟨by decide, by decide⟩ ?_
      refine WP.iload_n rfl rfl ?_
      refine WP.iload_n rfl rfl ?_
      refine WP.iconst rfl ?_
      refine WP.irem rfl (show (4 : Int) ≠ 0 by decide) ?_
      refine WP.iconst rfl ?_
      have k30 : ∀ Q' : Option pV → pH → Prop, (WP 188 (85, [(14, 248), (0, x1), us.getD 0 pU, us.getD 1 pU], [(0, s_X12_warm_5 x1), (0, x1), (14, 248)], h) Q') → WP 188 (79, [(14, 248), (0, x1), us.getD 0 pU, us.getD 1 pU], [(0, 3), (0, Int.tmod x1 4), (0, x1), (14, 248)], h) Q' := fun Q' kk => by
        have q33 := q35
        refine WP.ni_ge rfl (fun c31 => ?_) (fun c31 => ?_)
        · refine WP.iconst rfl ?_
          have e := kk; simp only [s_X12_warm_5, if_pos c31] at e ⊢; exact e
        · have o32 := q33 c31
          refine WP.iload_n rfl rfl ?_
          refine WP.iconst rfl ?_
          refine WP.iaddE rfl o32 ?_
          refine WP.goto rfl ?_
          have e := kk; simp only [s_X12_warm_5, if_neg (Int.not_le.mpr c31)] at e ⊢; exact e
      refine k30 _ ?_
      refine WP.callF (c_X12_exchange x1 (s_X12_warm_5 x1) h o36) rfl rfl (pm_cok rfl rfl (Or.inr ⟨_, _, rfl⟩) rfl rfl) rfl rfl ?_
      show WP 188 (86, [(14, 248), (0, x1), us.getD 0 pU, us.getD 1 pU], [], H_X12_exchange x1 (s_X12_warm_5 x1) h) Q
      refine WP.aload_n rfl rfl ⟨by decide, by decide⟩ ?_
      refine WP.iload_n rfl rfl ?_
      refine WP.iload_n rfl rfl ?_
      refine WP.iconst rfl ?_
      refine WP.iaddE rfl o37 ?_
      refine WP.bipush rfl ?_
      have k38 : ∀ Q' : Option pV → pH → Prop, (WP 188 (98, [(14, 248), (0, x1), us.getD 0 pU, us.getD 1 pU], [(0, s_X12_warm_6 x1), (0, x1), (14, 248)], H_X12_exchange x1 (s_X12_warm_5 x1) h) Q') → WP 188 (92, [(14, 248), (0, x1), us.getD 0 pU, us.getD 1 pU], [(0, 12), (0, x1 + 4), (0, x1), (14, 248)], H_X12_exchange x1 (s_X12_warm_5 x1) h) Q' := fun Q' kk => by
        refine WP.ni_ge rfl (fun c39 => ?_) (fun c39 => ?_)
        · refine WP.iconst rfl ?_
          have e := kk; simp only [s_X12_warm_6, if_pos c39] at e ⊢; exact e
        · refine WP.iload_n rfl rfl ?_
          refine WP.iconst rfl ?_
          refine WP.iaddE rfl o37 ?_
          refine WP.goto rfl ?_
          have e := kk; simp only [s_X12_warm_6, if_neg (Int.not_le.mpr c39)] at e ⊢; exact e
      refine k38 _ ?_
      refine WP.callF (c_X12_exchange x1 (s_X12_warm_6 x1) (H_X12_exchange x1 (s_X12_warm_5 x1) h) o41) rfl rfl (pm_cok rfl rfl (Or.inr ⟨_, _, rfl⟩) rfl rfl) rfl rfl ?_
      show WP 188 (99, [(14, 248), (0, x1), us.getD 0 pU, us.getD 1 pU], [], s_X12_warm_7 x1 h) Q
      refine WP.iincE (L' := [(14, 248), (0, x1 + 1), us.getD 0 pU, us.getD 1 pU]) rfl rfl o42 rfl ?_
      refine WP.goto rfl ?_
      exact kk [us.getD 0 pU, us.getD 1 pU] (x1 + 1, s_X12_warm_7 x1 h) (rfl)
  · intro hP hc
    generalize hs : (L_X12_warm_70 x1 h : Int × pH) = s at kk
    change P_X12_warm_70 (L_X12_warm_70 x1 h).1 (L_X12_warm_70 x1 h).2 at hP
    change ¬ C_X12_warm_70 (L_X12_warm_70 x1 h).1 (L_X12_warm_70 x1 h).2 at hc
    intro us
    show WP 188 (70, [(14, 248), (0, (L_X12_warm_70 x1 h).1), us.getD 0 pU, us.getD 1 pU], [], (L_X12_warm_70 x1 h).2) Q
    rw [hs] at hP hc ⊢
    obtain ⟨x1, h⟩ := s
    change P_X12_warm_70 x1 h at hP
    change ¬ (x1 < 12) at hc
    unfold P_X12_warm_70 at hP
    show WP 188 (70, [(14, 248), (0, x1), us.getD 0 pU, us.getD 1 pU], [], h) Q
    refine WP.iload_n rfl rfl ?_
    refine WP.bipush rfl ?_
    refine WP.ni_ge rfl (fun c28 => ?_) (fun c28 => ?_)
    · exact kk [us.getD 0 pU, us.getD 1 pU]
    · exact absurd (show x1 < 12 from c28) hc
noncomputable def s_X12_warm_8 (h : pH) : Int := (L_X12_warm_70 0 (s_X12_warm_4 h)).1
noncomputable def s_X12_warm_9 (h : pH) : pH := (L_X12_warm_70 0 (s_X12_warm_4 h)).2
noncomputable def s_X12_warm_10 (x1 : Int) (h : pH) : Int := ((pm_upd h 249 (20 + x1) ((h 249 (20 + x1)) + (h 262 x1))) 249 (20 + x1)) - ((pm_upd h 249 (20 + x1) ((h 249 (20 + x1)) + (h 262 x1))) 249 (44 + x1))
noncomputable def s_X12_warm_11 (x1 : Int) (h : pH) : Int := s_X12_less_1 ((pm_upd h 249 (20 + x1) ((h 249 (20 + x1)) + (h 262 x1))) 249 (32 + x1)) (s_X12_warm_10 x1 h)
noncomputable def s_X12_warm_12 (x1 : Int) (h : pH) : Int := if s_X12_warm_10 x1 h ≤ 0 then 0 else s_X12_warm_11 x1 h
noncomputable def s_X12_warm_13 (x1 : Int) (h : pH) : pH := pm_upd (pm_upd h 249 (20 + x1) ((h 249 (20 + x1)) + (h 262 x1))) 249 (20 + x1) (((pm_upd h 249 (20 + x1) ((h 249 (20 + x1)) + (h 262 x1))) 249 (20 + x1)) - (s_X12_warm_12 x1 h))
noncomputable def s_X12_warm_14 (x1 : Int) (h : pH) : pH := pm_upd (s_X12_warm_13 x1 h) 249 (20 + x1) (s_X12_less_1 ((s_X12_warm_13 x1 h) 249 (20 + x1)) 100000000)
def C_X12_warm_103 (x1 : Int) (h : pH) : Prop := x1 < 12
noncomputable def B_X12_warm_103 (x1 : Int) (h : pH) : Int × pH := (x1 + 1, s_X12_warm_14 x1 h)
noncomputable def P_X12_warm_103 (x1 : Int) (h : pH) : Prop := ((x1 < 12) → (fx_i (20 + x1)) ∧ (0 ≤ 20 + x1 ∧ 20 + x1 < 620) ∧ (0 ≤ x1 ∧ x1 < 12) ∧ (fx_l ((h 249 (20 + x1)) + (h 262 x1))) ∧ (fx_i (44 + x1)) ∧ (0 ≤ 44 + x1 ∧ 44 + x1 < 620) ∧ (fx_l (((pm_upd h 249 (20 + x1) ((h 249 (20 + x1)) + (h 262 x1))) 249 (20 + x1)) - ((pm_upd h 249 (20 + x1) ((h 249 (20 + x1)) + (h 262 x1))) 249 (44 + x1)))) ∧ (((0 < s_X12_warm_10 x1 h) → ((fx_i (32 + x1)) ∧ (0 ≤ 32 + x1 ∧ 32 + x1 < 620)))) ∧ (fx_l (((pm_upd h 249 (20 + x1) ((h 249 (20 + x1)) + (h 262 x1))) 249 (20 + x1)) - (s_X12_warm_12 x1 h))) ∧ (fx_i (x1 + 1)))
noncomputable def L_X12_warm_103 (x1 : Int) (h : pH) : Int × pH := fx_wh (σ := Int × pH) (fun s => C_X12_warm_103 s.1 s.2) (fun s => B_X12_warm_103 s.1 s.2) (x1, h)
def O_X12_warm_103 (x1 : Int) (h : pH) : Prop := fx_ok (σ := Int × pH) (fun s => C_X12_warm_103 s.1 s.2) (fun s => B_X12_warm_103 s.1 s.2) (fun s => P_X12_warm_103 s.1 s.2) (x1, h)
set_option maxHeartbeats 4000000 in
theorem lp_X12_warm_103 (x1 : Int) (h : pH) {Q : Option pV → pH → Prop} (hp : O_X12_warm_103 x1 h) (kk : ∀ us : List pV, WP 188 (172, [(14, 248), (0, (L_X12_warm_103 x1 h).1), us.getD 0 pU, us.getD 1 pU], [], (L_X12_warm_103 x1 h).2) Q) : ∀ us : List pV, WP 188 (103, [(14, 248), (0, x1), us.getD 0 pU, us.getD 1 pU], [], h) Q := by
  refine WP.wh (σ := Int × pH) (fun s => C_X12_warm_103 s.1 s.2) (fun s => B_X12_warm_103 s.1 s.2) (fun s => P_X12_warm_103 s.1 s.2) (fun s us => (103, [(14, 248), (0, s.1), us.getD 0 pU, us.getD 1 pU], [], s.2)) (x1, h) hp ?_ ?_
  · intro s us hP hc kk
    obtain ⟨x1, h⟩ := s
    change P_X12_warm_103 x1 h at hP
    change x1 < 12 at hc
    replace kk : ∀ (us' : List pV) (s' : Int × pH), s' = B_X12_warm_103 x1 h → WP 188 (103, [(14, 248), (0, s'.1), us'.getD 0 pU, us'.getD 1 pU], [], s'.2) Q := fun us' s' e => by subst e; exact kk us'
    unfold P_X12_warm_103 at hP
    obtain ⟨o47, o48, o49, o50, o51, o52, o53, q60, o61, o62⟩ := hP hc
    show WP 188 (103, [(14, 248), (0, x1), us.getD 0 pU, us.getD 1 pU], [], h) Q
    refine WP.iload_n rfl rfl ?_
    refine WP.bipush rfl ?_
    refine WP.ni_ge rfl (fun c46 => ?_) (fun c46 => ?_)
    · exact absurd hc (Int.not_lt.mpr c46)
    · refine WP.aload_n rfl rfl ⟨by decide, by decide⟩ ?_
      refine WP.getRF (b := 249) rfl rfl rfl ?_
      refine WP.bipush rfl ?_
      refine WP.iload_n rfl rfl ?_
      refine WP.iaddE rfl o47 ?_
      refine WP.dup2 rfl (by decide) (by decide) ?_
      refine WP.laload rfl ⟨by decide, by decide, by decide⟩ o48 ?_
      refine WP.aload_n rfl rfl ⟨by decide, by decide⟩ ?_
      refine WP.getRF (b := 262) rfl rfl rfl ?_
      refine WP.iload_n rfl rfl ?_
      refine WP.laload rfl ⟨by decide, by decide, by decide⟩ o49 ?_
      refine WP.laddE rfl o50 ?_
      refine WP.lastore rfl ⟨by decide, by decide, by decide⟩ o48 ?_
      refine WP.aload_n rfl rfl ⟨by decide, by decide⟩ ?_
      refine WP.getRF (b := 249) rfl rfl rfl ?_
      refine WP.bipush rfl ?_
      refine WP.iload_n rfl rfl ?_
      refine WP.iaddE rfl o47 ?_
      refine WP.laload rfl ⟨by decide, by decide, by decide⟩ o48 ?_
      refine WP.aload_n rfl rfl ⟨by decide, by decide⟩ ?_
      refine WP.getRF (b := 249) rfl rfl rfl ?_
      refine WP.bipush rfl ?_
      refine WP.iload_n rfl rfl ?_
      refine WP.iaddE rfl o51 ?_
      refine WP.laload rfl ⟨by decide, by decide, by decide⟩ o52 ?_
      refine WP.lsubE rfl o53 ?_
      refine WP.lstore_n (L' := [(14, 248), (0, x1), (1, ((pm_upd h 249 (20 + x1) ((h 249 (20 + x1)) + (h 262 x1))) 249 (20 + x1)) - ((pm_upd h 249 (20 + x1) ((h 249 (20 + x1)) + (h 262 x1))) 249 (44 + x1))), pU]) rfl rfl ?_
      show WP 188 (133, [(14, 248), (0, x1), (1, s_X12_warm_10 x1 h), pU], [], pm_upd h 249 (20 + x1) ((h 249 (20 + x1)) + (h 262 x1))) Q
      refine WP.aload_n rfl rfl ⟨by decide, by decide⟩ ?_
      refine WP.getRF (b := 249) rfl rfl rfl ?_
      refine WP.bipush rfl ?_
      refine WP.iload_n rfl rfl ?_
      refine WP.iaddE rfl o47 ?_
      refine WP.dup2 rfl (by decide) (by decide) ?_
      refine WP.laload rfl ⟨by decide, by decide, by decide⟩ o48 ?_
      refine WP.lload_n rfl rfl ?_
      refine WP.lconst rfl ?_
      refine WP.lcmp rfl ?_
      have k54 : ∀ Q' : Option pV → pH → Prop, (WP 188 (154, [(14, 248), (0, x1), (1, s_X12_warm_10 x1 h), pU], [(1, s_X12_warm_12 x1 h), (1, (pm_upd h 249 (20 + x1) ((h 249 (20 + x1)) + (h 262 x1))) 249 (20 + x1)), (0, 20 + x1), (3481, 249)], pm_upd h 249 (20 + x1) ((h 249 (20 + x1)) + (h 262 x1))) Q') → WP 188 (143, [(14, 248), (0, x1), (1, s_X12_warm_10 x1 h), pU], [(0, pm_lcmp (s_X12_warm_10 x1 h) 0), (1, (pm_upd h 249 (20 + x1) ((h 249 (20 + x1)) + (h 262 x1))) 249 (20 + x1)), (0, 20 + x1), (3481, 249)], pm_upd h 249 (20 + x1) ((h 249 (20 + x1)) + (h 262 x1))) Q' := fun Q' kk => by
        have q58 := q60
        refine WP.nl_le rfl (fun c55 => ?_) (fun c55 => ?_)
        · refine WP.lconst rfl ?_
          have e := kk; simp only [s_X12_warm_12, if_pos c55] at e ⊢; exact e
        · obtain ⟨o56, o57⟩ := q58 c55
          refine WP.aload_n rfl rfl ⟨by decide, by decide⟩ ?_
          refine WP.getRF (b := 249) rfl rfl rfl ?_
          refine WP.bipush rfl ?_
          refine WP.iload_n rfl rfl ?_
          refine WP.iaddE rfl o56 ?_
          refine WP.laload rfl ⟨by decide, by decide, by decide⟩ o57 ?_
          refine WP.lload_n rfl rfl ?_
          refine WP.callF (c_X12_less ((pm_upd h 249 (20 + x1) ((h 249 (20 + x1)) + (h 262 x1))) 249 (32 + x1)) (s_X12_warm_10 x1 h) (pm_upd h 249 (20 + x1) ((h 249 (20 + x1)) + (h 262 x1)))) rfl rfl (pm_cok rfl rfl (Or.inl rfl) rfl rfl) rfl rfl ?_
          show WP 188 (152, [(14, 248), (0, x1), (1, s_X12_warm_10 x1 h), pU], [(1, s_X12_warm_11 x1 h), (1, (pm_upd h 249 (20 + x1) ((h 249 (20 + x1)) + (h 262 x1))) 249 (20 + x1)), (0, 20 + x1), (3481, 249)], pm_upd h 249 (20 + x1) ((h 249 (20 + x1)) + (h 262 x1))) Q'
          refine WP.goto rfl ?_
          have e := kk; simp only [s_X12_warm_12, if_neg (Int.not_le.mpr c55)] at e ⊢; exact e
      refine k54 _ ?_
      refine WP.lsubE rfl o61 ?_
      refine WP.lastore rfl ⟨by decide, by decide, by decide⟩ o48 ?_
      show WP 188 (156, [(14, 248), (0, x1), (1, s_X12_warm_10 x1 h), pU], [], s_X12_warm_13 x1 h) Q
      refine WP.aload_n rfl rfl ⟨by decide, by decide⟩ ?_
      refine WP.getRF (b := 249) rfl rfl rfl ?_
      refine WP.bipush rfl ?_
      refine WP.iload_n rfl rfl ?_
      refine WP.iaddE rfl o47 ?_
      refine WP.aload_n rfl rfl ⟨by decide, by decide⟩ ?_
      refine WP.getRF (b := 249) rfl rfl rfl ?_
      refine WP.bipush rfl ?_
      refine WP.iload_n rfl rfl ?_
      refine WP.iaddE rfl o47 ?_
      refine WP.laload rfl ⟨by decide, by decide, by decide⟩ o48 ?_
      refine WP.ldc2_w rfl ?_
      refine WP.callF (c_X12_less ((s_X12_warm_13 x1 h) 249 (20 + x1)) 100000000 (s_X12_warm_13 x1 h)) rfl rfl (pm_cok rfl rfl (Or.inl rfl) rfl rfl) rfl rfl ?_
      show WP 188 (169, [(14, 248), (0, x1), (1, s_X12_warm_10 x1 h), pU], [(1, s_X12_less_1 ((s_X12_warm_13 x1 h) 249 (20 + x1)) 100000000), (0, 20 + x1), (3481, 249)], s_X12_warm_13 x1 h) Q
      refine WP.lastore rfl ⟨by decide, by decide, by decide⟩ o48 ?_
      show WP 188 (170, [(14, 248), (0, x1), (1, s_X12_warm_10 x1 h), pU], [], s_X12_warm_14 x1 h) Q
      refine WP.iincE (L' := [(14, 248), (0, x1 + 1), (1, s_X12_warm_10 x1 h), pU]) rfl rfl o62 rfl ?_
      refine WP.goto rfl ?_
      exact kk [(1, s_X12_warm_10 x1 h), pU] (x1 + 1, s_X12_warm_14 x1 h) (rfl)
  · intro hP hc
    generalize hs : (L_X12_warm_103 x1 h : Int × pH) = s at kk
    change P_X12_warm_103 (L_X12_warm_103 x1 h).1 (L_X12_warm_103 x1 h).2 at hP
    change ¬ C_X12_warm_103 (L_X12_warm_103 x1 h).1 (L_X12_warm_103 x1 h).2 at hc
    intro us
    show WP 188 (103, [(14, 248), (0, (L_X12_warm_103 x1 h).1), us.getD 0 pU, us.getD 1 pU], [], (L_X12_warm_103 x1 h).2) Q
    rw [hs] at hP hc ⊢
    obtain ⟨x1, h⟩ := s
    change P_X12_warm_103 x1 h at hP
    change ¬ (x1 < 12) at hc
    unfold P_X12_warm_103 at hP
    show WP 188 (103, [(14, 248), (0, x1), us.getD 0 pU, us.getD 1 pU], [], h) Q
    refine WP.iload_n rfl rfl ?_
    refine WP.bipush rfl ?_
    refine WP.ni_ge rfl (fun c45 => ?_) (fun c45 => ?_)
    · exact kk [us.getD 0 pU, us.getD 1 pU]
    · exact absurd (show x1 < 12 from c45) hc
noncomputable def s_X12_warm_15 (h : pH) : Int := (L_X12_warm_103 0 (s_X12_warm_9 h)).1
noncomputable def s_X12_warm_16 (h : pH) : pH := (L_X12_warm_103 0 (s_X12_warm_9 h)).2
noncomputable def H_X12_warm (h : pH) : pH := s_X12_warm_16 h
noncomputable def P_X12_warm (h : pH) : Prop := O_X12_warm_2 0 h ∧ (O_X12_warm_40 0 ((L_X12_warm_2 0 h).2)) ∧ (O_X12_warm_70 0 (s_X12_warm_4 h)) ∧ (O_X12_warm_103 0 (s_X12_warm_9 h))
set_option maxHeartbeats 4000000 in
theorem w_X12_warm (h : pH) {Q : Option pV → pH → Prop} (hp : P_X12_warm h) (kk : Q (none) (H_X12_warm h)) : WP 188 (0, [(14, 248), pU, pU, pU], [], h) Q := by
  unfold P_X12_warm at hp
  obtain ⟨o14, o26, o43, o63⟩ := hp
  refine WP.iconst rfl ?_
  refine WP.istore_n (L' := [(14, 248), (0, 0), pU, pU]) rfl rfl ?_
  refine lp_X12_warm_2 0 h o14 (fun us15 => ?_) [pU, pU]
  show WP 188 (38, [(14, 248), (0, (L_X12_warm_2 0 h).1), us15.getD 0 pU, us15.getD 1 pU], [], (L_X12_warm_2 0 h).2) Q
  refine WP.iconst rfl ?_
  refine WP.istore_n (L' := [(14, 248), (0, 0), us15.getD 0 pU, us15.getD 1 pU]) rfl rfl ?_
  refine lp_X12_warm_40 0 ((L_X12_warm_2 0 h).2) o26 (fun us27 => ?_) [us15.getD 0 pU, us15.getD 1 pU]
  show WP 188 (68, [(14, 248), (0, s_X12_warm_3 h), us27.getD 0 pU, us27.getD 1 pU], [], s_X12_warm_4 h) Q
  refine WP.iconst rfl ?_
  refine WP.istore_n (L' := [(14, 248), (0, 0), us27.getD 0 pU, us27.getD 1 pU]) rfl rfl ?_
  refine lp_X12_warm_70 0 (s_X12_warm_4 h) o43 (fun us44 => ?_) [us27.getD 0 pU, us27.getD 1 pU]
  show WP 188 (101, [(14, 248), (0, s_X12_warm_8 h), us44.getD 0 pU, us44.getD 1 pU], [], s_X12_warm_9 h) Q
  refine WP.iconst rfl ?_
  refine WP.istore_n (L' := [(14, 248), (0, 0), us44.getD 0 pU, us44.getD 1 pU]) rfl rfl ?_
  refine lp_X12_warm_103 0 (s_X12_warm_9 h) o63 (fun us64 => ?_) [us44.getD 0 pU, us44.getD 1 pU]
  show WP 188 (172, [(14, 248), (0, s_X12_warm_15 h), us64.getD 0 pU, us64.getD 1 pU], [], s_X12_warm_16 h) Q
  refine WP.retv rfl ?_; exact kk
theorem c_X12_warm (h : pH) (hp : P_X12_warm h) : CP 188 [(14, 248)] h (fun r h1 => r = none ∧ h1 = H_X12_warm h) := w_X12_warm h hp ⟨rfl, rfl⟩
noncomputable def s_X12_fail_1 (h : pH) : pH := pm_upd h 249 11 (pm_w ((pm_w ((h 249 11) * 1103515245)) + 12345))
noncomputable def s_X12_fail_2 (x1 : Int) (h : pH) : Int := if 0 ≤ Int.tdiv ((s_X12_fail_1 h) 249 (20 + ((s_X12_fail_1 h) 249 (84 + x1)))) 100 then s_X12_less_1 (Int.tdiv ((s_X12_fail_1 h) 249 (20 + ((s_X12_fail_1 h) 249 (84 + x1)))) 100) 9 else 0
noncomputable def s_X12_fail_3 (x1 : Int) (h : pH) : pH := pm_upd (s_X12_fail_1 h) 249 (500 + ((s_X12_fail_1 h) 249 19)) (s_X12_fail_2 x1 h)
noncomputable def s_X12_fail_4 (x1 : Int) (h : pH) : Int := if Int.tmod (pm_ushr (pm_w ((pm_w ((h 249 11) * 1103515245)) + 12345)) 16) 1000 < ((s_X12_fail_1 h) 249 9) + (((s_X12_fail_1 h) 249 10) * (Int.tdiv ((s_X12_fail_1 h) 249 (20 + ((s_X12_fail_1 h) 249 (84 + x1)))) 100)) then 1 else 0
noncomputable def s_X12_fail_5 (x1 : Int) (h : pH) : pH := pm_upd (s_X12_fail_3 x1 h) 249 (560 + ((s_X12_fail_3 x1 h) 249 19)) (s_X12_fail_4 x1 h)
noncomputable def s_X12_fail_6 (x1 : Int) (h : pH) : pH := pm_upd (s_X12_fail_5 x1 h) 249 19 (((s_X12_fail_5 x1 h) 249 19) + 1)
noncomputable def s_X12_fail_7 (x1 : Int) (h : pH) : pH := if 60 ≤ (s_X12_fail_1 h) 249 19 then s_X12_fail_1 h else s_X12_fail_6 x1 h
noncomputable def s_X12_fail_8 (x1 : Int) (h : pH) : pH := pm_upd (pm_upd (s_X12_fail_7 x1 h) 249 (144 + x1) 1) 259 ((pm_upd (s_X12_fail_7 x1 h) 249 (144 + x1) 1) 249 (154 + x1)) 5
noncomputable def s_X12_fail_9 (x1 : Int) (h : pH) : pH := if h 249 (164 + x1) ≤ 0 then h else if Int.tmod (pm_ushr (pm_w ((pm_w ((h 249 11) * 1103515245)) + 12345)) 16) 1000 < ((s_X12_fail_1 h) 249 9) + (((s_X12_fail_1 h) 249 10) * (Int.tdiv ((s_X12_fail_1 h) 249 (20 + ((s_X12_fail_1 h) 249 (84 + x1)))) 100)) then s_X12_fail_8 x1 h else s_X12_fail_7 x1 h
def C_X12_fail_2 (x1 : Int) (h : pH) : Prop := x1 < h 249 12
noncomputable def B_X12_fail_2 (x1 : Int) (h : pH) : Int × pH := (x1 + 1, s_X12_fail_9 x1 h)
noncomputable def P_X12_fail_2 (x1 : Int) (h : pH) : Prop := ((x1 < h 249 12) → (fx_i (164 + x1)) ∧ (0 ≤ 164 + x1 ∧ 164 + x1 < 620) ∧ (((0 < h 249 (164 + x1)) → ((fx_i (h 249 11)) ∧ (fx_i (84 + x1)) ∧ (P_X12_at (84 + x1) (s_X12_fail_1 h)) ∧ (fx_i (20 + ((s_X12_fail_1 h) 249 (84 + x1)))) ∧ (0 ≤ 20 + ((s_X12_fail_1 h) 249 (84 + x1)) ∧ 20 + ((s_X12_fail_1 h) 249 (84 + x1)) < 620) ∧ (fx_l (Int.tdiv ((s_X12_fail_1 h) 249 (20 + ((s_X12_fail_1 h) 249 (84 + x1)))) 100)) ∧ (fx_l (((s_X12_fail_1 h) 249 10) * (Int.tdiv ((s_X12_fail_1 h) 249 (20 + ((s_X12_fail_1 h) 249 (84 + x1)))) 100))) ∧ (fx_l (((s_X12_fail_1 h) 249 9) + (((s_X12_fail_1 h) 249 10) * (Int.tdiv ((s_X12_fail_1 h) 249 (20 + ((s_X12_fail_1 h) 249 (84 + x1)))) 100)))) ∧ ((((s_X12_fail_1 h) 249 19 < 60) → ((P_X12_at 19 (s_X12_fail_1 h)) ∧ (fx_i (500 + ((s_X12_fail_1 h) 249 19))) ∧ (0 ≤ 500 + ((s_X12_fail_1 h) 249 19) ∧ 500 + ((s_X12_fail_1 h) 249 19) < 620) ∧ (P_X12_at 19 (s_X12_fail_3 x1 h)) ∧ (fx_i (560 + ((s_X12_fail_3 x1 h) 249 19))) ∧ (0 ≤ 560 + ((s_X12_fail_3 x1 h) 249 19) ∧ 560 + ((s_X12_fail_3 x1 h) 249 19) < 620) ∧ (fx_l (((s_X12_fail_5 x1 h) 249 19) + 1))))) ∧ ((Int.tmod (pm_ushr (pm_w ((pm_w ((h 249 11) * 1103515245)) + 12345)) 16) 1000 < ((s_X12_fail_1 h) 249 9) + (((s_X12_fail_1 h) 249 10) * (Int.tdiv ((s_X12_fail_1 h) 249 (20 + ((s_X12_fail_1 h) 249 (84 + x1)))) 100))) → ((fx_i (144 + x1)) ∧ (0 ≤ 144 + x1 ∧ 144 + x1 < 620) ∧ (fx_i (154 + x1)) ∧ (P_X12_at (154 + x1) (pm_upd (s_X12_fail_7 x1 h) 249 (144 + x1) 1)) ∧ (0 ≤ (pm_upd (s_X12_fail_7 x1 h) 249 (144 + x1) 1) 249 (154 + x1) ∧ (pm_upd (s_X12_fail_7 x1 h) 249 (144 + x1) 1) 249 (154 + x1) < 16)))))) ∧ (fx_i (x1 + 1)))
noncomputable def L_X12_fail_2 (x1 : Int) (h : pH) : Int × pH := fx_wh (σ := Int × pH) (fun s => C_X12_fail_2 s.1 s.2) (fun s => B_X12_fail_2 s.1 s.2) (x1, h)
def O_X12_fail_2 (x1 : Int) (h : pH) : Prop := fx_ok (σ := Int × pH) (fun s => C_X12_fail_2 s.1 s.2) (fun s => B_X12_fail_2 s.1 s.2) (fun s => P_X12_fail_2 s.1 s.2) (x1, h)
set_option maxHeartbeats 4000000 in
theorem lp_X12_fail_2 (x1 : Int) (h : pH) {Q : Option pV → pH → Prop} (hp : O_X12_fail_2 x1 h) (kk : ∀ us : List pV, WP 190 (136, [(14, 248), (0, (L_X12_fail_2 x1 h).1), us.getD 0 pU, us.getD 1 pU, us.getD 2 pU, us.getD 3 pU], [], (L_X12_fail_2 x1 h).2) Q) : ∀ us : List pV, WP 190 (2, [(14, 248), (0, x1), us.getD 0 pU, us.getD 1 pU, us.getD 2 pU, us.getD 3 pU], [], h) Q := by
  refine WP.wh (σ := Int × pH) (fun s => C_X12_fail_2 s.1 s.2) (fun s => B_X12_fail_2 s.1 s.2) (fun s => P_X12_fail_2 s.1 s.2) (fun s us => (2, [(14, 248), (0, s.1), us.getD 0 pU, us.getD 1 pU, us.getD 2 pU, us.getD 3 pU], [], s.2)) (x1, h) hp ?_ ?_
  · intro s us hP hc kk
    obtain ⟨x1, h⟩ := s
    change P_X12_fail_2 x1 h at hP
    change x1 < h 249 12 at hc
    replace kk : ∀ (us' : List pV) (s' : Int × pH), s' = B_X12_fail_2 x1 h → WP 190 (2, [(14, 248), (0, s'.1), us'.getD 0 pU, us'.getD 1 pU, us'.getD 2 pU, us'.getD 3 pU], [], s'.2) Q := fun us' s' e => by subst e; exact kk us'
    unfold P_X12_fail_2 at hP
    obtain ⟨o3, o4, q45, o46⟩ := hP hc
    show WP 190 (2, [(14, 248), (0, x1), us.getD 0 pU, us.getD 1 pU, us.getD 2 pU, us.getD 3 pU], [], h) Q
    refine WP.iload_n rfl rfl ?_
    refine WP.i2l rfl ?_
    refine WP.aload_n rfl rfl ⟨by decide, by decide⟩ ?_
    refine WP.getRF (b := 249) rfl rfl rfl ?_
    refine WP.bipush rfl ?_
    refine WP.laload rfl ⟨by decide, by decide, by decide⟩ (by decide) ?_
    refine WP.lcmp rfl ?_
    refine WP.nl_ge rfl (fun c2 => ?_) (fun c2 => ?_)
    · exact absurd hc (Int.not_lt.mpr c2)
    · refine WP.aload_n rfl rfl ⟨by decide, by decide⟩ ?_
      refine WP.getRF (b := 249) rfl rfl rfl ?_
      refine WP.sipush rfl ?_
      refine WP.iload_n rfl rfl ?_
      refine WP.iaddE rfl o3 ?_
      refine WP.laload rfl ⟨by decide, by decide, by decide⟩ o4 ?_
      refine WP.lconst rfl ?_
      refine WP.lcmp rfl ?_
      have k5 : ∀ Q' : Option pV → pH → Prop, (∀ us44 : List pV, WP 190 (134, [(14, 248), (0, x1), us44.getD 0 pU, us44.getD 1 pU, us44.getD 2 pU, us44.getD 3 pU], [], s_X12_fail_9 x1 h) Q') → WP 190 (18, [(14, 248), (0, x1), us.getD 0 pU, us.getD 1 pU, us.getD 2 pU, us.getD 3 pU], [(0, pm_lcmp (h 249 (164 + x1)) 0)], h) Q' := fun Q' kk => by
        have q43 := q45
        refine WP.nl_le rfl (fun c6 => ?_) (fun c6 => ?_)
        · have e := kk [us.getD 0 pU, us.getD 1 pU, us.getD 2 pU, us.getD 3 pU]; simp only [s_X12_fail_9, if_pos c6] at e ⊢; exact e
        · obtain ⟨o7, o8, o9, o10, o11, o12, o13, o14, q35, q42⟩ := q43 c6
          refine WP.aload_n rfl rfl ⟨by decide, by decide⟩ ?_
          refine WP.getRF (b := 249) rfl rfl rfl ?_
          refine WP.bipush rfl ?_
          refine WP.laload rfl ⟨by decide, by decide, by decide⟩ (by decide) ?_
          refine WP.l2iE rfl o7 ?_
          refine WP.ldc rfl ?_
          refine WP.imul rfl ?_
          refine WP.sipush rfl ?_
          refine WP.iadd rfl ?_
          refine WP.istore_n (L' := [(14, 248), (0, x1), (0, pm_w ((pm_w ((h 249 11) * 1103515245)) + 12345)), us.getD 1 pU, us.getD 2 pU, us.getD 3 pU]) rfl rfl ?_
          refine WP.aload_n rfl rfl ⟨by decide, by decide⟩ ?_
          refine WP.getRF (b := 249) rfl rfl rfl ?_
          refine WP.bipush rfl ?_
          refine WP.iload_n rfl rfl ?_
          refine WP.i2l rfl ?_
          refine WP.lastore rfl ⟨by decide, by decide, by decide⟩ (by decide) ?_
          show WP 190 (35, [(14, 248), (0, x1), (0, pm_w ((pm_w ((h 249 11) * 1103515245)) + 12345)), us.getD 1 pU, us.getD 2 pU, us.getD 3 pU], [], s_X12_fail_1 h) Q'
          refine WP.aload_n rfl rfl ⟨by decide, by decide⟩ ?_
          refine WP.getRF (b := 249) rfl rfl rfl ?_
          refine WP.bipush rfl ?_
          refine WP.aload_n rfl rfl ⟨by decide, by decide⟩ ?_
          refine WP.bipush rfl ?_
          refine WP.iload_n rfl rfl ?_
          refine WP.iaddE rfl o8 ?_
          refine WP.callF (c_X12_at (84 + x1) (s_X12_fail_1 h) o9) rfl rfl (pm_cok rfl rfl (Or.inr ⟨_, _, rfl⟩) rfl rfl) rfl rfl ?_
          show WP 190 (43, [(14, 248), (0, x1), (0, pm_w ((pm_w ((h 249 11) * 1103515245)) + 12345)), us.getD 1 pU, us.getD 2 pU, us.getD 3 pU], [(0, (s_X12_fail_1 h) 249 (84 + x1)), (0, 20), (3481, 249)], s_X12_fail_1 h) Q'
          refine WP.iaddE rfl o10 ?_
          refine WP.laload rfl ⟨by decide, by decide, by decide⟩ o11 ?_
          refine WP.ldc2_w rfl ?_
          refine WP.ldivE rfl (show (100 : Int) ≠ 0 by decide) o12 ?_
          refine WP.lstore_n (L' := [(14, 248), (0, x1), (0, pm_w ((pm_w ((h 249 11) * 1103515245)) + 12345)), (1, Int.tdiv ((s_X12_fail_1 h) 249 (20 + ((s_X12_fail_1 h) 249 (84 + x1)))) 100), pU, us.getD 3 pU]) rfl rfl ?_
          refine WP.iload_n rfl rfl ?_
          refine WP.bipush rfl ?_
          refine WP.iushr rfl ?_
          refine WP.sipush rfl ?_
          refine WP.irem rfl (show (1000 : Int) ≠ 0 by decide) ?_
          refine WP.i2l rfl ?_
          refine WP.aload_n rfl rfl ⟨by decide, by decide⟩ ?_
          refine WP.getRF (b := 249) rfl rfl rfl ?_
          refine WP.bipush rfl ?_
          refine WP.laload rfl ⟨by decide, by decide, by decide⟩ (by decide) ?_
          refine WP.aload_n rfl rfl ⟨by decide, by decide⟩ ?_
          refine WP.getRF (b := 249) rfl rfl rfl ?_
          refine WP.bipush rfl ?_
          refine WP.laload rfl ⟨by decide, by decide, by decide⟩ (by decide) ?_
          refine WP.lload_n rfl rfl ?_
          refine WP.lmulE rfl o13 ?_
          refine WP.laddE rfl o14 ?_
          refine WP.lcmp rfl ?_
          have k15 : ∀ Q' : Option pV → pH → Prop, (WP 190 (70, [(14, 248), (0, x1), (0, pm_w ((pm_w ((h 249 11) * 1103515245)) + 12345)), (1, Int.tdiv ((s_X12_fail_1 h) 249 (20 + ((s_X12_fail_1 h) 249 (84 + x1)))) 100), pU, us.getD 3 pU], [(0, if Int.tmod (pm_ushr (pm_w ((pm_w ((h 249 11) * 1103515245)) + 12345)) 16) 1000 < ((s_X12_fail_1 h) 249 9) + (((s_X12_fail_1 h) 249 10) * (Int.tdiv ((s_X12_fail_1 h) 249 (20 + ((s_X12_fail_1 h) 249 (84 + x1)))) 100)) then 1 else 0)], s_X12_fail_1 h) Q') → WP 190 (66, [(14, 248), (0, x1), (0, pm_w ((pm_w ((h 249 11) * 1103515245)) + 12345)), (1, Int.tdiv ((s_X12_fail_1 h) 249 (20 + ((s_X12_fail_1 h) 249 (84 + x1)))) 100), pU, us.getD 3 pU], [(0, pm_lcmp (Int.tmod (pm_ushr (pm_w ((pm_w ((h 249 11) * 1103515245)) + 12345)) 16) 1000) (((s_X12_fail_1 h) 249 9) + (((s_X12_fail_1 h) 249 10) * (Int.tdiv ((s_X12_fail_1 h) 249 (20 + ((s_X12_fail_1 h) 249 (84 + x1)))) 100))))], s_X12_fail_1 h) Q' := fun Q' kk => by
            refine WP.nl_ge rfl (fun c16 => ?_) (fun c16 => ?_)
            · refine WP.iconst rfl ?_
              have e := kk; simp only [if_pos c16, if_neg (show ¬ (Int.tmod (pm_ushr (pm_w ((pm_w ((h 249 11) * 1103515245)) + 12345)) 16) 1000 < ((s_X12_fail_1 h) 249 9) + (((s_X12_fail_1 h) 249 10) * (Int.tdiv ((s_X12_fail_1 h) 249 (20 + ((s_X12_fail_1 h) 249 (84 + x1)))) 100))) from Int.not_lt.mpr c16)] at e ⊢; exact e
            · refine WP.iconst rfl ?_
              refine WP.goto rfl ?_
              have e := kk; simp only [if_neg (Int.not_le.mpr c16), if_pos (show Int.tmod (pm_ushr (pm_w ((pm_w ((h 249 11) * 1103515245)) + 12345)) 16) 1000 < ((s_X12_fail_1 h) 249 9) + (((s_X12_fail_1 h) 249 10) * (Int.tdiv ((s_X12_fail_1 h) 249 (20 + ((s_X12_fail_1 h) 249 (84 + x1)))) 100)) from c16)] at e ⊢; exact e
          refine k15 _ ?_
          refine WP.istore (L' := [(14, 248), (0, x1), (0, pm_w ((pm_w ((h 249 11) * 1103515245)) + 12345)), (1, Int.tdiv ((s_X12_fail_1 h) 249 (20 + ((s_X12_fail_1 h) 249 (84 + x1)))) 100), pU, (0, if Int.tmod (pm_ushr (pm_w ((pm_w ((h 249 11) * 1103515245)) + 12345)) 16) 1000 < ((s_X12_fail_1 h) 249 9) + (((s_X12_fail_1 h) 249 10) * (Int.tdiv ((s_X12_fail_1 h) 249 (20 + ((s_X12_fail_1 h) 249 (84 + x1)))) 100)) then 1 else 0)]) rfl rfl ?_
          refine WP.aload_n rfl rfl ⟨by decide, by decide⟩ ?_
          refine WP.getRF (b := 249) rfl rfl rfl ?_
          refine WP.bipush rfl ?_
          refine WP.laload rfl ⟨by decide, by decide, by decide⟩ (by decide) ?_
          refine WP.ldc2_w rfl ?_
          refine WP.lcmp rfl ?_
          have k18 : ∀ Q' : Option pV → pH → Prop, (WP 190 (116, [(14, 248), (0, x1), (0, pm_w ((pm_w ((h 249 11) * 1103515245)) + 12345)), (1, Int.tdiv ((s_X12_fail_1 h) 249 (20 + ((s_X12_fail_1 h) 249 (84 + x1)))) 100), pU, (0, if Int.tmod (pm_ushr (pm_w ((pm_w ((h 249 11) * 1103515245)) + 12345)) 16) 1000 < ((s_X12_fail_1 h) 249 9) + (((s_X12_fail_1 h) 249 10) * (Int.tdiv ((s_X12_fail_1 h) 249 (20 + ((s_X12_fail_1 h) 249 (84 + x1)))) 100)) then 1 else 0)], [], s_X12_fail_7 x1 h) Q') → WP 190 (77, [(14, 248), (0, x1), (0, pm_w ((pm_w ((h 249 11) * 1103515245)) + 12345)), (1, Int.tdiv ((s_X12_fail_1 h) 249 (20 + ((s_X12_fail_1 h) 249 (84 + x1)))) 100), pU, (0, if Int.tmod (pm_ushr (pm_w ((pm_w ((h 249 11) * 1103515245)) + 12345)) 16) 1000 < ((s_X12_fail_1 h) 249 9) + (((s_X12_fail_1 h) 249 10) * (Int.tdiv ((s_X12_fail_1 h) 249 (20 + ((s_X12_fail_1 h) 249 (84 + x1)))) 100)) then 1 else 0)], [(0, pm_lcmp ((s_X12_fail_1 h) 249 19) 60)], s_X12_fail_1 h) Q' := fun Q' kk => by
            have q33 := q35
            refine WP.nl_ge rfl (fun c19 => ?_) (fun c19 => ?_)
            · have e := kk; simp only [s_X12_fail_7, if_pos c19] at e ⊢; exact e
            · obtain ⟨o20, o21, o25, o26, o27, o31, o32⟩ := q33 c19
              refine WP.aload_n rfl rfl ⟨by decide, by decide⟩ ?_
              refine WP.getRF (b := 249) rfl rfl rfl ?_
              refine WP.sipush rfl ?_
              refine WP.aload_n rfl rfl ⟨by decide, by decide⟩ ?_
              refine WP.bipush rfl ?_
              refine WP.callF (c_X12_at 19 (s_X12_fail_1 h) o20) rfl rfl (pm_cok rfl rfl (Or.inr ⟨_, _, rfl⟩) rfl rfl) rfl rfl ?_
              show WP 190 (84, [(14, 248), (0, x1), (0, pm_w ((pm_w ((h 249 11) * 1103515245)) + 12345)), (1, Int.tdiv ((s_X12_fail_1 h) 249 (20 + ((s_X12_fail_1 h) 249 (84 + x1)))) 100), pU, (0, if Int.tmod (pm_ushr (pm_w ((pm_w ((h 249 11) * 1103515245)) + 12345)) 16) 1000 < ((s_X12_fail_1 h) 249 9) + (((s_X12_fail_1 h) 249 10) * (Int.tdiv ((s_X12_fail_1 h) 249 (20 + ((s_X12_fail_1 h) 249 (84 + x1)))) 100)) then 1 else 0)], [(0, (s_X12_fail_1 h) 249 19), (0, 500), (3481, 249)], s_X12_fail_1 h) Q'
              refine WP.iaddE rfl o21 ?_
              refine WP.lload_n rfl rfl ?_
              refine WP.lconst rfl ?_
              refine WP.lcmp rfl ?_
              have k22 : ∀ Q' : Option pV → pH → Prop, (WP 190 (94, [(14, 248), (0, x1), (0, pm_w ((pm_w ((h 249 11) * 1103515245)) + 12345)), (1, Int.tdiv ((s_X12_fail_1 h) 249 (20 + ((s_X12_fail_1 h) 249 (84 + x1)))) 100), pU, (0, if Int.tmod (pm_ushr (pm_w ((pm_w ((h 249 11) * 1103515245)) + 12345)) 16) 1000 < ((s_X12_fail_1 h) 249 9) + (((s_X12_fail_1 h) 249 10) * (Int.tdiv ((s_X12_fail_1 h) 249 (20 + ((s_X12_fail_1 h) 249 (84 + x1)))) 100)) then 1 else 0)], [(1, s_X12_fail_2 x1 h), (0, 500 + ((s_X12_fail_1 h) 249 19)), (3481, 249)], s_X12_fail_1 h) Q') → WP 190 (88, [(14, 248), (0, x1), (0, pm_w ((pm_w ((h 249 11) * 1103515245)) + 12345)), (1, Int.tdiv ((s_X12_fail_1 h) 249 (20 + ((s_X12_fail_1 h) 249 (84 + x1)))) 100), pU, (0, if Int.tmod (pm_ushr (pm_w ((pm_w ((h 249 11) * 1103515245)) + 12345)) 16) 1000 < ((s_X12_fail_1 h) 249 9) + (((s_X12_fail_1 h) 249 10) * (Int.tdiv ((s_X12_fail_1 h) 249 (20 + ((s_X12_fail_1 h) 249 (84 + x1)))) 100)) then 1 else 0)], [(0, pm_lcmp (Int.tdiv ((s_X12_fail_1 h) 249 (20 + ((s_X12_fail_1 h) 249 (84 + x1)))) 100) 0), (0, 500 + ((s_X12_fail_1 h) 249 19)), (3481, 249)], s_X12_fail_1 h) Q' := fun Q' kk => by
                refine WP.nl_ge rfl (fun c23 => ?_) (fun c23 => ?_)
                · refine WP.lload_n rfl rfl ?_
                  refine WP.ldc2_w rfl ?_
                  refine WP.callF (c_X12_less (Int.tdiv ((s_X12_fail_1 h) 249 (20 + ((s_X12_fail_1 h) 249 (84 + x1)))) 100) 9 (s_X12_fail_1 h)) rfl rfl (pm_cok rfl rfl (Or.inl rfl) rfl rfl) rfl rfl ?_
                  show WP 190 (94, [(14, 248), (0, x1), (0, pm_w ((pm_w ((h 249 11) * 1103515245)) + 12345)), (1, Int.tdiv ((s_X12_fail_1 h) 249 (20 + ((s_X12_fail_1 h) 249 (84 + x1)))) 100), pU, (0, if Int.tmod (pm_ushr (pm_w ((pm_w ((h 249 11) * 1103515245)) + 12345)) 16) 1000 < ((s_X12_fail_1 h) 249 9) + (((s_X12_fail_1 h) 249 10) * (Int.tdiv ((s_X12_fail_1 h) 249 (20 + ((s_X12_fail_1 h) 249 (84 + x1)))) 100)) then 1 else 0)], [(1, s_X12_less_1 (Int.tdiv ((s_X12_fail_1 h) 249 (20 + ((s_X12_fail_1 h) 249 (84 + x1)))) 100) 9), (0, 500 + ((s_X12_fail_1 h) 249 19)), (3481, 249)], s_X12_fail_1 h) Q'
                  have e := kk; simp only [s_X12_fail_2, if_pos c23] at e ⊢; exact e
                · refine WP.lconst rfl ?_
                  refine WP.goto rfl ?_
                  have e := kk; simp only [s_X12_fail_2, if_neg (Int.not_le.mpr c23)] at e ⊢; exact e
              refine k22 _ ?_
              refine WP.lastore rfl ⟨by decide, by decide, by decide⟩ o25 ?_
              show WP 190 (95, [(14, 248), (0, x1), (0, pm_w ((pm_w ((h 249 11) * 1103515245)) + 12345)), (1, Int.tdiv ((s_X12_fail_1 h) 249 (20 + ((s_X12_fail_1 h) 249 (84 + x1)))) 100), pU, (0, if Int.tmod (pm_ushr (pm_w ((pm_w ((h 249 11) * 1103515245)) + 12345)) 16) 1000 < ((s_X12_fail_1 h) 249 9) + (((s_X12_fail_1 h) 249 10) * (Int.tdiv ((s_X12_fail_1 h) 249 (20 + ((s_X12_fail_1 h) 249 (84 + x1)))) 100)) then 1 else 0)], [], s_X12_fail_3 x1 h) Q'
              refine WP.aload_n rfl rfl ⟨by decide, by decide⟩ ?_
              refine WP.getRF (b := 249) rfl rfl rfl ?_
              refine WP.sipush rfl ?_
              refine WP.aload_n rfl rfl ⟨by decide, by decide⟩ ?_
              refine WP.bipush rfl ?_
              refine WP.callF (c_X12_at 19 (s_X12_fail_3 x1 h) o26) rfl rfl (pm_cok rfl rfl (Or.inr ⟨_, _, rfl⟩) rfl rfl) rfl rfl ?_
              show WP 190 (101, [(14, 248), (0, x1), (0, pm_w ((pm_w ((h 249 11) * 1103515245)) + 12345)), (1, Int.tdiv ((s_X12_fail_1 h) 249 (20 + ((s_X12_fail_1 h) 249 (84 + x1)))) 100), pU, (0, if Int.tmod (pm_ushr (pm_w ((pm_w ((h 249 11) * 1103515245)) + 12345)) 16) 1000 < ((s_X12_fail_1 h) 249 9) + (((s_X12_fail_1 h) 249 10) * (Int.tdiv ((s_X12_fail_1 h) 249 (20 + ((s_X12_fail_1 h) 249 (84 + x1)))) 100)) then 1 else 0)], [(0, (s_X12_fail_3 x1 h) 249 19), (0, 560), (3481, 249)], s_X12_fail_3 x1 h) Q'
              refine WP.iaddE rfl o27 ?_
              refine WP.iload rfl rfl ?_
              have k28 : ∀ Q' : Option pV → pH → Prop, (WP 190 (107, [(14, 248), (0, x1), (0, pm_w ((pm_w ((h 249 11) * 1103515245)) + 12345)), (1, Int.tdiv ((s_X12_fail_1 h) 249 (20 + ((s_X12_fail_1 h) 249 (84 + x1)))) 100), pU, (0, if Int.tmod (pm_ushr (pm_w ((pm_w ((h 249 11) * 1103515245)) + 12345)) 16) 1000 < ((s_X12_fail_1 h) 249 9) + (((s_X12_fail_1 h) 249 10) * (Int.tdiv ((s_X12_fail_1 h) 249 (20 + ((s_X12_fail_1 h) 249 (84 + x1)))) 100)) then 1 else 0)], [(1, s_X12_fail_4 x1 h), (0, 560 + ((s_X12_fail_3 x1 h) 249 19)), (3481, 249)], s_X12_fail_3 x1 h) Q') → WP 190 (103, [(14, 248), (0, x1), (0, pm_w ((pm_w ((h 249 11) * 1103515245)) + 12345)), (1, Int.tdiv ((s_X12_fail_1 h) 249 (20 + ((s_X12_fail_1 h) 249 (84 + x1)))) 100), pU, (0, if Int.tmod (pm_ushr (pm_w ((pm_w ((h 249 11) * 1103515245)) + 12345)) 16) 1000 < ((s_X12_fail_1 h) 249 9) + (((s_X12_fail_1 h) 249 10) * (Int.tdiv ((s_X12_fail_1 h) 249 (20 + ((s_X12_fail_1 h) 249 (84 + x1)))) 100)) then 1 else 0)], [(0, if Int.tmod (pm_ushr (pm_w ((pm_w ((h 249 11) * 1103515245)) + 12345)) 16) 1000 < ((s_X12_fail_1 h) 249 9) + (((s_X12_fail_1 h) 249 10) * (Int.tdiv ((s_X12_fail_1 h) 249 (20 + ((s_X12_fail_1 h) 249 (84 + x1)))) 100)) then 1 else 0), (0, 560 + ((s_X12_fail_3 x1 h) 249 19)), (3481, 249)], s_X12_fail_3 x1 h) Q' := fun Q' kk => by
                refine WP.nb_eq rfl (fun c29 => ?_) (fun c29 => ?_)
                · refine WP.lconst rfl ?_
                  have e := kk; simp only [s_X12_fail_4, if_neg (c29)] at e ⊢; exact e
                · refine WP.lconst rfl ?_
                  refine WP.goto rfl ?_
                  have e := kk; simp only [s_X12_fail_4, if_pos c29] at e ⊢; exact e
              refine k28 _ ?_
              refine WP.lastore rfl ⟨by decide, by decide, by decide⟩ o31 ?_
              show WP 190 (108, [(14, 248), (0, x1), (0, pm_w ((pm_w ((h 249 11) * 1103515245)) + 12345)), (1, Int.tdiv ((s_X12_fail_1 h) 249 (20 + ((s_X12_fail_1 h) 249 (84 + x1)))) 100), pU, (0, if Int.tmod (pm_ushr (pm_w ((pm_w ((h 249 11) * 1103515245)) + 12345)) 16) 1000 < ((s_X12_fail_1 h) 249 9) + (((s_X12_fail_1 h) 249 10) * (Int.tdiv ((s_X12_fail_1 h) 249 (20 + ((s_X12_fail_1 h) 249 (84 + x1)))) 100)) then 1 else 0)], [], s_X12_fail_5 x1 h) Q'
              refine WP.aload_n rfl rfl ⟨by decide, by decide⟩ ?_
              refine WP.getRF (b := 249) rfl rfl rfl ?_
              refine WP.bipush rfl ?_
              refine WP.dup2 rfl (by decide) (by decide) ?_
              refine WP.laload rfl ⟨by decide, by decide, by decide⟩ (by decide) ?_
              refine WP.lconst rfl ?_
              refine WP.laddE rfl o32 ?_
              refine WP.lastore rfl ⟨by decide, by decide, by decide⟩ (by decide) ?_
              show WP 190 (116, [(14, 248), (0, x1), (0, pm_w ((pm_w ((h 249 11) * 1103515245)) + 12345)), (1, Int.tdiv ((s_X12_fail_1 h) 249 (20 + ((s_X12_fail_1 h) 249 (84 + x1)))) 100), pU, (0, if Int.tmod (pm_ushr (pm_w ((pm_w ((h 249 11) * 1103515245)) + 12345)) 16) 1000 < ((s_X12_fail_1 h) 249 9) + (((s_X12_fail_1 h) 249 10) * (Int.tdiv ((s_X12_fail_1 h) 249 (20 + ((s_X12_fail_1 h) 249 (84 + x1)))) 100)) then 1 else 0)], [], s_X12_fail_6 x1 h) Q'
              have e := kk; simp only [s_X12_fail_7, if_neg (Int.not_le.mpr c19)] at e ⊢; exact e
          refine k18 _ ?_
          refine WP.iload rfl rfl ?_
          refine WP.nb_eq rfl (fun c36 => ?_) (fun c36 => ?_)
          · have e := kk [(0, pm_w ((pm_w ((h 249 11) * 1103515245)) + 12345)), (1, Int.tdiv ((s_X12_fail_1 h) 249 (20 + ((s_X12_fail_1 h) 249 (84 + x1)))) 100), pU, (0, if Int.tmod (pm_ushr (pm_w ((pm_w ((h 249 11) * 1103515245)) + 12345)) 16) 1000 < ((s_X12_fail_1 h) 249 9) + (((s_X12_fail_1 h) 249 10) * (Int.tdiv ((s_X12_fail_1 h) 249 (20 + ((s_X12_fail_1 h) 249 (84 + x1)))) 100)) then 1 else 0)]; simp only [s_X12_fail_9, if_neg (Int.not_le.mpr c6), if_neg (c36)] at e ⊢; exact e
          · obtain ⟨o37, o38, o39, o40, o41⟩ := q42 c36
            refine WP.aload_n rfl rfl ⟨by decide, by decide⟩ ?_
            refine WP.getRF (b := 249) rfl rfl rfl ?_
            refine WP.sipush rfl ?_
            refine WP.iload_n rfl rfl ?_
            refine WP.iaddE rfl o37 ?_
            refine WP.lconst rfl ?_
            refine WP.lastore rfl ⟨by decide, by decide, by decide⟩ o38 ?_
            refine WP.aload_n rfl rfl ⟨by decide, by decide⟩ ?_
            refine WP.getRF (b := 259) rfl rfl rfl ?_
            refine WP.aload_n rfl rfl ⟨by decide, by decide⟩ ?_
            refine WP.sipush rfl ?_
            refine WP.iload_n rfl rfl ?_
            refine WP.iaddE rfl o39 ?_
            refine WP.callF (c_X12_at (154 + x1) (pm_upd (s_X12_fail_7 x1 h) 249 (144 + x1) 1) o40) rfl rfl (pm_cok rfl rfl (Or.inr ⟨_, _, rfl⟩) rfl rfl) rfl rfl ?_
            show WP 190 (132, [(14, 248), (0, x1), (0, pm_w ((pm_w ((h 249 11) * 1103515245)) + 12345)), (1, Int.tdiv ((s_X12_fail_1 h) 249 (20 + ((s_X12_fail_1 h) 249 (84 + x1)))) 100), pU, (0, if Int.tmod (pm_ushr (pm_w ((pm_w ((h 249 11) * 1103515245)) + 12345)) 16) 1000 < ((s_X12_fail_1 h) 249 9) + (((s_X12_fail_1 h) 249 10) * (Int.tdiv ((s_X12_fail_1 h) 249 (20 + ((s_X12_fail_1 h) 249 (84 + x1)))) 100)) then 1 else 0)], [(0, (pm_upd (s_X12_fail_7 x1 h) 249 (144 + x1) 1) 249 (154 + x1)), (1064, 259)], pm_upd (s_X12_fail_7 x1 h) 249 (144 + x1) 1) Q'
            refine WP.iconst rfl ?_
            refine WP.iastore rfl ⟨by decide, by decide, by decide⟩ o41 ?_
            show WP 190 (134, [(14, 248), (0, x1), (0, pm_w ((pm_w ((h 249 11) * 1103515245)) + 12345)), (1, Int.tdiv ((s_X12_fail_1 h) 249 (20 + ((s_X12_fail_1 h) 249 (84 + x1)))) 100), pU, (0, if Int.tmod (pm_ushr (pm_w ((pm_w ((h 249 11) * 1103515245)) + 12345)) 16) 1000 < ((s_X12_fail_1 h) 249 9) + (((s_X12_fail_1 h) 249 10) * (Int.tdiv ((s_X12_fail_1 h) 249 (20 + ((s_X12_fail_1 h) 249 (84 + x1)))) 100)) then 1 else 0)], [], s_X12_fail_8 x1 h) Q'
            have e := kk [(0, pm_w ((pm_w ((h 249 11) * 1103515245)) + 12345)), (1, Int.tdiv ((s_X12_fail_1 h) 249 (20 + ((s_X12_fail_1 h) 249 (84 + x1)))) 100), pU, (0, if Int.tmod (pm_ushr (pm_w ((pm_w ((h 249 11) * 1103515245)) + 12345)) 16) 1000 < ((s_X12_fail_1 h) 249 9) + (((s_X12_fail_1 h) 249 10) * (Int.tdiv ((s_X12_fail_1 h) 249 (20 + ((s_X12_fail_1 h) 249 (84 + x1)))) 100)) then 1 else 0)]; simp only [s_X12_fail_9, if_neg (Int.not_le.mpr c6), if_pos c36] at e ⊢; exact e
      refine k5 _ (fun us44 => ?_)
      refine WP.iincE (L' := [(14, 248), (0, x1 + 1), us44.getD 0 pU, us44.getD 1 pU, us44.getD 2 pU, us44.getD 3 pU]) rfl rfl o46 rfl ?_
      refine WP.goto rfl ?_
      exact kk [us44.getD 0 pU, us44.getD 1 pU, us44.getD 2 pU, us44.getD 3 pU] (x1 + 1, s_X12_fail_9 x1 h) (rfl)
  · intro hP hc
    generalize hs : (L_X12_fail_2 x1 h : Int × pH) = s at kk
    change P_X12_fail_2 (L_X12_fail_2 x1 h).1 (L_X12_fail_2 x1 h).2 at hP
    change ¬ C_X12_fail_2 (L_X12_fail_2 x1 h).1 (L_X12_fail_2 x1 h).2 at hc
    intro us
    show WP 190 (2, [(14, 248), (0, (L_X12_fail_2 x1 h).1), us.getD 0 pU, us.getD 1 pU, us.getD 2 pU, us.getD 3 pU], [], (L_X12_fail_2 x1 h).2) Q
    rw [hs] at hP hc ⊢
    obtain ⟨x1, h⟩ := s
    change P_X12_fail_2 x1 h at hP
    change ¬ (x1 < h 249 12) at hc
    unfold P_X12_fail_2 at hP
    show WP 190 (2, [(14, 248), (0, x1), us.getD 0 pU, us.getD 1 pU, us.getD 2 pU, us.getD 3 pU], [], h) Q
    refine WP.iload_n rfl rfl ?_
    refine WP.i2l rfl ?_
    refine WP.aload_n rfl rfl ⟨by decide, by decide⟩ ?_
    refine WP.getRF (b := 249) rfl rfl rfl ?_
    refine WP.bipush rfl ?_
    refine WP.laload rfl ⟨by decide, by decide, by decide⟩ (by decide) ?_
    refine WP.lcmp rfl ?_
    refine WP.nl_ge rfl (fun c1 => ?_) (fun c1 => ?_)
    · exact kk [us.getD 0 pU, us.getD 1 pU, us.getD 2 pU, us.getD 3 pU]
    · exact absurd (show x1 < h 249 12 from c1) hc
noncomputable def H_X12_fail (h : pH) : pH := (L_X12_fail_2 0 h).2
noncomputable def P_X12_fail (h : pH) : Prop := O_X12_fail_2 0 h
set_option maxHeartbeats 4000000 in
theorem w_X12_fail (h : pH) {Q : Option pV → pH → Prop} (hp : P_X12_fail h) (kk : Q (none) (H_X12_fail h)) : WP 190 (0, [(14, 248), pU, pU, pU, pU, pU], [], h) Q := by
  unfold P_X12_fail at hp
  have o47 := hp
  refine WP.iconst rfl ?_
  refine WP.istore_n (L' := [(14, 248), (0, 0), pU, pU, pU, pU]) rfl rfl ?_
  refine lp_X12_fail_2 0 h o47 (fun us48 => ?_) [pU, pU, pU, pU]
  show WP 190 (136, [(14, 248), (0, (L_X12_fail_2 0 h).1), us48.getD 0 pU, us48.getD 1 pU, us48.getD 2 pU, us48.getD 3 pU], [], (L_X12_fail_2 0 h).2) Q
  refine WP.retv rfl ?_; exact kk
theorem c_X12_fail (h : pH) (hp : P_X12_fail h) : CP 190 [(14, 248)] h (fun r h1 => r = none ∧ h1 = H_X12_fail h) := w_X12_fail h hp ⟨rfl, rfl⟩
noncomputable def s_X12_finish_1 (a1 : Int) (h : pH) : Int := if h 249 (344 + a1) = (-1) then 0 else if h 259 a1 = 0 then h 249 (164 + (h 249 (344 + a1))) else 0
noncomputable def s_X12_finish_2 (a1 : Int) (h : pH) : pH := pm_upd h 249 (296 + a1) ((h 249 (296 + a1)) + (s_X12_finish_1 a1 h))
noncomputable def s_X12_finish_3 (a1 : Int) (h : pH) : Int := if (s_X12_finish_2 a1 h) 259 a1 = 0 then if 3 ≤ s_X12_finish_1 a1 h then 0 else 6 else (s_X12_finish_2 a1 h) 259 a1
noncomputable def s_X12_finish_4 (a1 : Int) (h : pH) : Int := if s_X12_finish_3 a1 h = 0 then (s_X12_finish_2 a1 h) 249 (312 + a1) else s_X12_finish_3 a1 h
noncomputable def s_X12_finish_5 (a1 : Int) (h : pH) : pH := pm_upd (s_X12_finish_2 a1 h) 249 (312 + a1) (s_X12_finish_4 a1 h)
noncomputable def s_X12_finish_6 (a1 : Int) (h : pH) : Int := if (s_X12_finish_5 a1 h) 249 (232 + a1) ≤ (s_X12_finish_5 a1 h) 249 (296 + a1) then 2 else if (s_X12_finish_5 a1 h) 249 15 = (s_X12_finish_5 a1 h) 249 (264 + a1) then 3 else 0
noncomputable def s_X12_finish_7 (a1 : Int) (h : pH) : pH := pm_upd (s_X12_finish_5 a1 h) 249 (328 + a1) (s_X12_finish_6 a1 h)
noncomputable def s_X12_finish_8 (a1 : Int) (h : pH) : Int := if s_X12_finish_1 a1 h = h 249 (232 + a1) then 1 else 0
noncomputable def s_X12_finish_9 (a1 : Int) (h : pH) : pH := pm_upd h 249 (296 + a1) ((h 249 (296 + a1)) + (s_X12_finish_8 a1 h))
noncomputable def s_X12_finish_10 (a1 : Int) (h : pH) : Int := if (pm_upd (s_X12_finish_9 a1 h) 249 (360 + a1) 1) 259 a1 = 0 then 6 else (pm_upd (s_X12_finish_9 a1 h) 249 (360 + a1) 1) 259 a1
noncomputable def s_X12_finish_11 (a1 : Int) (h : pH) : pH := pm_upd (pm_upd (s_X12_finish_9 a1 h) 249 (360 + a1) 1) 249 (312 + a1) (s_X12_finish_10 a1 h)
noncomputable def s_X12_finish_12 (a1 : Int) (h : pH) : pH := if s_X12_finish_1 a1 h = h 249 (232 + a1) then s_X12_finish_9 a1 h else if (s_X12_finish_9 a1 h) 249 (360 + a1) = 0 then s_X12_finish_11 a1 h else s_X12_finish_9 a1 h
noncomputable def s_X12_finish_13 (a1 : Int) (h : pH) : Int := if (s_X12_finish_12 a1 h) 249 (264 + a1) ≤ (s_X12_finish_12 a1 h) 249 15 then if (s_X12_finish_12 a1 h) 249 (360 + a1) = 0 then 2 else 3 else 0
noncomputable def s_X12_finish_14 (a1 : Int) (h : pH) : pH := pm_upd (s_X12_finish_12 a1 h) 249 (328 + a1) (s_X12_finish_13 a1 h)
noncomputable def s_X12_finish_15 (a1 : Int) (h : pH) : pH := if h 249 (200 + a1) = 0 then s_X12_finish_7 a1 h else s_X12_finish_14 a1 h
noncomputable def s_X12_finish_16 (a1 : Int) (h : pH) : Int := if h 249 (344 + a1) = (-1) then (-1) else if (s_X12_finish_15 a1 h) 249 (164 + (h 249 (344 + a1))) ≤ 0 then (-1) else h 249 (344 + a1)
noncomputable def s_X12_finish_17 (a1 : Int) (h : pH) : pH := pm_upd (s_X12_finish_15 a1 h) 249 (344 + a1) (s_X12_finish_16 a1 h)
noncomputable def H_X12_finish (a1 : Int) (h : pH) : pH := s_X12_finish_17 a1 h
noncomputable def P_X12_finish (a1 : Int) (h : pH) : Prop := (fx_i (344 + a1)) ∧ (P_X12_at (344 + a1) h) ∧ (((¬ h 249 (344 + a1) = (-1)) → ((0 ≤ a1 ∧ a1 < 16) ∧ ((h 259 a1 = 0) → ((fx_i (164 + (h 249 (344 + a1)))) ∧ (0 ≤ 164 + (h 249 (344 + a1)) ∧ 164 + (h 249 (344 + a1)) < 620)))))) ∧ (fx_i (200 + a1)) ∧ (0 ≤ 200 + a1 ∧ 200 + a1 < 620) ∧ ((((h 249 (200 + a1) = 0) → ((fx_i (296 + a1)) ∧ (0 ≤ 296 + a1 ∧ 296 + a1 < 620) ∧ (fx_l ((h 249 (296 + a1)) + (s_X12_finish_1 a1 h))) ∧ (0 ≤ a1 ∧ a1 < 16) ∧ (fx_i (312 + a1)) ∧ (((s_X12_finish_3 a1 h = 0) → ((0 ≤ 312 + a1 ∧ 312 + a1 < 620)))) ∧ (0 ≤ 312 + a1 ∧ 312 + a1 < 620) ∧ (fx_i (232 + a1)) ∧ (0 ≤ 232 + a1 ∧ 232 + a1 < 620) ∧ (fx_i (328 + a1)) ∧ (((¬ ((s_X12_finish_5 a1 h) 249 (232 + a1) ≤ (s_X12_finish_5 a1 h) 249 (296 + a1))) → ((fx_i (264 + a1)) ∧ (0 ≤ 264 + a1 ∧ 264 + a1 < 620)))) ∧ (0 ≤ 328 + a1 ∧ 328 + a1 < 620))) ∧ ((¬ h 249 (200 + a1) = 0) → ((fx_i (232 + a1)) ∧ (0 ≤ 232 + a1 ∧ 232 + a1 < 620) ∧ (fx_i (296 + a1)) ∧ (0 ≤ 296 + a1 ∧ 296 + a1 < 620) ∧ (fx_l ((h 249 (296 + a1)) + (s_X12_finish_8 a1 h))) ∧ (((¬ (s_X12_finish_1 a1 h = h 249 (232 + a1))) → ((fx_i (360 + a1)) ∧ (0 ≤ 360 + a1 ∧ 360 + a1 < 620) ∧ (((s_X12_finish_9 a1 h) 249 (360 + a1) = 0) → ((fx_i (312 + a1)) ∧ (0 ≤ a1 ∧ a1 < 16) ∧ (0 ≤ 312 + a1 ∧ 312 + a1 < 620)))))) ∧ (fx_i (328 + a1)) ∧ (fx_i (264 + a1)) ∧ (0 ≤ 264 + a1 ∧ 264 + a1 < 620) ∧ ((((s_X12_finish_12 a1 h) 249 (264 + a1) ≤ (s_X12_finish_12 a1 h) 249 15) → ((fx_i (360 + a1)) ∧ (0 ≤ 360 + a1 ∧ 360 + a1 < 620)))) ∧ (0 ≤ 328 + a1 ∧ 328 + a1 < 620))))) ∧ (((¬ h 249 (344 + a1) = (-1)) → ((fx_i (164 + (h 249 (344 + a1)))) ∧ (0 ≤ 164 + (h 249 (344 + a1)) ∧ 164 + (h 249 (344 + a1)) < 620)))) ∧ (0 ≤ 344 + a1 ∧ 344 + a1 < 620)
set_option maxHeartbeats 4000000 in
theorem w_X12_finish (a1 : Int) (h : pH) {Q : Option pV → pH → Prop} (hp : P_X12_finish a1 h) (kk : Q (none) (H_X12_finish a1 h)) : WP 191 (0, [(14, 248), (0, a1), pU, pU, pU, pU, pU], [], h) Q := by
  unfold P_X12_finish at hp
  obtain ⟨o1, o2, q12, o13, o14, q88, q96, o97⟩ := hp
  refine WP.aload_n rfl rfl ⟨by decide, by decide⟩ ?_
  refine WP.sipush rfl ?_
  refine WP.iload_n rfl rfl ?_
  refine WP.iaddE rfl o1 ?_
  refine WP.callF (c_X12_at (344 + a1) h o2) rfl rfl (pm_cok rfl rfl (Or.inr ⟨_, _, rfl⟩) rfl rfl) rfl rfl ?_
  show WP 191 (5, [(14, 248), (0, a1), pU, pU, pU, pU, pU], [(0, h 249 (344 + a1))], h) Q
  refine WP.istore_n (L' := [(14, 248), (0, a1), (0, h 249 (344 + a1)), pU, pU, pU, pU]) rfl rfl ?_
  refine WP.iload_n rfl rfl ?_
  refine WP.iconst rfl ?_
  have k3 : ∀ Q' : Option pV → pH → Prop, (WP 191 (22, [(14, 248), (0, a1), (0, h 249 (344 + a1)), pU, pU, pU, pU], [(1, s_X12_finish_1 a1 h)], h) Q') → WP 191 (8, [(14, 248), (0, a1), (0, h 249 (344 + a1)), pU, pU, pU, pU], [(0, (-1)), (0, h 249 (344 + a1))], h) Q' := fun Q' kk => by
    have q10 := q12
    refine WP.ni_eq rfl (fun c4 => ?_) (fun c4 => ?_)
    · refine WP.lconst rfl ?_
      refine WP.goto rfl ?_
      have e := kk; simp only [s_X12_finish_1, if_pos c4] at e ⊢; exact e
    · obtain ⟨o5, q9⟩ := q10 c4
      refine WP.aload_n rfl rfl ⟨by decide, by decide⟩ ?_
      refine WP.getRF (b := 259) rfl rfl rfl ?_
      refine WP.iload_n rfl rfl ?_
      refine WP.iaload rfl ⟨by decide, by decide, by decide⟩ o5 ?_
      refine WP.nz_eq rfl (fun c6 => ?_) (fun c6 => ?_)
      · obtain ⟨o7, o8⟩ := q9 c6
        refine WP.aload_n rfl rfl ⟨by decide, by decide⟩ ?_
        refine WP.getRF (b := 249) rfl rfl rfl ?_
        refine WP.sipush rfl ?_
        refine WP.iload_n rfl rfl ?_
        refine WP.iaddE rfl o7 ?_
        refine WP.laload rfl ⟨by decide, by decide, by decide⟩ o8 ?_
        have e := kk; simp only [s_X12_finish_1, if_neg (c4), if_pos c6] at e ⊢; exact e
      · refine WP.lconst rfl ?_
        refine WP.goto rfl ?_
        have e := kk; simp only [s_X12_finish_1, if_neg (c4), if_neg (c6)] at e ⊢; exact e
  refine k3 _ ?_
  refine WP.lstore_n (L' := [(14, 248), (0, a1), (0, h 249 (344 + a1)), (1, s_X12_finish_1 a1 h), pU, pU, pU]) rfl rfl ?_
  refine WP.aload_n rfl rfl ⟨by decide, by decide⟩ ?_
  refine WP.getRF (b := 249) rfl rfl rfl ?_
  refine WP.sipush rfl ?_
  refine WP.iload_n rfl rfl ?_
  refine WP.iaddE rfl o13 ?_
  refine WP.laload rfl ⟨by decide, by decide, by decide⟩ o14 ?_
  refine WP.lconst rfl ?_
  refine WP.lcmp rfl ?_
  have k15 : ∀ Q' : Option pV → pH → Prop, (∀ us87 : List pV, WP 191 (216, [(14, 248), (0, a1), (0, h 249 (344 + a1)), (1, s_X12_finish_1 a1 h), pU, us87.getD 0 pU, us87.getD 1 pU], [], s_X12_finish_15 a1 h) Q') → WP 191 (31, [(14, 248), (0, a1), (0, h 249 (344 + a1)), (1, s_X12_finish_1 a1 h), pU, pU, pU], [(0, pm_lcmp (h 249 (200 + a1)) 0)], h) Q' := fun Q' kk => by
    have q86 := q88
    refine WP.nl_ne rfl (fun c16 => ?_) (fun c16 => ?_)
    · obtain ⟨o48, o49, o53, o54, o58, q73, o74, o75, o76, q84, o85⟩ := q86.2 c16
      refine WP.lload_n rfl rfl ?_
      refine WP.aload_n rfl rfl ⟨by decide, by decide⟩ ?_
      refine WP.getRF (b := 249) rfl rfl rfl ?_
      refine WP.sipush rfl ?_
      refine WP.iload_n rfl rfl ?_
      refine WP.iaddE rfl o48 ?_
      refine WP.laload rfl ⟨by decide, by decide, by decide⟩ o49 ?_
      refine WP.lcmp rfl ?_
      have k50 : ∀ Q' : Option pV → pH → Prop, (WP 191 (133, [(14, 248), (0, a1), (0, h 249 (344 + a1)), (1, s_X12_finish_1 a1 h), pU, pU, pU], [(0, if s_X12_finish_1 a1 h = h 249 (232 + a1) then 1 else 0)], h) Q') → WP 191 (129, [(14, 248), (0, a1), (0, h 249 (344 + a1)), (1, s_X12_finish_1 a1 h), pU, pU, pU], [(0, pm_lcmp (s_X12_finish_1 a1 h) (h 249 (232 + a1)))], h) Q' := fun Q' kk => by
        refine WP.nl_ne rfl (fun c51 => ?_) (fun c51 => ?_)
        · refine WP.iconst rfl ?_
          have e := kk; simp only [if_neg (c51), if_neg (show ¬ (s_X12_finish_1 a1 h = h 249 (232 + a1)) from c51)] at e ⊢; exact e
        · refine WP.iconst rfl ?_
          refine WP.goto rfl ?_
          have e := kk; simp only [if_pos c51, if_pos (show s_X12_finish_1 a1 h = h 249 (232 + a1) from c51)] at e ⊢; exact e
      refine k50 _ ?_
      refine WP.istore (L' := [(14, 248), (0, a1), (0, h 249 (344 + a1)), (1, s_X12_finish_1 a1 h), pU, (0, if s_X12_finish_1 a1 h = h 249 (232 + a1) then 1 else 0), pU]) rfl rfl ?_
      refine WP.aload_n rfl rfl ⟨by decide, by decide⟩ ?_
      refine WP.getRF (b := 249) rfl rfl rfl ?_
      refine WP.sipush rfl ?_
      refine WP.iload_n rfl rfl ?_
      refine WP.iaddE rfl o53 ?_
      refine WP.dup2 rfl (by decide) (by decide) ?_
      refine WP.laload rfl ⟨by decide, by decide, by decide⟩ o54 ?_
      refine WP.iload rfl rfl ?_
      have k55 : ∀ Q' : Option pV → pH → Prop, (WP 191 (146, [(14, 248), (0, a1), (0, h 249 (344 + a1)), (1, s_X12_finish_1 a1 h), pU, (0, if s_X12_finish_1 a1 h = h 249 (232 + a1) then 1 else 0), pU], [(1, s_X12_finish_8 a1 h), (1, h 249 (296 + a1)), (0, 296 + a1), (3481, 249)], h) Q') → WP 191 (142, [(14, 248), (0, a1), (0, h 249 (344 + a1)), (1, s_X12_finish_1 a1 h), pU, (0, if s_X12_finish_1 a1 h = h 249 (232 + a1) then 1 else 0), pU], [(0, if s_X12_finish_1 a1 h = h 249 (232 + a1) then 1 else 0), (1, h 249 (296 + a1)), (0, 296 + a1), (3481, 249)], h) Q' := fun Q' kk => by
        refine WP.nb_eq rfl (fun c56 => ?_) (fun c56 => ?_)
        · refine WP.lconst rfl ?_
          have e := kk; simp only [s_X12_finish_8, if_neg (c56)] at e ⊢; exact e
        · refine WP.lconst rfl ?_
          refine WP.goto rfl ?_
          have e := kk; simp only [s_X12_finish_8, if_pos c56] at e ⊢; exact e
      refine k55 _ ?_
      refine WP.laddE rfl o58 ?_
      refine WP.lastore rfl ⟨by decide, by decide, by decide⟩ o54 ?_
      show WP 191 (148, [(14, 248), (0, a1), (0, h 249 (344 + a1)), (1, s_X12_finish_1 a1 h), pU, (0, if s_X12_finish_1 a1 h = h 249 (232 + a1) then 1 else 0), pU], [], s_X12_finish_9 a1 h) Q'
      refine WP.iload rfl rfl ?_
      have k59 : ∀ Q' : Option pV → pH → Prop, (WP 191 (184, [(14, 248), (0, a1), (0, h 249 (344 + a1)), (1, s_X12_finish_1 a1 h), pU, (0, if s_X12_finish_1 a1 h = h 249 (232 + a1) then 1 else 0), pU], [], s_X12_finish_12 a1 h) Q') → WP 191 (149, [(14, 248), (0, a1), (0, h 249 (344 + a1)), (1, s_X12_finish_1 a1 h), pU, (0, if s_X12_finish_1 a1 h = h 249 (232 + a1) then 1 else 0), pU], [(0, if s_X12_finish_1 a1 h = h 249 (232 + a1) then 1 else 0)], s_X12_finish_9 a1 h) Q' := fun Q' kk => by
        have q71 := q73
        refine WP.nb_ne rfl (fun c60 => ?_) (fun c60 => ?_)
        · have e := kk; simp only [s_X12_finish_12, if_pos c60] at e ⊢; exact e
        · obtain ⟨o61, o62, q70⟩ := q71 c60
          refine WP.aload_n rfl rfl ⟨by decide, by decide⟩ ?_
          refine WP.getRF (b := 249) rfl rfl rfl ?_
          refine WP.sipush rfl ?_
          refine WP.iload_n rfl rfl ?_
          refine WP.iaddE rfl o61 ?_
          refine WP.laload rfl ⟨by decide, by decide, by decide⟩ o62 ?_
          refine WP.lconst rfl ?_
          refine WP.lcmp rfl ?_
          refine WP.nl_ne rfl (fun c63 => ?_) (fun c63 => ?_)
          · have e := kk; simp only [s_X12_finish_12, if_neg (c60), if_neg (c63)] at e ⊢; exact e
          · obtain ⟨o64, o65, o69⟩ := q70 c63
            refine WP.aload_n rfl rfl ⟨by decide, by decide⟩ ?_
            refine WP.getRF (b := 249) rfl rfl rfl ?_
            refine WP.sipush rfl ?_
            refine WP.iload_n rfl rfl ?_
            refine WP.iaddE rfl o61 ?_
            refine WP.lconst rfl ?_
            refine WP.lastore rfl ⟨by decide, by decide, by decide⟩ o62 ?_
            refine WP.aload_n rfl rfl ⟨by decide, by decide⟩ ?_
            refine WP.getRF (b := 249) rfl rfl rfl ?_
            refine WP.sipush rfl ?_
            refine WP.iload_n rfl rfl ?_
            refine WP.iaddE rfl o64 ?_
            refine WP.aload_n rfl rfl ⟨by decide, by decide⟩ ?_
            refine WP.getRF (b := 259) rfl rfl rfl ?_
            refine WP.iload_n rfl rfl ?_
            refine WP.iaload rfl ⟨by decide, by decide, by decide⟩ o65 ?_
            have k66 : ∀ Q' : Option pV → pH → Prop, (WP 191 (183, [(14, 248), (0, a1), (0, h 249 (344 + a1)), (1, s_X12_finish_1 a1 h), pU, (0, if s_X12_finish_1 a1 h = h 249 (232 + a1) then 1 else 0), pU], [(1, s_X12_finish_10 a1 h), (0, 312 + a1), (3481, 249)], pm_upd (s_X12_finish_9 a1 h) 249 (360 + a1) 1) Q') → WP 191 (175, [(14, 248), (0, a1), (0, h 249 (344 + a1)), (1, s_X12_finish_1 a1 h), pU, (0, if s_X12_finish_1 a1 h = h 249 (232 + a1) then 1 else 0), pU], [(0, (pm_upd (s_X12_finish_9 a1 h) 249 (360 + a1) 1) 259 a1), (0, 312 + a1), (3481, 249)], pm_upd (s_X12_finish_9 a1 h) 249 (360 + a1) 1) Q' := fun Q' kk => by
              refine WP.nz_eq rfl (fun c67 => ?_) (fun c67 => ?_)
              · refine WP.ldc2_w rfl ?_
                have e := kk; simp only [s_X12_finish_10, if_pos c67] at e ⊢; exact e
              · refine WP.aload_n rfl rfl ⟨by decide, by decide⟩ ?_
                refine WP.getRF (b := 259) rfl rfl rfl ?_
                refine WP.iload_n rfl rfl ?_
                refine WP.iaload rfl ⟨by decide, by decide, by decide⟩ o65 ?_
                refine WP.i2l rfl ?_
                refine WP.goto rfl ?_
                have e := kk; simp only [s_X12_finish_10, if_neg (c67)] at e ⊢; exact e
            refine k66 _ ?_
            refine WP.lastore rfl ⟨by decide, by decide, by decide⟩ o69 ?_
            show WP 191 (184, [(14, 248), (0, a1), (0, h 249 (344 + a1)), (1, s_X12_finish_1 a1 h), pU, (0, if s_X12_finish_1 a1 h = h 249 (232 + a1) then 1 else 0), pU], [], s_X12_finish_11 a1 h) Q'
            have e := kk; simp only [s_X12_finish_12, if_neg (c60), if_pos c63] at e ⊢; exact e
      refine k59 _ ?_
      refine WP.aload_n rfl rfl ⟨by decide, by decide⟩ ?_
      refine WP.getRF (b := 249) rfl rfl rfl ?_
      refine WP.sipush rfl ?_
      refine WP.iload_n rfl rfl ?_
      refine WP.iaddE rfl o74 ?_
      refine WP.aload_n rfl rfl ⟨by decide, by decide⟩ ?_
      refine WP.getRF (b := 249) rfl rfl rfl ?_
      refine WP.bipush rfl ?_
      refine WP.laload rfl ⟨by decide, by decide, by decide⟩ (by decide) ?_
      refine WP.aload_n rfl rfl ⟨by decide, by decide⟩ ?_
      refine WP.getRF (b := 249) rfl rfl rfl ?_
      refine WP.sipush rfl ?_
      refine WP.iload_n rfl rfl ?_
      refine WP.iaddE rfl o75 ?_
      refine WP.laload rfl ⟨by decide, by decide, by decide⟩ o76 ?_
      refine WP.lcmp rfl ?_
      have k77 : ∀ Q' : Option pV → pH → Prop, (WP 191 (215, [(14, 248), (0, a1), (0, h 249 (344 + a1)), (1, s_X12_finish_1 a1 h), pU, (0, if s_X12_finish_1 a1 h = h 249 (232 + a1) then 1 else 0), pU], [(1, s_X12_finish_13 a1 h), (0, 328 + a1), (3481, 249)], s_X12_finish_12 a1 h) Q') → WP 191 (200, [(14, 248), (0, a1), (0, h 249 (344 + a1)), (1, s_X12_finish_1 a1 h), pU, (0, if s_X12_finish_1 a1 h = h 249 (232 + a1) then 1 else 0), pU], [(0, pm_lcmp ((s_X12_finish_12 a1 h) 249 15) ((s_X12_finish_12 a1 h) 249 (264 + a1))), (0, 328 + a1), (3481, 249)], s_X12_finish_12 a1 h) Q' := fun Q' kk => by
        have q82 := q84
        refine WP.nl_ge rfl (fun c78 => ?_) (fun c78 => ?_)
        · obtain ⟨o79, o80⟩ := q82 c78
          refine WP.aload_n rfl rfl ⟨by decide, by decide⟩ ?_
          refine WP.getRF (b := 249) rfl rfl rfl ?_
          refine WP.sipush rfl ?_
          refine WP.iload_n rfl rfl ?_
          refine WP.iaddE rfl o79 ?_
          refine WP.laload rfl ⟨by decide, by decide, by decide⟩ o80 ?_
          refine WP.lconst rfl ?_
          refine WP.lcmp rfl ?_
          refine WP.nl_ne rfl (fun c81 => ?_) (fun c81 => ?_)
          · refine WP.ldc2_w rfl ?_
            have e := kk; simp only [s_X12_finish_13, if_pos c78, if_neg (c81)] at e ⊢; exact e
          · refine WP.ldc2_w rfl ?_
            refine WP.goto rfl ?_
            have e := kk; simp only [s_X12_finish_13, if_pos c78, if_pos c81] at e ⊢; exact e
        · refine WP.lconst rfl ?_
          refine WP.goto rfl ?_
          have e := kk; simp only [s_X12_finish_13, if_neg (Int.not_le.mpr c78)] at e ⊢; exact e
      refine k77 _ ?_
      refine WP.lastore rfl ⟨by decide, by decide, by decide⟩ o85 ?_
      show WP 191 (216, [(14, 248), (0, a1), (0, h 249 (344 + a1)), (1, s_X12_finish_1 a1 h), pU, (0, if s_X12_finish_1 a1 h = h 249 (232 + a1) then 1 else 0), pU], [], s_X12_finish_14 a1 h) Q'
      have e := kk [(0, if s_X12_finish_1 a1 h = h 249 (232 + a1) then 1 else 0), pU]; simp only [s_X12_finish_15, if_neg (c16)] at e ⊢; exact e
    · obtain ⟨o17, o18, o19, o20, o25, q31, o32, o33, o34, o38, q46, o47⟩ := q86.1 c16
      refine WP.aload_n rfl rfl ⟨by decide, by decide⟩ ?_
      refine WP.getRF (b := 249) rfl rfl rfl ?_
      refine WP.sipush rfl ?_
      refine WP.iload_n rfl rfl ?_
      refine WP.iaddE rfl o17 ?_
      refine WP.dup2 rfl (by decide) (by decide) ?_
      refine WP.laload rfl ⟨by decide, by decide, by decide⟩ o18 ?_
      refine WP.lload_n rfl rfl ?_
      refine WP.laddE rfl o19 ?_
      refine WP.lastore rfl ⟨by decide, by decide, by decide⟩ o18 ?_
      show WP 191 (42, [(14, 248), (0, a1), (0, h 249 (344 + a1)), (1, s_X12_finish_1 a1 h), pU, pU, pU], [], s_X12_finish_2 a1 h) Q'
      refine WP.aload_n rfl rfl ⟨by decide, by decide⟩ ?_
      refine WP.getRF (b := 259) rfl rfl rfl ?_
      refine WP.iload_n rfl rfl ?_
      refine WP.iaload rfl ⟨by decide, by decide, by decide⟩ o20 ?_
      have k21 : ∀ Q' : Option pV → pH → Prop, (WP 191 (59, [(14, 248), (0, a1), (0, h 249 (344 + a1)), (1, s_X12_finish_1 a1 h), pU, pU, pU], [(0, s_X12_finish_3 a1 h)], s_X12_finish_2 a1 h) Q') → WP 191 (46, [(14, 248), (0, a1), (0, h 249 (344 + a1)), (1, s_X12_finish_1 a1 h), pU, pU, pU], [(0, (s_X12_finish_2 a1 h) 259 a1)], s_X12_finish_2 a1 h) Q' := fun Q' kk => by
        refine WP.nz_eq rfl (fun c22 => ?_) (fun c22 => ?_)
        · refine WP.lload_n rfl rfl ?_
          refine WP.ldc2_w rfl ?_
          refine WP.lcmp rfl ?_
          refine WP.nl_ge rfl (fun c23 => ?_) (fun c23 => ?_)
          · refine WP.iconst rfl ?_
            have e := kk; simp only [s_X12_finish_3, if_pos c22, if_pos c23] at e ⊢; exact e
          · refine WP.bipush rfl ?_
            refine WP.goto rfl ?_
            have e := kk; simp only [s_X12_finish_3, if_pos c22, if_neg (Int.not_le.mpr c23)] at e ⊢; exact e
        · refine WP.aload_n rfl rfl ⟨by decide, by decide⟩ ?_
          refine WP.getRF (b := 259) rfl rfl rfl ?_
          refine WP.iload_n rfl rfl ?_
          refine WP.iaload rfl ⟨by decide, by decide, by decide⟩ o20 ?_
          refine WP.goto rfl ?_
          have e := kk; simp only [s_X12_finish_3, if_neg (c22)] at e ⊢; exact e
      refine k21 _ ?_
      refine WP.istore (L' := [(14, 248), (0, a1), (0, h 249 (344 + a1)), (1, s_X12_finish_1 a1 h), pU, (0, s_X12_finish_3 a1 h), pU]) rfl rfl ?_
      refine WP.aload_n rfl rfl ⟨by decide, by decide⟩ ?_
      refine WP.getRF (b := 249) rfl rfl rfl ?_
      refine WP.sipush rfl ?_
      refine WP.iload_n rfl rfl ?_
      refine WP.iaddE rfl o25 ?_
      refine WP.iload rfl rfl ?_
      have k26 : ∀ Q' : Option pV → pH → Prop, (WP 191 (76, [(14, 248), (0, a1), (0, h 249 (344 + a1)), (1, s_X12_finish_1 a1 h), pU, (0, s_X12_finish_3 a1 h), pU], [(1, s_X12_finish_4 a1 h), (0, 312 + a1), (3481, 249)], s_X12_finish_2 a1 h) Q') → WP 191 (66, [(14, 248), (0, a1), (0, h 249 (344 + a1)), (1, s_X12_finish_1 a1 h), pU, (0, s_X12_finish_3 a1 h), pU], [(0, s_X12_finish_3 a1 h), (0, 312 + a1), (3481, 249)], s_X12_finish_2 a1 h) Q' := fun Q' kk => by
        have q29 := q31
        refine WP.nz_ne rfl (fun c27 => ?_) (fun c27 => ?_)
        · refine WP.iload rfl rfl ?_
          refine WP.i2l rfl ?_
          have e := kk; simp only [s_X12_finish_4, if_neg (c27)] at e ⊢; exact e
        · have o28 := q29 c27
          refine WP.aload_n rfl rfl ⟨by decide, by decide⟩ ?_
          refine WP.getRF (b := 249) rfl rfl rfl ?_
          refine WP.sipush rfl ?_
          refine WP.iload_n rfl rfl ?_
          refine WP.iaddE rfl o25 ?_
          refine WP.laload rfl ⟨by decide, by decide, by decide⟩ o28 ?_
          refine WP.goto rfl ?_
          have e := kk; simp only [s_X12_finish_4, if_pos c27] at e ⊢; exact e
      refine k26 _ ?_
      refine WP.lastore rfl ⟨by decide, by decide, by decide⟩ o32 ?_
      show WP 191 (77, [(14, 248), (0, a1), (0, h 249 (344 + a1)), (1, s_X12_finish_1 a1 h), pU, (0, s_X12_finish_3 a1 h), pU], [], s_X12_finish_5 a1 h) Q'
      refine WP.aload_n rfl rfl ⟨by decide, by decide⟩ ?_
      refine WP.getRF (b := 249) rfl rfl rfl ?_
      refine WP.sipush rfl ?_
      refine WP.iload_n rfl rfl ?_
      refine WP.iaddE rfl o17 ?_
      refine WP.laload rfl ⟨by decide, by decide, by decide⟩ o18 ?_
      refine WP.aload_n rfl rfl ⟨by decide, by decide⟩ ?_
      refine WP.getRF (b := 249) rfl rfl rfl ?_
      refine WP.sipush rfl ?_
      refine WP.iload_n rfl rfl ?_
      refine WP.iaddE rfl o33 ?_
      refine WP.laload rfl ⟨by decide, by decide, by decide⟩ o34 ?_
      refine WP.lcmp rfl ?_
      have k35 : ∀ Q' : Option pV → pH → Prop, (WP 191 (94, [(14, 248), (0, a1), (0, h 249 (344 + a1)), (1, s_X12_finish_1 a1 h), pU, (0, s_X12_finish_3 a1 h), pU], [(0, if (s_X12_finish_5 a1 h) 249 (232 + a1) ≤ (s_X12_finish_5 a1 h) 249 (296 + a1) then 1 else 0)], s_X12_finish_5 a1 h) Q') → WP 191 (90, [(14, 248), (0, a1), (0, h 249 (344 + a1)), (1, s_X12_finish_1 a1 h), pU, (0, s_X12_finish_3 a1 h), pU], [(0, pm_lcmp ((s_X12_finish_5 a1 h) 249 (296 + a1)) ((s_X12_finish_5 a1 h) 249 (232 + a1)))], s_X12_finish_5 a1 h) Q' := fun Q' kk => by
        refine WP.nl_lt rfl (fun c36 => ?_) (fun c36 => ?_)
        · refine WP.iconst rfl ?_
          have e := kk; simp only [if_pos c36, if_neg (show ¬ ((s_X12_finish_5 a1 h) 249 (232 + a1) ≤ (s_X12_finish_5 a1 h) 249 (296 + a1)) from Int.not_le.mpr c36)] at e ⊢; exact e
        · refine WP.iconst rfl ?_
          refine WP.goto rfl ?_
          have e := kk; simp only [if_neg (Int.not_lt.mpr c36), if_pos (show (s_X12_finish_5 a1 h) 249 (232 + a1) ≤ (s_X12_finish_5 a1 h) 249 (296 + a1) from c36)] at e ⊢; exact e
      refine k35 _ ?_
      refine WP.istore (L' := [(14, 248), (0, a1), (0, h 249 (344 + a1)), (1, s_X12_finish_1 a1 h), pU, (0, s_X12_finish_3 a1 h), (0, if (s_X12_finish_5 a1 h) 249 (232 + a1) ≤ (s_X12_finish_5 a1 h) 249 (296 + a1) then 1 else 0)]) rfl rfl ?_
      refine WP.aload_n rfl rfl ⟨by decide, by decide⟩ ?_
      refine WP.getRF (b := 249) rfl rfl rfl ?_
      refine WP.sipush rfl ?_
      refine WP.iload_n rfl rfl ?_
      refine WP.iaddE rfl o38 ?_
      refine WP.iload rfl rfl ?_
      have k39 : ∀ Q' : Option pV → pH → Prop, (WP 191 (119, [(14, 248), (0, a1), (0, h 249 (344 + a1)), (1, s_X12_finish_1 a1 h), pU, (0, s_X12_finish_3 a1 h), (0, if (s_X12_finish_5 a1 h) 249 (232 + a1) ≤ (s_X12_finish_5 a1 h) 249 (296 + a1) then 1 else 0)], [(1, s_X12_finish_6 a1 h), (0, 328 + a1), (3481, 249)], s_X12_finish_5 a1 h) Q') → WP 191 (101, [(14, 248), (0, a1), (0, h 249 (344 + a1)), (1, s_X12_finish_1 a1 h), pU, (0, s_X12_finish_3 a1 h), (0, if (s_X12_finish_5 a1 h) 249 (232 + a1) ≤ (s_X12_finish_5 a1 h) 249 (296 + a1) then 1 else 0)], [(0, if (s_X12_finish_5 a1 h) 249 (232 + a1) ≤ (s_X12_finish_5 a1 h) 249 (296 + a1) then 1 else 0), (0, 328 + a1), (3481, 249)], s_X12_finish_5 a1 h) Q' := fun Q' kk => by
        have q44 := q46
        refine WP.nb_eq rfl (fun c40 => ?_) (fun c40 => ?_)
        · obtain ⟨o41, o42⟩ := q44 c40
          refine WP.aload_n rfl rfl ⟨by decide, by decide⟩ ?_
          refine WP.getRF (b := 249) rfl rfl rfl ?_
          refine WP.bipush rfl ?_
          refine WP.laload rfl ⟨by decide, by decide, by decide⟩ (by decide) ?_
          refine WP.aload_n rfl rfl ⟨by decide, by decide⟩ ?_
          refine WP.getRF (b := 249) rfl rfl rfl ?_
          refine WP.sipush rfl ?_
          refine WP.iload_n rfl rfl ?_
          refine WP.iaddE rfl o41 ?_
          refine WP.laload rfl ⟨by decide, by decide, by decide⟩ o42 ?_
          refine WP.lcmp rfl ?_
          refine WP.nl_ne rfl (fun c43 => ?_) (fun c43 => ?_)
          · refine WP.lconst rfl ?_
            have e := kk; simp only [s_X12_finish_6, if_neg (c40), if_neg (c43)] at e ⊢; exact e
          · refine WP.ldc2_w rfl ?_
            refine WP.goto rfl ?_
            have e := kk; simp only [s_X12_finish_6, if_neg (c40), if_pos c43] at e ⊢; exact e
        · refine WP.ldc2_w rfl ?_
          refine WP.goto rfl ?_
          have e := kk; simp only [s_X12_finish_6, if_pos c40] at e ⊢; exact e
      refine k39 _ ?_
      refine WP.lastore rfl ⟨by decide, by decide, by decide⟩ o47 ?_
      show WP 191 (120, [(14, 248), (0, a1), (0, h 249 (344 + a1)), (1, s_X12_finish_1 a1 h), pU, (0, s_X12_finish_3 a1 h), (0, if (s_X12_finish_5 a1 h) 249 (232 + a1) ≤ (s_X12_finish_5 a1 h) 249 (296 + a1) then 1 else 0)], [], s_X12_finish_7 a1 h) Q'
      refine WP.goto rfl ?_
      have e := kk [(0, s_X12_finish_3 a1 h), (0, if (s_X12_finish_5 a1 h) 249 (232 + a1) ≤ (s_X12_finish_5 a1 h) 249 (296 + a1) then 1 else 0)]; simp only [s_X12_finish_15, if_pos c16] at e ⊢; exact e
  refine k15 _ (fun us87 => ?_)
  refine WP.aload_n rfl rfl ⟨by decide, by decide⟩ ?_
  refine WP.getRF (b := 249) rfl rfl rfl ?_
  refine WP.sipush rfl ?_
  refine WP.iload_n rfl rfl ?_
  refine WP.iaddE rfl o1 ?_
  refine WP.iload_n rfl rfl ?_
  refine WP.iconst rfl ?_
  have k89 : ∀ Q' : Option pV → pH → Prop, (WP 191 (237, [(14, 248), (0, a1), (0, h 249 (344 + a1)), (1, s_X12_finish_1 a1 h), pU, us87.getD 0 pU, us87.getD 1 pU], [(1, s_X12_finish_16 a1 h), (0, 344 + a1), (3481, 249)], s_X12_finish_15 a1 h) Q') → WP 191 (223, [(14, 248), (0, a1), (0, h 249 (344 + a1)), (1, s_X12_finish_1 a1 h), pU, us87.getD 0 pU, us87.getD 1 pU], [(0, (-1)), (0, h 249 (344 + a1)), (0, 344 + a1), (3481, 249)], s_X12_finish_15 a1 h) Q' := fun Q' kk => by
    have q94 := q96
    refine WP.ni_eq rfl (fun c90 => ?_) (fun c90 => ?_)
    · refine WP.ldc2_w rfl ?_
      have e := kk; simp only [s_X12_finish_16, if_pos c90] at e ⊢; exact e
    · obtain ⟨o91, o92⟩ := q94 c90
      refine WP.aload_n rfl rfl ⟨by decide, by decide⟩ ?_
      refine WP.getRF (b := 249) rfl rfl rfl ?_
      refine WP.sipush rfl ?_
      refine WP.iload_n rfl rfl ?_
      refine WP.iaddE rfl o91 ?_
      refine WP.laload rfl ⟨by decide, by decide, by decide⟩ o92 ?_
      refine WP.lconst rfl ?_
      refine WP.lcmp rfl ?_
      refine WP.nl_le rfl (fun c93 => ?_) (fun c93 => ?_)
      · refine WP.ldc2_w rfl ?_
        have e := kk; simp only [s_X12_finish_16, if_neg (c90), if_pos c93] at e ⊢; exact e
      · refine WP.iload_n rfl rfl ?_
        refine WP.i2l rfl ?_
        refine WP.goto rfl ?_
        have e := kk; simp only [s_X12_finish_16, if_neg (c90), if_neg (Int.not_le.mpr c93)] at e ⊢; exact e
  refine k89 _ ?_
  refine WP.lastore rfl ⟨by decide, by decide, by decide⟩ o97 ?_
  show WP 191 (238, [(14, 248), (0, a1), (0, h 249 (344 + a1)), (1, s_X12_finish_1 a1 h), pU, us87.getD 0 pU, us87.getD 1 pU], [], s_X12_finish_17 a1 h) Q
  refine WP.retv rfl ?_; exact kk
theorem c_X12_finish (a1 : Int) (h : pH) (hp : P_X12_finish a1 h) : CP 191 [(14, 248), (0, a1)] h (fun r h1 => r = none ∧ h1 = H_X12_finish a1 h) := w_X12_finish a1 h hp ⟨rfl, rfl⟩
noncomputable def F_X12_isMachine (a1 : Int) (h : pH) : Int := if 0 ≤ a1 ∧ a1 ≤ ((h 249 12) - 1) then 1 else 0
noncomputable def P_X12_isMachine (a1 : Int) (h : pH) : Prop := (fx_l ((h 249 12) - 1))
set_option maxHeartbeats 4000000 in
theorem w_X12_isMachine (a1 : Int) (h : pH) {Q : Option pV → pH → Prop} (hp : P_X12_isMachine a1 h) (kk : Q (some (0, F_X12_isMachine a1 h)) (h)) : WP 197 (0, [(14, 248), (0, a1)], [], h) Q := by
  unfold P_X12_isMachine at hp
  have o1 := hp
  refine WP.iload_n rfl rfl ?_
  refine WP.i2l rfl ?_
  refine WP.lconst rfl ?_
  refine WP.aload_n rfl rfl ⟨by decide, by decide⟩ ?_
  refine WP.getRF (b := 249) rfl rfl rfl ?_
  refine WP.bipush rfl ?_
  refine WP.laload rfl ⟨by decide, by decide, by decide⟩ (by decide) ?_
  refine WP.lconst rfl ?_
  refine WP.lsubE rfl o1 ?_
  refine WP.callF (c_X12_in a1 0 ((h 249 12) - 1) h) rfl rfl (pm_cok rfl rfl (Or.inl rfl) rfl rfl) rfl rfl ?_
  show WP 197 (10, [(14, 248), (0, a1)], [(0, if 0 ≤ a1 ∧ a1 ≤ ((h 249 12) - 1) then 1 else 0)], h) Q
  refine WP.retz rfl (fx_01 _) ?_; exact kk
theorem c_X12_isMachine (a1 : Int) (h : pH) (hp : P_X12_isMachine a1 h) : CP 197 [(14, 248), (0, a1)] h (fun r h1 => r = some (0, F_X12_isMachine a1 h) ∧ h1 = h) := w_X12_isMachine a1 h hp ⟨rfl, rfl⟩
noncomputable def F_X12_isWork (a1 : Int) (h : pH) : Int := if 0 ≤ a1 ∧ a1 ≤ ((h 249 13) - 1) then 1 else 0
noncomputable def P_X12_isWork (a1 : Int) (h : pH) : Prop := (fx_l ((h 249 13) - 1))
set_option maxHeartbeats 4000000 in
theorem w_X12_isWork (a1 : Int) (h : pH) {Q : Option pV → pH → Prop} (hp : P_X12_isWork a1 h) (kk : Q (some (0, F_X12_isWork a1 h)) (h)) : WP 199 (0, [(14, 248), (0, a1)], [], h) Q := by
  unfold P_X12_isWork at hp
  have o1 := hp
  refine WP.iload_n rfl rfl ?_
  refine WP.i2l rfl ?_
  refine WP.lconst rfl ?_
  refine WP.aload_n rfl rfl ⟨by decide, by decide⟩ ?_
  refine WP.getRF (b := 249) rfl rfl rfl ?_
  refine WP.bipush rfl ?_
  refine WP.laload rfl ⟨by decide, by decide, by decide⟩ (by decide) ?_
  refine WP.lconst rfl ?_
  refine WP.lsubE rfl o1 ?_
  refine WP.callF (c_X12_in a1 0 ((h 249 13) - 1) h) rfl rfl (pm_cok rfl rfl (Or.inl rfl) rfl rfl) rfl rfl ?_
  show WP 199 (10, [(14, 248), (0, a1)], [(0, if 0 ≤ a1 ∧ a1 ≤ ((h 249 13) - 1) then 1 else 0)], h) Q
  refine WP.retz rfl (fx_01 _) ?_; exact kk
theorem c_X12_isWork (a1 : Int) (h : pH) (hp : P_X12_isWork a1 h) : CP 199 [(14, 248), (0, a1)] h (fun r h1 => r = some (0, F_X12_isWork a1 h) ∧ h1 = h) := w_X12_isWork a1 h hp ⟨rfl, rfl⟩
noncomputable def s_X12_fitted_1 (x4 : Int) : Int := if x4 = 0 then 1 else 0
def C_X12_fitted_21 (x2 : Int) (x1 : Int) (x3 : Int) (x4 : Int) (h : pH) : Prop := x4 < 24
noncomputable def B_X12_fitted_21 (x2 : Int) (x1 : Int) (x3 : Int) (x4 : Int) (h : pH) : Int × pH := (x4 + 1, pm_upd h 268 x4 (s_X12_fitted_1 x4))
noncomputable def P_X12_fitted_21 (x2 : Int) (x1 : Int) (x3 : Int) (x4 : Int) (h : pH) : Prop := ((x4 < 24) → (0 ≤ x4 ∧ x4 < 24) ∧ (fx_i (x4 + 1)))
noncomputable def L_X12_fitted_21 (x2 : Int) (x1 : Int) (x3 : Int) (x4 : Int) (h : pH) : Int × pH := fx_wh (σ := Int × pH) (fun s => C_X12_fitted_21 x2 x1 x3 s.1 s.2) (fun s => B_X12_fitted_21 x2 x1 x3 s.1 s.2) (x4, h)
def O_X12_fitted_21 (x2 : Int) (x1 : Int) (x3 : Int) (x4 : Int) (h : pH) : Prop := fx_ok (σ := Int × pH) (fun s => C_X12_fitted_21 x2 x1 x3 s.1 s.2) (fun s => B_X12_fitted_21 x2 x1 x3 s.1 s.2) (fun s => P_X12_fitted_21 x2 x1 x3 s.1 s.2) (x4, h)
set_option maxHeartbeats 4000000 in
theorem lp_X12_fitted_21 (x2 : Int) (x1 : Int) (x3 : Int) (x4 : Int) (h : pH) {Q : Option pV → pH → Prop} (hp : O_X12_fitted_21 x2 x1 x3 x4 h) (kk : ∀ us : List pV, WP 211 (35, [(14, 248), (0, x1), (0, x2), (0, x3), (0, (L_X12_fitted_21 x2 x1 x3 x4 h).1), us.getD 0 pU, us.getD 1 pU], [], (L_X12_fitted_21 x2 x1 x3 x4 h).2) Q) : ∀ us : List pV, WP 211 (21, [(14, 248), (0, x1), (0, x2), (0, x3), (0, x4), us.getD 0 pU, us.getD 1 pU], [], h) Q := by
  refine WP.wh (σ := Int × pH) (fun s => C_X12_fitted_21 x2 x1 x3 s.1 s.2) (fun s => B_X12_fitted_21 x2 x1 x3 s.1 s.2) (fun s => P_X12_fitted_21 x2 x1 x3 s.1 s.2) (fun s us => (21, [(14, 248), (0, x1), (0, x2), (0, x3), (0, s.1), us.getD 0 pU, us.getD 1 pU], [], s.2)) (x4, h) hp ?_ ?_
  · intro s us hP hc kk
    obtain ⟨x4, h⟩ := s
    change P_X12_fitted_21 x2 x1 x3 x4 h at hP
    change x4 < 24 at hc
    replace kk : ∀ (us' : List pV) (s' : Int × pH), s' = B_X12_fitted_21 x2 x1 x3 x4 h → WP 211 (21, [(14, 248), (0, x1), (0, x2), (0, x3), (0, s'.1), us'.getD 0 pU, us'.getD 1 pU], [], s'.2) Q := fun us' s' e => by subst e; exact kk us'
    unfold P_X12_fitted_21 at hP
    obtain ⟨o12, o13⟩ := hP hc
    show WP 211 (21, [(14, 248), (0, x1), (0, x2), (0, x3), (0, x4), us.getD 0 pU, us.getD 1 pU], [], h) Q
    refine WP.iload rfl rfl ?_
    refine WP.bipush rfl ?_
    refine WP.ni_ge rfl (fun c8 => ?_) (fun c8 => ?_)
    · exact absurd hc (Int.not_lt.mpr c8)
    · refine WP.aload_n rfl rfl ⟨by decide, by decide⟩ ?_
      refine WP.getRF (b := 268) rfl rfl rfl ?_
      refine WP.iload rfl rfl ?_
      refine WP.iload rfl rfl ?_
      have k9 : ∀ Q' : Option pV → pH → Prop, (WP 211 (32, [(14, 248), (0, x1), (0, x2), (0, x3), (0, x4), us.getD 0 pU, us.getD 1 pU], [(1, s_X12_fitted_1 x4), (0, x4), (1097, 268)], h) Q') → WP 211 (28, [(14, 248), (0, x1), (0, x2), (0, x3), (0, x4), us.getD 0 pU, us.getD 1 pU], [(0, x4), (0, x4), (1097, 268)], h) Q' := fun Q' kk => by
        refine WP.nz_ne rfl (fun c10 => ?_) (fun c10 => ?_)
        · refine WP.lconst rfl ?_
          have e := kk; simp only [s_X12_fitted_1, if_neg (c10)] at e ⊢; exact e
        · refine WP.lconst rfl ?_
          refine WP.goto rfl ?_
          have e := kk; simp only [s_X12_fitted_1, if_pos c10] at e ⊢; exact e
      refine k9 _ ?_
      refine WP.lastore rfl ⟨by decide, by decide, by decide⟩ o12 ?_
      refine WP.iincE (L' := [(14, 248), (0, x1), (0, x2), (0, x3), (0, x4 + 1), us.getD 0 pU, us.getD 1 pU]) rfl rfl o13 rfl ?_
      refine WP.goto rfl ?_
      exact kk [us.getD 0 pU, us.getD 1 pU] (x4 + 1, pm_upd h 268 x4 (s_X12_fitted_1 x4)) (rfl)
  · intro hP hc
    generalize hs : (L_X12_fitted_21 x2 x1 x3 x4 h : Int × pH) = s at kk
    change P_X12_fitted_21 x2 x1 x3 (L_X12_fitted_21 x2 x1 x3 x4 h).1 (L_X12_fitted_21 x2 x1 x3 x4 h).2 at hP
    change ¬ C_X12_fitted_21 x2 x1 x3 (L_X12_fitted_21 x2 x1 x3 x4 h).1 (L_X12_fitted_21 x2 x1 x3 x4 h).2 at hc
    intro us
    show WP 211 (21, [(14, 248), (0, x1), (0, x2), (0, x3), (0, (L_X12_fitted_21 x2 x1 x3 x4 h).1), us.getD 0 pU, us.getD 1 pU], [], (L_X12_fitted_21 x2 x1 x3 x4 h).2) Q
    rw [hs] at hP hc ⊢
    obtain ⟨x4, h⟩ := s
    change P_X12_fitted_21 x2 x1 x3 x4 h at hP
    change ¬ (x4 < 24) at hc
    unfold P_X12_fitted_21 at hP
    show WP 211 (21, [(14, 248), (0, x1), (0, x2), (0, x3), (0, x4), us.getD 0 pU, us.getD 1 pU], [], h) Q
    refine WP.iload rfl rfl ?_
    refine WP.bipush rfl ?_
    refine WP.ni_ge rfl (fun c7 => ?_) (fun c7 => ?_)
    · exact kk [us.getD 0 pU, us.getD 1 pU]
    · exact absurd (show x4 < 24 from c7) hc
noncomputable def s_X12_fitted_2 (x2 : Int) (x1 : Int) (x3 : Int) (h : pH) : Int := (L_X12_fitted_21 x2 x1 x3 0 h).1
noncomputable def s_X12_fitted_3 (x2 : Int) (x1 : Int) (x3 : Int) (h : pH) : pH := (L_X12_fitted_21 x2 x1 x3 0 h).2
noncomputable def s_X12_fitted_4 (x2 : Int) (x3 : Int) (x4 : Int) (h : pH) : Int := if h 249 (560 + x4) = 1 then x2 + (x3 * (h 249 (500 + x4))) else 1000 - (x2 + (x3 * (h 249 (500 + x4))))
def C_X12_fitted_37 (x2 : Int) (x1 : Int) (x3 : Int) (x4 : Int) (h : pH) : Prop := x4 < h 249 19
noncomputable def B_X12_fitted_37 (x2 : Int) (x1 : Int) (x3 : Int) (x4 : Int) (h : pH) : Int × pH := (x4 + 1, H_X12_times (s_X12_fitted_4 x2 x3 x4 h) h)
noncomputable def P_X12_fitted_37 (x2 : Int) (x1 : Int) (x3 : Int) (x4 : Int) (h : pH) : Prop := ((x4 < h 249 19) → (fx_i (500 + x4)) ∧ (0 ≤ 500 + x4 ∧ 500 + x4 < 620) ∧ (fx_l (x3 * (h 249 (500 + x4)))) ∧ (fx_l (x2 + (x3 * (h 249 (500 + x4))))) ∧ (fx_i (560 + x4)) ∧ (0 ≤ 560 + x4 ∧ 560 + x4 < 620) ∧ (((¬ h 249 (560 + x4) = 1) → ((fx_l (1000 - (x2 + (x3 * (h 249 (500 + x4))))))))) ∧ (P_X12_times (s_X12_fitted_4 x2 x3 x4 h) h) ∧ (fx_i (x4 + 1)))
noncomputable def L_X12_fitted_37 (x2 : Int) (x1 : Int) (x3 : Int) (x4 : Int) (h : pH) : Int × pH := fx_wh (σ := Int × pH) (fun s => C_X12_fitted_37 x2 x1 x3 s.1 s.2) (fun s => B_X12_fitted_37 x2 x1 x3 s.1 s.2) (x4, h)
def O_X12_fitted_37 (x2 : Int) (x1 : Int) (x3 : Int) (x4 : Int) (h : pH) : Prop := fx_ok (σ := Int × pH) (fun s => C_X12_fitted_37 x2 x1 x3 s.1 s.2) (fun s => B_X12_fitted_37 x2 x1 x3 s.1 s.2) (fun s => P_X12_fitted_37 x2 x1 x3 s.1 s.2) (x4, h)
set_option maxHeartbeats 4000000 in
theorem lp_X12_fitted_37 (x2 : Int) (x1 : Int) (x3 : Int) (x4 : Int) (h : pH) {Q : Option pV → pH → Prop} (hp : O_X12_fitted_37 x2 x1 x3 x4 h) (kk : ∀ us : List pV, WP 211 (76, [(14, 248), (0, x1), (0, x2), (0, x3), (0, (L_X12_fitted_37 x2 x1 x3 x4 h).1), us.getD 0 pU, us.getD 1 pU], [], (L_X12_fitted_37 x2 x1 x3 x4 h).2) Q) : ∀ us : List pV, WP 211 (37, [(14, 248), (0, x1), (0, x2), (0, x3), (0, x4), us.getD 0 pU, us.getD 1 pU], [], h) Q := by
  refine WP.wh (σ := Int × pH) (fun s => C_X12_fitted_37 x2 x1 x3 s.1 s.2) (fun s => B_X12_fitted_37 x2 x1 x3 s.1 s.2) (fun s => P_X12_fitted_37 x2 x1 x3 s.1 s.2) (fun s us => (37, [(14, 248), (0, x1), (0, x2), (0, x3), (0, s.1), us.getD 0 pU, us.getD 1 pU], [], s.2)) (x4, h) hp ?_ ?_
  · intro s us hP hc kk
    obtain ⟨x4, h⟩ := s
    change P_X12_fitted_37 x2 x1 x3 x4 h at hP
    change x4 < h 249 19 at hc
    replace kk : ∀ (us' : List pV) (s' : Int × pH), s' = B_X12_fitted_37 x2 x1 x3 x4 h → WP 211 (37, [(14, 248), (0, x1), (0, x2), (0, x3), (0, s'.1), us'.getD 0 pU, us'.getD 1 pU], [], s'.2) Q := fun us' s' e => by subst e; exact kk us'
    unfold P_X12_fitted_37 at hP
    obtain ⟨o18, o19, o20, o21, o22, o23, q29, o30, o31⟩ := hP hc
    show WP 211 (37, [(14, 248), (0, x1), (0, x2), (0, x3), (0, x4), us.getD 0 pU, us.getD 1 pU], [], h) Q
    refine WP.iload rfl rfl ?_
    refine WP.i2l rfl ?_
    refine WP.aload_n rfl rfl ⟨by decide, by decide⟩ ?_
    refine WP.getRF (b := 249) rfl rfl rfl ?_
    refine WP.bipush rfl ?_
    refine WP.laload rfl ⟨by decide, by decide, by decide⟩ (by decide) ?_
    refine WP.lcmp rfl ?_
    refine WP.nl_ge rfl (fun c17 => ?_) (fun c17 => ?_)
    · exact absurd hc (Int.not_lt.mpr c17)
    · refine WP.iload_n rfl rfl ?_
      refine WP.i2l rfl ?_
      refine WP.iload_n rfl rfl ?_
      refine WP.i2l rfl ?_
      refine WP.aload_n rfl rfl ⟨by decide, by decide⟩ ?_
      refine WP.getRF (b := 249) rfl rfl rfl ?_
      refine WP.sipush rfl ?_
      refine WP.iload rfl rfl ?_
      refine WP.iaddE rfl o18 ?_
      refine WP.laload rfl ⟨by decide, by decide, by decide⟩ o19 ?_
      refine WP.lmulE rfl o20 ?_
      refine WP.laddE rfl o21 ?_
      refine WP.lstore (L' := [(14, 248), (0, x1), (0, x2), (0, x3), (0, x4), (1, x2 + (x3 * (h 249 (500 + x4)))), pU]) rfl rfl ?_
      refine WP.aload_n rfl rfl ⟨by decide, by decide⟩ ?_
      refine WP.aload_n rfl rfl ⟨by decide, by decide⟩ ?_
      refine WP.getRF (b := 249) rfl rfl rfl ?_
      refine WP.sipush rfl ?_
      refine WP.iload rfl rfl ?_
      refine WP.iaddE rfl o22 ?_
      refine WP.laload rfl ⟨by decide, by decide, by decide⟩ o23 ?_
      refine WP.lconst rfl ?_
      refine WP.lcmp rfl ?_
      have k24 : ∀ Q' : Option pV → pH → Prop, (WP 211 (73, [(14, 248), (0, x1), (0, x2), (0, x3), (0, x4), (1, x2 + (x3 * (h 249 (500 + x4)))), pU], [(1, s_X12_fitted_4 x2 x3 x4 h), (14, 248)], h) Q') → WP 211 (67, [(14, 248), (0, x1), (0, x2), (0, x3), (0, x4), (1, x2 + (x3 * (h 249 (500 + x4)))), pU], [(0, pm_lcmp (h 249 (560 + x4)) 1), (14, 248)], h) Q' := fun Q' kk => by
        have q27 := q29
        refine WP.nl_ne rfl (fun c25 => ?_) (fun c25 => ?_)
        · have o26 := q27 c25
          refine WP.ldc2_w rfl ?_
          refine WP.lload rfl rfl ?_
          refine WP.lsubE rfl o26 ?_
          have e := kk; simp only [s_X12_fitted_4, if_neg (c25)] at e ⊢; exact e
        · refine WP.lload rfl rfl ?_
          refine WP.goto rfl ?_
          have e := kk; simp only [s_X12_fitted_4, if_pos c25] at e ⊢; exact e
      refine k24 _ ?_
      refine WP.callF (c_X12_times (s_X12_fitted_4 x2 x3 x4 h) h o30) rfl rfl (pm_cok rfl rfl (Or.inr ⟨_, _, rfl⟩) rfl rfl) rfl rfl ?_
      show WP 211 (74, [(14, 248), (0, x1), (0, x2), (0, x3), (0, x4), (1, x2 + (x3 * (h 249 (500 + x4)))), pU], [], H_X12_times (s_X12_fitted_4 x2 x3 x4 h) h) Q
      refine WP.iincE (L' := [(14, 248), (0, x1), (0, x2), (0, x3), (0, x4 + 1), (1, x2 + (x3 * (h 249 (500 + x4)))), pU]) rfl rfl o31 rfl ?_
      refine WP.goto rfl ?_
      exact kk [(1, x2 + (x3 * (h 249 (500 + x4)))), pU] (x4 + 1, H_X12_times (s_X12_fitted_4 x2 x3 x4 h) h) (rfl)
  · intro hP hc
    generalize hs : (L_X12_fitted_37 x2 x1 x3 x4 h : Int × pH) = s at kk
    change P_X12_fitted_37 x2 x1 x3 (L_X12_fitted_37 x2 x1 x3 x4 h).1 (L_X12_fitted_37 x2 x1 x3 x4 h).2 at hP
    change ¬ C_X12_fitted_37 x2 x1 x3 (L_X12_fitted_37 x2 x1 x3 x4 h).1 (L_X12_fitted_37 x2 x1 x3 x4 h).2 at hc
    intro us
    show WP 211 (37, [(14, 248), (0, x1), (0, x2), (0, x3), (0, (L_X12_fitted_37 x2 x1 x3 x4 h).1), us.getD 0 pU, us.getD 1 pU], [], (L_X12_fitted_37 x2 x1 x3 x4 h).2) Q
    rw [hs] at hP hc ⊢
    obtain ⟨x4, h⟩ := s
    change P_X12_fitted_37 x2 x1 x3 x4 h at hP
    change ¬ (x4 < h 249 19) at hc
    unfold P_X12_fitted_37 at hP
    show WP 211 (37, [(14, 248), (0, x1), (0, x2), (0, x3), (0, x4), us.getD 0 pU, us.getD 1 pU], [], h) Q
    refine WP.iload rfl rfl ?_
    refine WP.i2l rfl ?_
    refine WP.aload_n rfl rfl ⟨by decide, by decide⟩ ?_
    refine WP.getRF (b := 249) rfl rfl rfl ?_
    refine WP.bipush rfl ?_
    refine WP.laload rfl ⟨by decide, by decide, by decide⟩ (by decide) ?_
    refine WP.lcmp rfl ?_
    refine WP.nl_ge rfl (fun c16 => ?_) (fun c16 => ?_)
    · exact kk [us.getD 0 pU, us.getD 1 pU]
    · exact absurd (show x4 < h 249 19 from c16) hc
noncomputable def s_X12_fitted_5 (x2 : Int) (x1 : Int) (x3 : Int) (h : pH) : Int := (L_X12_fitted_37 x2 x1 x3 0 (s_X12_fitted_3 x2 x1 x3 h)).1
noncomputable def s_X12_fitted_6 (x2 : Int) (x1 : Int) (x3 : Int) (h : pH) : pH := (L_X12_fitted_37 x2 x1 x3 0 (s_X12_fitted_3 x2 x1 x3 h)).2
def C_X12_fitted_90 (x2 : Int) (x3 : Int) (y1 : Int) (x4 : Int) (h : pH) : Prop := x4 < 24
noncomputable def B_X12_fitted_90 (x2 : Int) (x3 : Int) (y1 : Int) (x4 : Int) (h : pH) : Int × pH := (x4 + 1, pm_upd h 269 x4 (h 268 x4))
noncomputable def P_X12_fitted_90 (x2 : Int) (x3 : Int) (y1 : Int) (x4 : Int) (h : pH) : Prop := ((x4 < 24) → (0 ≤ x4 ∧ x4 < 24) ∧ (fx_i (x4 + 1)))
noncomputable def L_X12_fitted_90 (x2 : Int) (x3 : Int) (y1 : Int) (x4 : Int) (h : pH) : Int × pH := fx_wh (σ := Int × pH) (fun s => C_X12_fitted_90 x2 x3 y1 s.1 s.2) (fun s => B_X12_fitted_90 x2 x3 y1 s.1 s.2) (x4, h)
def O_X12_fitted_90 (x2 : Int) (x3 : Int) (y1 : Int) (x4 : Int) (h : pH) : Prop := fx_ok (σ := Int × pH) (fun s => C_X12_fitted_90 x2 x3 y1 s.1 s.2) (fun s => B_X12_fitted_90 x2 x3 y1 s.1 s.2) (fun s => P_X12_fitted_90 x2 x3 y1 s.1 s.2) (x4, h)
set_option maxHeartbeats 4000000 in
theorem lp_X12_fitted_90 (x2 : Int) (x3 : Int) (y1 : Int) (x4 : Int) (h : pH) {Q : Option pV → pH → Prop} (hp : O_X12_fitted_90 x2 x3 y1 x4 h) (kk : ∀ us : List pV, WP 211 (103, [(14, 248), (0, y1), (0, x2), (0, x3), (0, (L_X12_fitted_90 x2 x3 y1 x4 h).1), us.getD 0 pU, us.getD 1 pU], [], (L_X12_fitted_90 x2 x3 y1 x4 h).2) Q) : ∀ us : List pV, WP 211 (90, [(14, 248), (0, y1), (0, x2), (0, x3), (0, x4), us.getD 0 pU, us.getD 1 pU], [], h) Q := by
  refine WP.wh (σ := Int × pH) (fun s => C_X12_fitted_90 x2 x3 y1 s.1 s.2) (fun s => B_X12_fitted_90 x2 x3 y1 s.1 s.2) (fun s => P_X12_fitted_90 x2 x3 y1 s.1 s.2) (fun s us => (90, [(14, 248), (0, y1), (0, x2), (0, x3), (0, s.1), us.getD 0 pU, us.getD 1 pU], [], s.2)) (x4, h) hp ?_ ?_
  · intro s us hP hc kk
    obtain ⟨x4, h⟩ := s
    change P_X12_fitted_90 x2 x3 y1 x4 h at hP
    change x4 < 24 at hc
    replace kk : ∀ (us' : List pV) (s' : Int × pH), s' = B_X12_fitted_90 x2 x3 y1 x4 h → WP 211 (90, [(14, 248), (0, y1), (0, x2), (0, x3), (0, s'.1), us'.getD 0 pU, us'.getD 1 pU], [], s'.2) Q := fun us' s' e => by subst e; exact kk us'
    unfold P_X12_fitted_90 at hP
    obtain ⟨o40, o41⟩ := hP hc
    show WP 211 (90, [(14, 248), (0, y1), (0, x2), (0, x3), (0, x4), us.getD 0 pU, us.getD 1 pU], [], h) Q
    refine WP.iload rfl rfl ?_
    refine WP.bipush rfl ?_
    refine WP.ni_ge rfl (fun c39 => ?_) (fun c39 => ?_)
    · exact absurd hc (Int.not_lt.mpr c39)
    · refine WP.aload_n rfl rfl ⟨by decide, by decide⟩ ?_
      refine WP.getRF (b := 269) rfl rfl rfl ?_
      refine WP.iload rfl rfl ?_
      refine WP.aload_n rfl rfl ⟨by decide, by decide⟩ ?_
      refine WP.getRF (b := 268) rfl rfl rfl ?_
      refine WP.iload rfl rfl ?_
      refine WP.laload rfl ⟨by decide, by decide, by decide⟩ o40 ?_
      refine WP.lastore rfl ⟨by decide, by decide, by decide⟩ o40 ?_
      refine WP.iincE (L' := [(14, 248), (0, y1), (0, x2), (0, x3), (0, x4 + 1), us.getD 0 pU, us.getD 1 pU]) rfl rfl o41 rfl ?_
      refine WP.goto rfl ?_
      exact kk [us.getD 0 pU, us.getD 1 pU] (x4 + 1, pm_upd h 269 x4 (h 268 x4)) (rfl)
  · intro hP hc
    generalize hs : (L_X12_fitted_90 x2 x3 y1 x4 h : Int × pH) = s at kk
    change P_X12_fitted_90 x2 x3 y1 (L_X12_fitted_90 x2 x3 y1 x4 h).1 (L_X12_fitted_90 x2 x3 y1 x4 h).2 at hP
    change ¬ C_X12_fitted_90 x2 x3 y1 (L_X12_fitted_90 x2 x3 y1 x4 h).1 (L_X12_fitted_90 x2 x3 y1 x4 h).2 at hc
    intro us
    show WP 211 (90, [(14, 248), (0, y1), (0, x2), (0, x3), (0, (L_X12_fitted_90 x2 x3 y1 x4 h).1), us.getD 0 pU, us.getD 1 pU], [], (L_X12_fitted_90 x2 x3 y1 x4 h).2) Q
    rw [hs] at hP hc ⊢
    obtain ⟨x4, h⟩ := s
    change P_X12_fitted_90 x2 x3 y1 x4 h at hP
    change ¬ (x4 < 24) at hc
    unfold P_X12_fitted_90 at hP
    show WP 211 (90, [(14, 248), (0, y1), (0, x2), (0, x3), (0, x4), us.getD 0 pU, us.getD 1 pU], [], h) Q
    refine WP.iload rfl rfl ?_
    refine WP.bipush rfl ?_
    refine WP.ni_ge rfl (fun c38 => ?_) (fun c38 => ?_)
    · exact kk [us.getD 0 pU, us.getD 1 pU]
    · exact absurd (show x4 < 24 from c38) hc
noncomputable def s_X12_fitted_7 (x2 : Int) (x1 : Int) (x3 : Int) (h : pH) : Int := (L_X12_fitted_90 x2 x3 ((100 * x2) + x3) 0 (s_X12_fitted_6 x2 x1 x3 h)).1
noncomputable def s_X12_fitted_8 (x2 : Int) (x1 : Int) (x3 : Int) (h : pH) : pH := (L_X12_fitted_90 x2 x3 ((100 * x2) + x3) 0 (s_X12_fitted_6 x2 x1 x3 h)).2
noncomputable def s_X12_fitted_9 (x2 : Int) (x1 : Int) (x3 : Int) (h : pH) : pH := if x1 = (-1) then s_X12_fitted_8 x2 x1 x3 h else if F_X12_isWider (s_X12_fitted_6 x2 x1 x3 h) = 0 then s_X12_fitted_6 x2 x1 x3 h else s_X12_fitted_8 x2 x1 x3 h
noncomputable def s_X12_fitted_10 (x2 : Int) (x1 : Int) (x3 : Int) (h : pH) : Int := if x1 = (-1) then (100 * x2) + x3 else if F_X12_isWider (s_X12_fitted_6 x2 x1 x3 h) = 0 then x1 else (100 * x2) + x3
def C_X12_fitted_16 (x2 : Int) (x1 : Int) (x3 : Int) (h : pH) : Prop := x3 < 10
noncomputable def B_X12_fitted_16 (x2 : Int) (x1 : Int) (x3 : Int) (h : pH) : Int × Int × pH := (s_X12_fitted_10 x2 x1 x3 h, x3 + 1, s_X12_fitted_9 x2 x1 x3 h)
noncomputable def P_X12_fitted_16 (x2 : Int) (x1 : Int) (x3 : Int) (h : pH) : Prop := ((x3 < 10) → O_X12_fitted_21 x2 x1 x3 0 h ∧ (O_X12_fitted_37 x2 x1 x3 0 (s_X12_fitted_3 x2 x1 x3 h)) ∧ ((((x1 = (-1)) → ((fx_i (100 * x2)) ∧ (fx_i ((100 * x2) + x3)) ∧ (O_X12_fitted_90 x2 x3 ((100 * x2) + x3) 0 (s_X12_fitted_6 x2 x1 x3 h)))) ∧ ((¬ x1 = (-1)) → ((P_X12_isWider (s_X12_fitted_6 x2 x1 x3 h)) ∧ ((¬ F_X12_isWider (s_X12_fitted_6 x2 x1 x3 h) = 0) → ((fx_i (100 * x2)) ∧ (fx_i ((100 * x2) + x3)) ∧ (O_X12_fitted_90 x2 x3 ((100 * x2) + x3) 0 (s_X12_fitted_6 x2 x1 x3 h)))))))) ∧ (fx_i (x3 + 1)))
noncomputable def L_X12_fitted_16 (x2 : Int) (x1 : Int) (x3 : Int) (h : pH) : Int × Int × pH := fx_wh (σ := Int × Int × pH) (fun s => C_X12_fitted_16 x2 s.1 s.2.1 s.2.2) (fun s => B_X12_fitted_16 x2 s.1 s.2.1 s.2.2) (x1, x3, h)
def O_X12_fitted_16 (x2 : Int) (x1 : Int) (x3 : Int) (h : pH) : Prop := fx_ok (σ := Int × Int × pH) (fun s => C_X12_fitted_16 x2 s.1 s.2.1 s.2.2) (fun s => B_X12_fitted_16 x2 s.1 s.2.1 s.2.2) (fun s => P_X12_fitted_16 x2 s.1 s.2.1 s.2.2) (x1, x3, h)
set_option maxHeartbeats 4000000 in
theorem lp_X12_fitted_16 (x2 : Int) (x1 : Int) (x3 : Int) (h : pH) {Q : Option pV → pH → Prop} (hp : O_X12_fitted_16 x2 x1 x3 h) (kk : ∀ us : List pV, WP 211 (105, [(14, 248), (0, (L_X12_fitted_16 x2 x1 x3 h).1), (0, x2), (0, (L_X12_fitted_16 x2 x1 x3 h).2.1), us.getD 0 pU, us.getD 1 pU, us.getD 2 pU], [], (L_X12_fitted_16 x2 x1 x3 h).2.2) Q) : ∀ us : List pV, WP 211 (16, [(14, 248), (0, x1), (0, x2), (0, x3), us.getD 0 pU, us.getD 1 pU, us.getD 2 pU], [], h) Q := by
  refine WP.wh (σ := Int × Int × pH) (fun s => C_X12_fitted_16 x2 s.1 s.2.1 s.2.2) (fun s => B_X12_fitted_16 x2 s.1 s.2.1 s.2.2) (fun s => P_X12_fitted_16 x2 s.1 s.2.1 s.2.2) (fun s us => (16, [(14, 248), (0, s.1), (0, x2), (0, s.2.1), us.getD 0 pU, us.getD 1 pU, us.getD 2 pU], [], s.2.2)) (x1, x3, h) hp ?_ ?_
  · intro s us hP hc kk
    obtain ⟨x1, x3, h⟩ := s
    change P_X12_fitted_16 x2 x1 x3 h at hP
    change x3 < 10 at hc
    replace kk : ∀ (us' : List pV) (s' : Int × Int × pH), s' = B_X12_fitted_16 x2 x1 x3 h → WP 211 (16, [(14, 248), (0, s'.1), (0, x2), (0, s'.2.1), us'.getD 0 pU, us'.getD 1 pU, us'.getD 2 pU], [], s'.2.2) Q := fun us' s' e => by subst e; exact kk us'
    unfold P_X12_fitted_16 at hP
    obtain ⟨o14, o32, q53, o54⟩ := hP hc
    show WP 211 (16, [(14, 248), (0, x1), (0, x2), (0, x3), us.getD 0 pU, us.getD 1 pU, us.getD 2 pU], [], h) Q
    refine WP.iload_n rfl rfl ?_
    refine WP.bipush rfl ?_
    refine WP.ni_ge rfl (fun c6 => ?_) (fun c6 => ?_)
    · exact absurd hc (Int.not_lt.mpr c6)
    · refine WP.iconst rfl ?_
      refine WP.istore (L' := [(14, 248), (0, x1), (0, x2), (0, x3), (0, 0), us.getD 1 pU, us.getD 2 pU]) rfl rfl ?_
      refine lp_X12_fitted_21 x2 x1 x3 0 h o14 (fun us15 => ?_) [us.getD 1 pU, us.getD 2 pU]
      show WP 211 (35, [(14, 248), (0, x1), (0, x2), (0, x3), (0, s_X12_fitted_2 x2 x1 x3 h), us15.getD 0 pU, us15.getD 1 pU], [], s_X12_fitted_3 x2 x1 x3 h) Q
      refine WP.iconst rfl ?_
      refine WP.istore (L' := [(14, 248), (0, x1), (0, x2), (0, x3), (0, 0), us15.getD 0 pU, us15.getD 1 pU]) rfl rfl ?_
      refine lp_X12_fitted_37 x2 x1 x3 0 (s_X12_fitted_3 x2 x1 x3 h) o32 (fun us33 => ?_) [us15.getD 0 pU, us15.getD 1 pU]
      show WP 211 (76, [(14, 248), (0, x1), (0, x2), (0, x3), (0, s_X12_fitted_5 x2 x1 x3 h), us33.getD 0 pU, us33.getD 1 pU], [], s_X12_fitted_6 x2 x1 x3 h) Q
      refine WP.iload_n rfl rfl ?_
      refine WP.iconst rfl ?_
      have k34 : ∀ Q' : Option pV → pH → Prop, (∀ us52 : List pV, WP 211 (103, [(14, 248), (0, s_X12_fitted_10 x2 x1 x3 h), (0, x2), (0, x3), us52.getD 0 pU, us52.getD 1 pU, us52.getD 2 pU], [], s_X12_fitted_9 x2 x1 x3 h) Q') → WP 211 (78, [(14, 248), (0, x1), (0, x2), (0, x3), (0, s_X12_fitted_5 x2 x1 x3 h), us33.getD 0 pU, us33.getD 1 pU], [(0, (-1)), (0, x1)], s_X12_fitted_6 x2 x1 x3 h) Q' := fun Q' kk => by
        have q51 := q53
        refine WP.ni_eq rfl (fun c35 => ?_) (fun c35 => ?_)
        · obtain ⟨o36, o37, o42⟩ := q51.1 c35
          refine WP.bipush rfl ?_
          refine WP.iload_n rfl rfl ?_
          refine WP.imulE rfl o36 ?_
          refine WP.iload_n rfl rfl ?_
          refine WP.iaddE rfl o37 ?_
          refine WP.istore_n (L' := [(14, 248), (0, (100 * x2) + x3), (0, x2), (0, x3), (0, s_X12_fitted_5 x2 x1 x3 h), us33.getD 0 pU, us33.getD 1 pU]) rfl rfl ?_
          refine WP.iconst rfl ?_
          refine WP.istore (L' := [(14, 248), (0, (100 * x2) + x3), (0, x2), (0, x3), (0, 0), us33.getD 0 pU, us33.getD 1 pU]) rfl rfl ?_
          refine lp_X12_fitted_90 x2 x3 ((100 * x2) + x3) 0 (s_X12_fitted_6 x2 x1 x3 h) o42 (fun us43 => ?_) [us33.getD 0 pU, us33.getD 1 pU]
          show WP 211 (103, [(14, 248), (0, (100 * x2) + x3), (0, x2), (0, x3), (0, s_X12_fitted_7 x2 x1 x3 h), us43.getD 0 pU, us43.getD 1 pU], [], s_X12_fitted_8 x2 x1 x3 h) Q'
          have e := kk [(0, s_X12_fitted_7 x2 x1 x3 h), us43.getD 0 pU, us43.getD 1 pU]; simp only [s_X12_fitted_10, s_X12_fitted_9, if_pos c35] at e ⊢; exact e
        · obtain ⟨o44, q50⟩ := q51.2 c35
          refine WP.aload_n rfl rfl ⟨by decide, by decide⟩ ?_
          refine WP.callF (c_X12_isWider (s_X12_fitted_6 x2 x1 x3 h) o44) rfl rfl (pm_cok rfl rfl (Or.inr ⟨_, _, rfl⟩) rfl rfl) rfl rfl ?_
          show WP 211 (81, [(14, 248), (0, x1), (0, x2), (0, x3), (0, s_X12_fitted_5 x2 x1 x3 h), us33.getD 0 pU, us33.getD 1 pU], [(0, F_X12_isWider (s_X12_fitted_6 x2 x1 x3 h))], s_X12_fitted_6 x2 x1 x3 h) Q'
          refine WP.nz_eq rfl (fun c45 => ?_) (fun c45 => ?_)
          · have e := kk [(0, s_X12_fitted_5 x2 x1 x3 h), us33.getD 0 pU, us33.getD 1 pU]; simp only [s_X12_fitted_10, s_X12_fitted_9, if_neg (c35), if_pos c45] at e ⊢; exact e
          · obtain ⟨o46, o47, o48⟩ := q50 c45
            refine WP.bipush rfl ?_
            refine WP.iload_n rfl rfl ?_
            refine WP.imulE rfl o46 ?_
            refine WP.iload_n rfl rfl ?_
            refine WP.iaddE rfl o47 ?_
            refine WP.istore_n (L' := [(14, 248), (0, (100 * x2) + x3), (0, x2), (0, x3), (0, s_X12_fitted_5 x2 x1 x3 h), us33.getD 0 pU, us33.getD 1 pU]) rfl rfl ?_
            refine WP.iconst rfl ?_
            refine WP.istore (L' := [(14, 248), (0, (100 * x2) + x3), (0, x2), (0, x3), (0, 0), us33.getD 0 pU, us33.getD 1 pU]) rfl rfl ?_
            refine lp_X12_fitted_90 x2 x3 ((100 * x2) + x3) 0 (s_X12_fitted_6 x2 x1 x3 h) o48 (fun us49 => ?_) [us33.getD 0 pU, us33.getD 1 pU]
            show WP 211 (103, [(14, 248), (0, (100 * x2) + x3), (0, x2), (0, x3), (0, s_X12_fitted_7 x2 x1 x3 h), us49.getD 0 pU, us49.getD 1 pU], [], s_X12_fitted_8 x2 x1 x3 h) Q'
            have e := kk [(0, s_X12_fitted_7 x2 x1 x3 h), us49.getD 0 pU, us49.getD 1 pU]; simp only [s_X12_fitted_10, s_X12_fitted_9, if_neg (c35), if_neg (c45)] at e ⊢; exact e
      refine k34 _ (fun us52 => ?_)
      refine WP.iincE (L' := [(14, 248), (0, s_X12_fitted_10 x2 x1 x3 h), (0, x2), (0, x3 + 1), us52.getD 0 pU, us52.getD 1 pU, us52.getD 2 pU]) rfl rfl o54 rfl ?_
      refine WP.goto rfl ?_
      exact kk [us52.getD 0 pU, us52.getD 1 pU, us52.getD 2 pU] (s_X12_fitted_10 x2 x1 x3 h, x3 + 1, s_X12_fitted_9 x2 x1 x3 h) (rfl)
  · intro hP hc
    generalize hs : (L_X12_fitted_16 x2 x1 x3 h : Int × Int × pH) = s at kk
    change P_X12_fitted_16 x2 (L_X12_fitted_16 x2 x1 x3 h).1 (L_X12_fitted_16 x2 x1 x3 h).2.1 (L_X12_fitted_16 x2 x1 x3 h).2.2 at hP
    change ¬ C_X12_fitted_16 x2 (L_X12_fitted_16 x2 x1 x3 h).1 (L_X12_fitted_16 x2 x1 x3 h).2.1 (L_X12_fitted_16 x2 x1 x3 h).2.2 at hc
    intro us
    show WP 211 (16, [(14, 248), (0, (L_X12_fitted_16 x2 x1 x3 h).1), (0, x2), (0, (L_X12_fitted_16 x2 x1 x3 h).2.1), us.getD 0 pU, us.getD 1 pU, us.getD 2 pU], [], (L_X12_fitted_16 x2 x1 x3 h).2.2) Q
    rw [hs] at hP hc ⊢
    obtain ⟨x1, x3, h⟩ := s
    change P_X12_fitted_16 x2 x1 x3 h at hP
    change ¬ (x3 < 10) at hc
    unfold P_X12_fitted_16 at hP
    show WP 211 (16, [(14, 248), (0, x1), (0, x2), (0, x3), us.getD 0 pU, us.getD 1 pU, us.getD 2 pU], [], h) Q
    refine WP.iload_n rfl rfl ?_
    refine WP.bipush rfl ?_
    refine WP.ni_ge rfl (fun c5 => ?_) (fun c5 => ?_)
    · exact kk [us.getD 0 pU, us.getD 1 pU, us.getD 2 pU]
    · exact absurd (show x3 < 10 from c5) hc
noncomputable def s_X12_fitted_11 (x1 : Int) (x2 : Int) (h : pH) : Int := (L_X12_fitted_16 x2 x1 0 h).2.1
noncomputable def s_X12_fitted_12 (x1 : Int) (x2 : Int) (h : pH) : pH := (L_X12_fitted_16 x2 x1 0 h).2.2
def C_X12_fitted_4 (x1 : Int) (x2 : Int) (h : pH) : Prop := x2 ≤ 20 ∧ 0 < h 249 19
noncomputable def B_X12_fitted_4 (x1 : Int) (x2 : Int) (h : pH) : Int × Int × pH := ((L_X12_fitted_16 x2 x1 0 h).1, x2 + 1, s_X12_fitted_12 x1 x2 h)
noncomputable def P_X12_fitted_4 (x1 : Int) (x2 : Int) (h : pH) : Prop := ((x2 ≤ 20 ∧ 0 < h 249 19) → O_X12_fitted_16 x2 x1 0 h ∧ (fx_i (x2 + 1)))
noncomputable def L_X12_fitted_4 (x1 : Int) (x2 : Int) (h : pH) : Int × Int × pH := fx_wh (σ := Int × Int × pH) (fun s => C_X12_fitted_4 s.1 s.2.1 s.2.2) (fun s => B_X12_fitted_4 s.1 s.2.1 s.2.2) (x1, x2, h)
def O_X12_fitted_4 (x1 : Int) (x2 : Int) (h : pH) : Prop := fx_ok (σ := Int × Int × pH) (fun s => C_X12_fitted_4 s.1 s.2.1 s.2.2) (fun s => B_X12_fitted_4 s.1 s.2.1 s.2.2) (fun s => P_X12_fitted_4 s.1 s.2.1 s.2.2) (x1, x2, h)
set_option maxHeartbeats 4000000 in
theorem lp_X12_fitted_4 (x1 : Int) (x2 : Int) (h : pH) {Q : Option pV → pH → Prop} (hp : O_X12_fitted_4 x1 x2 h) (kk : ∀ us : List pV, WP 211 (107, [(14, 248), (0, (L_X12_fitted_4 x1 x2 h).1), (0, (L_X12_fitted_4 x1 x2 h).2.1), us.getD 0 pU, us.getD 1 pU, us.getD 2 pU, us.getD 3 pU], [], (L_X12_fitted_4 x1 x2 h).2.2) Q) : ∀ us : List pV, WP 211 (4, [(14, 248), (0, x1), (0, x2), us.getD 0 pU, us.getD 1 pU, us.getD 2 pU, us.getD 3 pU], [], h) Q := by
  refine WP.wh (σ := Int × Int × pH) (fun s => C_X12_fitted_4 s.1 s.2.1 s.2.2) (fun s => B_X12_fitted_4 s.1 s.2.1 s.2.2) (fun s => P_X12_fitted_4 s.1 s.2.1 s.2.2) (fun s us => (4, [(14, 248), (0, s.1), (0, s.2.1), us.getD 0 pU, us.getD 1 pU, us.getD 2 pU, us.getD 3 pU], [], s.2.2)) (x1, x2, h) hp ?_ ?_
  · intro s us hP hc kk
    obtain ⟨x1, x2, h⟩ := s
    change P_X12_fitted_4 x1 x2 h at hP
    change x2 ≤ 20 ∧ 0 < h 249 19 at hc
    replace kk : ∀ (us' : List pV) (s' : Int × Int × pH), s' = B_X12_fitted_4 x1 x2 h → WP 211 (4, [(14, 248), (0, s'.1), (0, s'.2.1), us'.getD 0 pU, us'.getD 1 pU, us'.getD 2 pU, us'.getD 3 pU], [], s'.2.2) Q := fun us' s' e => by subst e; exact kk us'
    unfold P_X12_fitted_4 at hP
    obtain ⟨o55, o57⟩ := hP hc
    show WP 211 (4, [(14, 248), (0, x1), (0, x2), us.getD 0 pU, us.getD 1 pU, us.getD 2 pU, us.getD 3 pU], [], h) Q
    refine WP.iload_n rfl rfl ?_
    refine WP.bipush rfl ?_
    refine WP.ni_gt rfl (fun c3 => ?_) (fun c3 => ?_)
    · exact absurd hc (fun q => (Int.not_le.mpr c3) q.1)
    · refine WP.aload_n rfl rfl ⟨by decide, by decide⟩ ?_
      refine WP.getRF (b := 249) rfl rfl rfl ?_
      refine WP.bipush rfl ?_
      refine WP.laload rfl ⟨by decide, by decide, by decide⟩ (by decide) ?_
      refine WP.lconst rfl ?_
      refine WP.lcmp rfl ?_
      refine WP.nl_le rfl (fun c4 => ?_) (fun c4 => ?_)
      · exact absurd hc (fun q => (Int.not_lt.mpr c4) q.2)
      · refine WP.iconst rfl ?_
        refine WP.istore_n (L' := [(14, 248), (0, x1), (0, x2), (0, 0), us.getD 1 pU, us.getD 2 pU, us.getD 3 pU]) rfl rfl ?_
        refine lp_X12_fitted_16 x2 x1 0 h o55 (fun us56 => ?_) [us.getD 1 pU, us.getD 2 pU, us.getD 3 pU]
        show WP 211 (105, [(14, 248), (0, (L_X12_fitted_16 x2 x1 0 h).1), (0, x2), (0, s_X12_fitted_11 x1 x2 h), us56.getD 0 pU, us56.getD 1 pU, us56.getD 2 pU], [], s_X12_fitted_12 x1 x2 h) Q
        refine WP.iincE (L' := [(14, 248), (0, (L_X12_fitted_16 x2 x1 0 h).1), (0, x2 + 1), (0, s_X12_fitted_11 x1 x2 h), us56.getD 0 pU, us56.getD 1 pU, us56.getD 2 pU]) rfl rfl o57 rfl ?_
        refine WP.goto rfl ?_
        exact kk [(0, s_X12_fitted_11 x1 x2 h), us56.getD 0 pU, us56.getD 1 pU, us56.getD 2 pU] ((L_X12_fitted_16 x2 x1 0 h).1, x2 + 1, s_X12_fitted_12 x1 x2 h) (rfl)
  · intro hP hc
    generalize hs : (L_X12_fitted_4 x1 x2 h : Int × Int × pH) = s at kk
    change P_X12_fitted_4 (L_X12_fitted_4 x1 x2 h).1 (L_X12_fitted_4 x1 x2 h).2.1 (L_X12_fitted_4 x1 x2 h).2.2 at hP
    change ¬ C_X12_fitted_4 (L_X12_fitted_4 x1 x2 h).1 (L_X12_fitted_4 x1 x2 h).2.1 (L_X12_fitted_4 x1 x2 h).2.2 at hc
    intro us
    show WP 211 (4, [(14, 248), (0, (L_X12_fitted_4 x1 x2 h).1), (0, (L_X12_fitted_4 x1 x2 h).2.1), us.getD 0 pU, us.getD 1 pU, us.getD 2 pU, us.getD 3 pU], [], (L_X12_fitted_4 x1 x2 h).2.2) Q
    rw [hs] at hP hc ⊢
    obtain ⟨x1, x2, h⟩ := s
    change P_X12_fitted_4 x1 x2 h at hP
    change ¬ (x2 ≤ 20 ∧ 0 < h 249 19) at hc
    unfold P_X12_fitted_4 at hP
    show WP 211 (4, [(14, 248), (0, x1), (0, x2), us.getD 0 pU, us.getD 1 pU, us.getD 2 pU, us.getD 3 pU], [], h) Q
    refine WP.iload_n rfl rfl ?_
    refine WP.bipush rfl ?_
    refine WP.ni_gt rfl (fun c1 => ?_) (fun c1 => ?_)
    · exact kk [us.getD 0 pU, us.getD 1 pU, us.getD 2 pU, us.getD 3 pU]
    · refine WP.aload_n rfl rfl ⟨by decide, by decide⟩ ?_
      refine WP.getRF (b := 249) rfl rfl rfl ?_
      refine WP.bipush rfl ?_
      refine WP.laload rfl ⟨by decide, by decide, by decide⟩ (by decide) ?_
      refine WP.lconst rfl ?_
      refine WP.lcmp rfl ?_
      refine WP.nl_le rfl (fun c2 => ?_) (fun c2 => ?_)
      · exact kk [us.getD 0 pU, us.getD 1 pU, us.getD 2 pU, us.getD 3 pU]
      · exact absurd (show x2 ≤ 20 ∧ 0 < h 249 19 from ⟨c1, c2⟩) hc
noncomputable def F_X12_fitted (h : pH) : Int := (L_X12_fitted_4 (-1) 1 h).1
noncomputable def H_X12_fitted (h : pH) : pH := (L_X12_fitted_4 (-1) 1 h).2.2
noncomputable def P_X12_fitted (h : pH) : Prop := (O_X12_fitted_4 (-1) 1 h)
set_option maxHeartbeats 4000000 in
theorem w_X12_fitted (h : pH) {Q : Option pV → pH → Prop} (hp : P_X12_fitted h) (kk : Q (some (0, F_X12_fitted h)) (H_X12_fitted h)) : WP 211 (0, [(14, 248), pU, pU, pU, pU, pU, pU], [], h) Q := by
  unfold P_X12_fitted at hp
  have o58 := hp
  refine WP.iconst rfl ?_
  refine WP.istore_n (L' := [(14, 248), (0, (-1)), pU, pU, pU, pU, pU]) rfl rfl ?_
  refine WP.iconst rfl ?_
  refine WP.istore_n (L' := [(14, 248), (0, (-1)), (0, 1), pU, pU, pU, pU]) rfl rfl ?_
  refine lp_X12_fitted_4 (-1) 1 h o58 (fun us59 => ?_) [pU, pU, pU, pU]
  show WP 211 (107, [(14, 248), (0, (L_X12_fitted_4 (-1) 1 h).1), (0, (L_X12_fitted_4 (-1) 1 h).2.1), us59.getD 0 pU, us59.getD 1 pU, us59.getD 2 pU, us59.getD 3 pU], [], (L_X12_fitted_4 (-1) 1 h).2.2) Q
  refine WP.iload_n rfl rfl ?_
  refine WP.reti rfl ?_; exact kk
theorem c_X12_fitted (h : pH) (hp : P_X12_fitted h) : CP 211 [(14, 248)] h (fun r h1 => r = some (0, F_X12_fitted h) ∧ h1 = H_X12_fitted h) := w_X12_fitted h hp ⟨rfl, rfl⟩
noncomputable def s_X12_drill_1 (a1 : Int) (a2 : Int) (a3 : Int) (a4 : Int) (h : pH) : pH := pm_upd (pm_upd (pm_upd (pm_upd h 270 a1 1) 271 a1 a2) 272 a1 a3) 273 a1 a4
noncomputable def F_X12_drill (a1 : Int) (a2 : Int) (a3 : Int) (a4 : Int) (h : pH) : Int := if 0 ≤ a1 ∧ a1 ≤ 3 then if 0 ≤ a2 ∧ a2 ≤ 500 then if 0 ≤ a3 ∧ a3 ≤ 100000 then if 1 ≤ a4 ∧ a4 ≤ 30 then 1 else (-2) else (-2) else (-2) else (-2)
noncomputable def H_X12_drill (a1 : Int) (a2 : Int) (a3 : Int) (a4 : Int) (h : pH) : pH := if 0 ≤ a1 ∧ a1 ≤ 3 then if 0 ≤ a2 ∧ a2 ≤ 500 then if 0 ≤ a3 ∧ a3 ≤ 100000 then if 1 ≤ a4 ∧ a4 ≤ 30 then s_X12_drill_1 a1 a2 a3 a4 h else h else h else h else h
noncomputable def P_X12_drill (a1 : Int) (a2 : Int) (a3 : Int) (a4 : Int) (h : pH) : Prop := ((0 ≤ a1 ∧ a1 ≤ 3) → (((0 ≤ a2 ∧ a2 ≤ 500) → (((0 ≤ a3 ∧ a3 ≤ 100000) → (((1 ≤ a4 ∧ a4 ≤ 30) → ((0 ≤ a1 ∧ a1 < 4)))))))))
set_option maxHeartbeats 4000000 in
theorem w_X12_drill (a1 : Int) (a2 : Int) (a3 : Int) (a4 : Int) (h : pH) {Q : Option pV → pH → Prop} (hp : P_X12_drill a1 a2 a3 a4 h) (kk : Q (some (0, F_X12_drill a1 a2 a3 a4 h)) (H_X12_drill a1 a2 a3 a4 h)) : WP 212 (0, [(14, 248), (0, a1), (0, a2), (0, a3), (0, a4)], [], h) Q := by
  unfold P_X12_drill at hp
  have q9 := hp
  refine WP.iload_n rfl rfl ?_
  refine WP.i2l rfl ?_
  refine WP.lconst rfl ?_
  refine WP.ldc2_w rfl ?_
  refine WP.callF (c_X12_in a1 0 3 h) rfl rfl (pm_cok rfl rfl (Or.inl rfl) rfl rfl) rfl rfl ?_
  show WP 212 (5, [(14, 248), (0, a1), (0, a2), (0, a3), (0, a4)], [(0, if 0 ≤ a1 ∧ a1 ≤ 3 then 1 else 0)], h) Q
  refine WP.nb_eq rfl (fun c1 => ?_) (fun c1 => ?_)
  · refine WP.bipush rfl ?_
    refine WP.reti rfl ?_; have e := kk; simp only [F_X12_drill, H_X12_drill, if_neg (c1)] at e ⊢; exact e
  · have q8 := q9 c1
    refine WP.iload_n rfl rfl ?_
    refine WP.i2l rfl ?_
    refine WP.lconst rfl ?_
    refine WP.ldc2_w rfl ?_
    refine WP.callF (c_X12_in a2 0 500 h) rfl rfl (pm_cok rfl rfl (Or.inl rfl) rfl rfl) rfl rfl ?_
    show WP 212 (11, [(14, 248), (0, a1), (0, a2), (0, a3), (0, a4)], [(0, if 0 ≤ a2 ∧ a2 ≤ 500 then 1 else 0)], h) Q
    refine WP.nb_eq rfl (fun c2 => ?_) (fun c2 => ?_)
    · refine WP.bipush rfl ?_
      refine WP.reti rfl ?_; have e := kk; simp only [F_X12_drill, H_X12_drill, if_pos c1, if_neg (c2)] at e ⊢; exact e
    · have q7 := q8 c2
      refine WP.iload_n rfl rfl ?_
      refine WP.i2l rfl ?_
      refine WP.lconst rfl ?_
      refine WP.ldc2_w rfl ?_
      refine WP.callF (c_X12_in a3 0 100000 h) rfl rfl (pm_cok rfl rfl (Or.inl rfl) rfl rfl) rfl rfl ?_
      show WP 212 (17, [(14, 248), (0, a1), (0, a2), (0, a3), (0, a4)], [(0, if 0 ≤ a3 ∧ a3 ≤ 100000 then 1 else 0)], h) Q
      refine WP.nb_eq rfl (fun c3 => ?_) (fun c3 => ?_)
      · refine WP.bipush rfl ?_
        refine WP.reti rfl ?_; have e := kk; simp only [F_X12_drill, H_X12_drill, if_pos c1, if_pos c2, if_neg (c3)] at e ⊢; exact e
      · have q6 := q7 c3
        refine WP.iload rfl rfl ?_
        refine WP.i2l rfl ?_
        refine WP.lconst rfl ?_
        refine WP.ldc2_w rfl ?_
        refine WP.callF (c_X12_in a4 1 30 h) rfl rfl (pm_cok rfl rfl (Or.inl rfl) rfl rfl) rfl rfl ?_
        show WP 212 (23, [(14, 248), (0, a1), (0, a2), (0, a3), (0, a4)], [(0, if 1 ≤ a4 ∧ a4 ≤ 30 then 1 else 0)], h) Q
        refine WP.nb_ne rfl (fun c4 => ?_) (fun c4 => ?_)
        · have o5 := q6 c4
          refine WP.aload_n rfl rfl ⟨by decide, by decide⟩ ?_
          refine WP.getRF (b := 270) rfl rfl rfl ?_
          refine WP.iload_n rfl rfl ?_
          refine WP.iconst rfl ?_
          refine WP.bastore rfl ⟨by decide, by decide, by decide⟩ o5 (by decide) ?_
          refine WP.aload_n rfl rfl ⟨by decide, by decide⟩ ?_
          refine WP.getRF (b := 271) rfl rfl rfl ?_
          refine WP.iload_n rfl rfl ?_
          refine WP.iload_n rfl rfl ?_
          refine WP.iastore rfl ⟨by decide, by decide, by decide⟩ o5 ?_
          refine WP.aload_n rfl rfl ⟨by decide, by decide⟩ ?_
          refine WP.getRF (b := 272) rfl rfl rfl ?_
          refine WP.iload_n rfl rfl ?_
          refine WP.iload_n rfl rfl ?_
          refine WP.iastore rfl ⟨by decide, by decide, by decide⟩ o5 ?_
          refine WP.aload_n rfl rfl ⟨by decide, by decide⟩ ?_
          refine WP.getRF (b := 273) rfl rfl rfl ?_
          refine WP.iload_n rfl rfl ?_
          refine WP.iload rfl rfl ?_
          refine WP.iastore rfl ⟨by decide, by decide, by decide⟩ o5 ?_
          show WP 212 (46, [(14, 248), (0, a1), (0, a2), (0, a3), (0, a4)], [], s_X12_drill_1 a1 a2 a3 a4 h) Q
          refine WP.iconst rfl ?_
          refine WP.reti rfl ?_; have e := kk; simp only [F_X12_drill, H_X12_drill, if_pos c1, if_pos c2, if_pos c3, if_pos c4] at e ⊢; exact e
        · refine WP.bipush rfl ?_
          refine WP.reti rfl ?_; have e := kk; simp only [F_X12_drill, H_X12_drill, if_pos c1, if_pos c2, if_pos c3, if_neg (c4)] at e ⊢; exact e
theorem c_X12_drill (a1 : Int) (a2 : Int) (a3 : Int) (a4 : Int) (h : pH) (hp : P_X12_drill a1 a2 a3 a4 h) : CP 212 [(14, 248), (0, a1), (0, a2), (0, a3), (0, a4)] h (fun r h1 => r = some (0, F_X12_drill a1 a2 a3 a4 h) ∧ h1 = H_X12_drill a1 a2 a3 a4 h) := w_X12_drill a1 a2 a3 a4 h hp ⟨rfl, rfl⟩
noncomputable def F_X12_begin (h : pH) : Int := h 248 20
noncomputable def H_X12_begin (h : pH) : pH := pm_upd (pm_upd (H_X12_copy 249 253 h) 248 20 0) 248 21 1
noncomputable def P_X12_begin (h : pH) : Prop := P_X12_copy 249 253 h
set_option maxHeartbeats 4000000 in
theorem w_X12_begin (h : pH) {Q : Option pV → pH → Prop} (hp : P_X12_begin h) (kk : Q (some (0, F_X12_begin h)) (H_X12_begin h)) : WP 215 (0, [(14, 248), pU], [], h) Q := by
  unfold P_X12_begin at hp
  have o1 := hp
  refine WP.aload_n rfl rfl ⟨by decide, by decide⟩ ?_
  refine WP.getI rfl rfl ?_
  refine WP.istore_n (L' := [(14, 248), (0, h 248 20)]) rfl rfl ?_
  refine WP.aload_n rfl rfl ⟨by decide, by decide⟩ ?_
  refine WP.getRF (b := 249) rfl rfl rfl ?_
  refine WP.aload_n rfl rfl ⟨by decide, by decide⟩ ?_
  refine WP.getRF (b := 253) rfl rfl rfl ?_
  refine WP.callF (c_X12_copy 249 253 h o1) rfl rfl (pm_cok rfl rfl (Or.inl rfl) rfl rfl) rfl rfl ?_
  show WP 215 (8, [(14, 248), (0, h 248 20)], [], H_X12_copy 249 253 h) Q
  refine WP.aload_n rfl rfl ⟨by decide, by decide⟩ ?_
  refine WP.iconst rfl ?_
  refine WP.putI rfl rfl ?_
  refine WP.aload_n rfl rfl ⟨by decide, by decide⟩ ?_
  refine WP.iconst rfl ?_
  refine WP.putZ rfl rfl (by decide) ?_
  refine WP.iload_n rfl rfl ?_
  refine WP.reti rfl ?_; exact kk
theorem c_X12_begin (h : pH) (hp : P_X12_begin h) : CP 215 [(14, 248)] h (fun r h1 => r = some (0, F_X12_begin h) ∧ h1 = H_X12_begin h) := w_X12_begin h hp ⟨rfl, rfl⟩
noncomputable def F_X12_forge (a1 : Int) (a2 : Int) (h : pH) : Int := if 0 ≤ a1 ∧ a1 ≤ ((h 248 20) - 1) then 1 else (-2)
noncomputable def H_X12_forge (a1 : Int) (a2 : Int) (h : pH) : pH := if 0 ≤ a1 ∧ a1 ≤ ((h 248 20) - 1) then pm_upd h 264 a1 a2 else h
noncomputable def P_X12_forge (a1 : Int) (a2 : Int) (h : pH) : Prop := (fx_i ((h 248 20) - 1)) ∧ ((0 ≤ a1 ∧ a1 ≤ ((h 248 20) - 1)) → ((0 ≤ a1 ∧ a1 < 40)))
set_option maxHeartbeats 4000000 in
theorem w_X12_forge (a1 : Int) (a2 : Int) (h : pH) {Q : Option pV → pH → Prop} (hp : P_X12_forge a1 a2 h) (kk : Q (some (0, F_X12_forge a1 a2 h)) (H_X12_forge a1 a2 h)) : WP 217 (0, [(14, 248), (0, a1), (1, a2), pU], [], h) Q := by
  unfold P_X12_forge at hp
  obtain ⟨o1, q4⟩ := hp
  refine WP.iload_n rfl rfl ?_
  refine WP.i2l rfl ?_
  refine WP.lconst rfl ?_
  refine WP.aload_n rfl rfl ⟨by decide, by decide⟩ ?_
  refine WP.getI rfl rfl ?_
  refine WP.iconst rfl ?_
  refine WP.isubE rfl o1 ?_
  refine WP.i2l rfl ?_
  refine WP.callF (c_X12_in a1 0 ((h 248 20) - 1) h) rfl rfl (pm_cok rfl rfl (Or.inl rfl) rfl rfl) rfl rfl ?_
  show WP 217 (9, [(14, 248), (0, a1), (1, a2), pU], [(0, if 0 ≤ a1 ∧ a1 ≤ ((h 248 20) - 1) then 1 else 0)], h) Q
  refine WP.nb_ne rfl (fun c2 => ?_) (fun c2 => ?_)
  · have o3 := q4 c2
    refine WP.aload_n rfl rfl ⟨by decide, by decide⟩ ?_
    refine WP.getRF (b := 264) rfl rfl rfl ?_
    refine WP.iload_n rfl rfl ?_
    refine WP.lload_n rfl rfl ?_
    refine WP.lastore rfl ⟨by decide, by decide, by decide⟩ o3 ?_
    refine WP.iconst rfl ?_
    refine WP.reti rfl ?_; have e := kk; simp only [F_X12_forge, H_X12_forge, if_pos c2] at e ⊢; exact e
  · refine WP.bipush rfl ?_
    refine WP.reti rfl ?_; have e := kk; simp only [F_X12_forge, H_X12_forge, if_neg (c2)] at e ⊢; exact e
theorem c_X12_forge (a1 : Int) (a2 : Int) (h : pH) (hp : P_X12_forge a1 a2 h) : CP 217 [(14, 248), (0, a1), (1, a2)] h (fun r h1 => r = some (0, F_X12_forge a1 a2 h) ∧ h1 = H_X12_forge a1 a2 h) := w_X12_forge a1 a2 h hp ⟨rfl, rfl⟩
noncomputable def s_X12_image_1 (a1 : Int) (h : pH) : pH := if a1 = 0 then H_X12_copy 249 251 h else H_X12_copy 249 252 h
noncomputable def F_X12_image (a1 : Int) (h : pH) : Int := if 0 ≤ a1 ∧ a1 ≤ 1 then 1 else (-2)
noncomputable def H_X12_image (a1 : Int) (h : pH) : pH := if 0 ≤ a1 ∧ a1 ≤ 1 then pm_upd (s_X12_image_1 a1 h) 254 a1 1 else h
noncomputable def P_X12_image (a1 : Int) (h : pH) : Prop := ((0 ≤ a1 ∧ a1 ≤ 1) → (((((a1 = 0) → P_X12_copy 249 251 h) ∧ ((¬ a1 = 0) → P_X12_copy 249 252 h))) ∧ (0 ≤ a1 ∧ a1 < 2)))
set_option maxHeartbeats 4000000 in
theorem w_X12_image (a1 : Int) (h : pH) {Q : Option pV → pH → Prop} (hp : P_X12_image a1 h) (kk : Q (some (0, F_X12_image a1 h)) (H_X12_image a1 h)) : WP 219 (0, [(14, 248), (0, a1)], [], h) Q := by
  unfold P_X12_image at hp
  have q10 := hp
  refine WP.iload_n rfl rfl ?_
  refine WP.i2l rfl ?_
  refine WP.lconst rfl ?_
  refine WP.lconst rfl ?_
  refine WP.callF (c_X12_in a1 0 1 h) rfl rfl (pm_cok rfl rfl (Or.inl rfl) rfl rfl) rfl rfl ?_
  show WP 219 (5, [(14, 248), (0, a1)], [(0, if 0 ≤ a1 ∧ a1 ≤ 1 then 1 else 0)], h) Q
  refine WP.nb_ne rfl (fun c1 => ?_) (fun c1 => ?_)
  · obtain ⟨q8, o9⟩ := q10 c1
    refine WP.iload_n rfl rfl ?_
    have k2 : ∀ Q' : Option pV → pH → Prop, (WP 219 (21, [(14, 248), (0, a1)], [], s_X12_image_1 a1 h) Q') → WP 219 (9, [(14, 248), (0, a1)], [(0, a1)], h) Q' := fun Q' kk => by
      have q6 := q8
      refine WP.nz_ne rfl (fun c3 => ?_) (fun c3 => ?_)
      · have o5 := q6.2 c3
        refine WP.aload_n rfl rfl ⟨by decide, by decide⟩ ?_
        refine WP.getRF (b := 249) rfl rfl rfl ?_
        refine WP.aload_n rfl rfl ⟨by decide, by decide⟩ ?_
        refine WP.getRF (b := 252) rfl rfl rfl ?_
        refine WP.callF (c_X12_copy 249 252 h o5) rfl rfl (pm_cok rfl rfl (Or.inl rfl) rfl rfl) rfl rfl ?_
        show WP 219 (21, [(14, 248), (0, a1)], [], H_X12_copy 249 252 h) Q'
        have e := kk; simp only [s_X12_image_1, if_neg (c3)] at e ⊢; exact e
      · have o4 := q6.1 c3
        refine WP.aload_n rfl rfl ⟨by decide, by decide⟩ ?_
        refine WP.getRF (b := 249) rfl rfl rfl ?_
        refine WP.aload_n rfl rfl ⟨by decide, by decide⟩ ?_
        refine WP.getRF (b := 251) rfl rfl rfl ?_
        refine WP.callF (c_X12_copy 249 251 h o4) rfl rfl (pm_cok rfl rfl (Or.inl rfl) rfl rfl) rfl rfl ?_
        show WP 219 (15, [(14, 248), (0, a1)], [], H_X12_copy 249 251 h) Q'
        refine WP.goto rfl ?_
        have e := kk; simp only [s_X12_image_1, if_pos c3] at e ⊢; exact e
    refine k2 _ ?_
    refine WP.aload_n rfl rfl ⟨by decide, by decide⟩ ?_
    refine WP.getRF (b := 254) rfl rfl rfl ?_
    refine WP.iload_n rfl rfl ?_
    refine WP.iconst rfl ?_
    refine WP.bastore rfl ⟨by decide, by decide, by decide⟩ o9 (by decide) ?_
    refine WP.iconst rfl ?_
    refine WP.reti rfl ?_; have e := kk; simp only [F_X12_image, H_X12_image, if_pos c1] at e ⊢; exact e
  · refine WP.bipush rfl ?_
    refine WP.reti rfl ?_; have e := kk; simp only [F_X12_image, H_X12_image, if_neg (c1)] at e ⊢; exact e
theorem c_X12_image (a1 : Int) (h : pH) (hp : P_X12_image a1 h) : CP 219 [(14, 248), (0, a1)] h (fun r h1 => r = some (0, F_X12_image a1 h) ∧ h1 = H_X12_image a1 h) := w_X12_image a1 h hp ⟨rfl, rfl⟩
noncomputable def s_X12_from_1 (a1 : Int) (h : pH) : pH := if a1 = 0 then H_X12_copy 251 249 h else H_X12_copy 252 249 h
noncomputable def F_X12_from (a1 : Int) (h : pH) : Int := if 0 ≤ a1 ∧ a1 ≤ 1 then if h 254 a1 = 0 then (-3) else 1 else (-2)
noncomputable def H_X12_from (a1 : Int) (h : pH) : pH := if 0 ≤ a1 ∧ a1 ≤ 1 then if h 254 a1 = 0 then h else s_X12_from_1 a1 h else h
noncomputable def P_X12_from (a1 : Int) (h : pH) : Prop := ((0 ≤ a1 ∧ a1 ≤ 1) → ((0 ≤ a1 ∧ a1 < 2) ∧ ((¬ h 254 a1 = 0) → (((((a1 = 0) → P_X12_copy 251 249 h) ∧ ((¬ a1 = 0) → P_X12_copy 252 249 h)))))))
set_option maxHeartbeats 4000000 in
theorem w_X12_from (a1 : Int) (h : pH) {Q : Option pV → pH → Prop} (hp : P_X12_from a1 h) (kk : Q (some (0, F_X12_from a1 h)) (H_X12_from a1 h)) : WP 220 (0, [(14, 248), (0, a1)], [], h) Q := by
  unfold P_X12_from at hp
  have q12 := hp
  refine WP.iload_n rfl rfl ?_
  refine WP.i2l rfl ?_
  refine WP.lconst rfl ?_
  refine WP.lconst rfl ?_
  refine WP.callF (c_X12_in a1 0 1 h) rfl rfl (pm_cok rfl rfl (Or.inl rfl) rfl rfl) rfl rfl ?_
  show WP 220 (5, [(14, 248), (0, a1)], [(0, if 0 ≤ a1 ∧ a1 ≤ 1 then 1 else 0)], h) Q
  refine WP.nb_ne rfl (fun c1 => ?_) (fun c1 => ?_)
  · obtain ⟨o2, q11⟩ := q12 c1
    refine WP.aload_n rfl rfl ⟨by decide, by decide⟩ ?_
    refine WP.getRF (b := 254) rfl rfl rfl ?_
    refine WP.iload_n rfl rfl ?_
    refine WP.baload rfl ⟨by decide, by decide, by decide⟩ o2 ?_
    refine WP.nz_ne rfl (fun c3 => ?_) (fun c3 => ?_)
    · have q10 := q11 c3
      refine WP.iload_n rfl rfl ?_
      have k4 : ∀ Q' : Option pV → pH → Prop, (WP 220 (28, [(14, 248), (0, a1)], [], s_X12_from_1 a1 h) Q') → WP 220 (16, [(14, 248), (0, a1)], [(0, a1)], h) Q' := fun Q' kk => by
        have q8 := q10
        refine WP.nz_ne rfl (fun c5 => ?_) (fun c5 => ?_)
        · have o7 := q8.2 c5
          refine WP.aload_n rfl rfl ⟨by decide, by decide⟩ ?_
          refine WP.getRF (b := 252) rfl rfl rfl ?_
          refine WP.aload_n rfl rfl ⟨by decide, by decide⟩ ?_
          refine WP.getRF (b := 249) rfl rfl rfl ?_
          refine WP.callF (c_X12_copy 252 249 h o7) rfl rfl (pm_cok rfl rfl (Or.inl rfl) rfl rfl) rfl rfl ?_
          show WP 220 (28, [(14, 248), (0, a1)], [], H_X12_copy 252 249 h) Q'
          have e := kk; simp only [s_X12_from_1, if_neg (c5)] at e ⊢; exact e
        · have o6 := q8.1 c5
          refine WP.aload_n rfl rfl ⟨by decide, by decide⟩ ?_
          refine WP.getRF (b := 251) rfl rfl rfl ?_
          refine WP.aload_n rfl rfl ⟨by decide, by decide⟩ ?_
          refine WP.getRF (b := 249) rfl rfl rfl ?_
          refine WP.callF (c_X12_copy 251 249 h o6) rfl rfl (pm_cok rfl rfl (Or.inl rfl) rfl rfl) rfl rfl ?_
          show WP 220 (22, [(14, 248), (0, a1)], [], H_X12_copy 251 249 h) Q'
          refine WP.goto rfl ?_
          have e := kk; simp only [s_X12_from_1, if_pos c5] at e ⊢; exact e
      refine k4 _ ?_
      refine WP.iconst rfl ?_
      refine WP.reti rfl ?_; have e := kk; simp only [F_X12_from, H_X12_from, if_pos c1, if_neg (c3)] at e ⊢; exact e
    · refine WP.bipush rfl ?_
      refine WP.reti rfl ?_; have e := kk; simp only [F_X12_from, H_X12_from, if_pos c1, if_pos c3] at e ⊢; exact e
  · refine WP.bipush rfl ?_
    refine WP.reti rfl ?_; have e := kk; simp only [F_X12_from, H_X12_from, if_neg (c1)] at e ⊢; exact e
theorem c_X12_from (a1 : Int) (h : pH) (hp : P_X12_from a1 h) : CP 220 [(14, 248), (0, a1)] h (fun r h1 => r = some (0, F_X12_from a1 h) ∧ h1 = H_X12_from a1 h) := w_X12_from a1 h hp ⟨rfl, rfl⟩
noncomputable def F_X12_count (a1 : Int) (h : pH) : Int := if a1 = 0 then h 249 12 else if a1 = 1 then h 249 13 else if a1 = 2 then F_X12_overs 2 h else if a1 = 3 then F_X12_overs 3 h else if a1 = 4 then h 249 14 else if a1 = 5 then h 248 20 else if a1 = 6 then h 249 19 else (-2)
noncomputable def P_X12_count (a1 : Int) (h : pH) : Prop := (((a1 = 0) → P_X12_at 12 h) ∧ ((¬ a1 = 0) → ((((a1 = 1) → P_X12_at 13 h) ∧ ((¬ a1 = 1) → ((((a1 = 2) → P_X12_overs 2 h) ∧ ((¬ a1 = 2) → ((((a1 = 3) → P_X12_overs 3 h) ∧ ((¬ a1 = 3) → ((((a1 = 4) → P_X12_at 14 h) ∧ ((¬ a1 = 4) → (((¬ a1 = 5) → (((a1 = 6) → P_X12_at 19 h))))))))))))))))))
set_option maxHeartbeats 4000000 in
theorem w_X12_count (a1 : Int) (h : pH) {Q : Option pV → pH → Prop} (hp : P_X12_count a1 h) (kk : Q (some (0, F_X12_count a1 h)) (h)) : WP 222 (0, [(14, 248), (0, a1)], [], h) Q := by
  unfold P_X12_count at hp
  have q20 := hp
  refine WP.iload_n rfl rfl ?_
  refine WP.ntsw rfl rfl ?_
  show WP 222 (fx_sw 0 [2, 6, 10, 14, 18, 22, 25] 29 a1, [(14, 248), (0, a1)], [], h) Q
  refine WP.nsl rfl (fun (c1 : a1 = 0) => ?_) (fun (c1 : ¬ a1 = 0) => ?_)
  · have o2 := q20.1 c1
    show WP 222 (2, [(14, 248), (0, a1)], [], h) Q
    refine WP.aload_n rfl rfl ⟨by decide, by decide⟩ ?_
    refine WP.bipush rfl ?_
    refine WP.callF (c_X12_at 12 h o2) rfl rfl (pm_cok rfl rfl (Or.inr ⟨_, _, rfl⟩) rfl rfl) rfl rfl ?_
    show WP 222 (5, [(14, 248), (0, a1)], [(0, h 249 12)], h) Q
    refine WP.reti rfl ?_; have e := kk; simp only [F_X12_count, if_pos c1] at e ⊢; exact e
  · have q19 := q20.2 c1
    refine WP.nsl rfl (fun (c3 : a1 = 1) => ?_) (fun (c3 : ¬ a1 = 1) => ?_)
    · have o4 := q19.1 c3
      show WP 222 (6, [(14, 248), (0, a1)], [], h) Q
      refine WP.aload_n rfl rfl ⟨by decide, by decide⟩ ?_
      refine WP.bipush rfl ?_
      refine WP.callF (c_X12_at 13 h o4) rfl rfl (pm_cok rfl rfl (Or.inr ⟨_, _, rfl⟩) rfl rfl) rfl rfl ?_
      show WP 222 (9, [(14, 248), (0, a1)], [(0, h 249 13)], h) Q
      refine WP.reti rfl ?_; have e := kk; simp only [F_X12_count, if_neg (c1), if_pos c3] at e ⊢; exact e
    · have q18 := q19.2 c3
      refine WP.nsl rfl (fun (c5 : a1 = 2) => ?_) (fun (c5 : ¬ a1 = 2) => ?_)
      · have o6 := q18.1 c5
        show WP 222 (10, [(14, 248), (0, a1)], [], h) Q
        refine WP.aload_n rfl rfl ⟨by decide, by decide⟩ ?_
        refine WP.iconst rfl ?_
        refine WP.callF (c_X12_overs 2 h o6) rfl rfl (pm_cok rfl rfl (Or.inr ⟨_, _, rfl⟩) rfl rfl) rfl rfl ?_
        show WP 222 (13, [(14, 248), (0, a1)], [(0, F_X12_overs 2 h)], h) Q
        refine WP.reti rfl ?_; have e := kk; simp only [F_X12_count, if_neg (c1), if_neg (c3), if_pos c5] at e ⊢; exact e
      · have q17 := q18.2 c5
        refine WP.nsl rfl (fun (c7 : a1 = 3) => ?_) (fun (c7 : ¬ a1 = 3) => ?_)
        · have o8 := q17.1 c7
          show WP 222 (14, [(14, 248), (0, a1)], [], h) Q
          refine WP.aload_n rfl rfl ⟨by decide, by decide⟩ ?_
          refine WP.iconst rfl ?_
          refine WP.callF (c_X12_overs 3 h o8) rfl rfl (pm_cok rfl rfl (Or.inr ⟨_, _, rfl⟩) rfl rfl) rfl rfl ?_
          show WP 222 (17, [(14, 248), (0, a1)], [(0, F_X12_overs 3 h)], h) Q
          refine WP.reti rfl ?_; have e := kk; simp only [F_X12_count, if_neg (c1), if_neg (c3), if_neg (c5), if_pos c7] at e ⊢; exact e
        · have q16 := q17.2 c7
          refine WP.nsl rfl (fun (c9 : a1 = 4) => ?_) (fun (c9 : ¬ a1 = 4) => ?_)
          · have o10 := q16.1 c9
            show WP 222 (18, [(14, 248), (0, a1)], [], h) Q
            refine WP.aload_n rfl rfl ⟨by decide, by decide⟩ ?_
            refine WP.bipush rfl ?_
            refine WP.callF (c_X12_at 14 h o10) rfl rfl (pm_cok rfl rfl (Or.inr ⟨_, _, rfl⟩) rfl rfl) rfl rfl ?_
            show WP 222 (21, [(14, 248), (0, a1)], [(0, h 249 14)], h) Q
            refine WP.reti rfl ?_; have e := kk; simp only [F_X12_count, if_neg (c1), if_neg (c3), if_neg (c5), if_neg (c7), if_pos c9] at e ⊢; exact e
          · have q15 := q16.2 c9
            refine WP.nsl rfl (fun (c11 : a1 = 5) => ?_) (fun (c11 : ¬ a1 = 5) => ?_)
            · show WP 222 (22, [(14, 248), (0, a1)], [], h) Q
              refine WP.aload_n rfl rfl ⟨by decide, by decide⟩ ?_
              refine WP.getI rfl rfl ?_
              refine WP.reti rfl ?_; have e := kk; simp only [F_X12_count, if_neg (c1), if_neg (c3), if_neg (c5), if_neg (c7), if_neg (c9), if_pos c11] at e ⊢; exact e
            · have q14 := q15 c11
              refine WP.nsl rfl (fun (c12 : a1 = 6) => ?_) (fun (c12 : ¬ a1 = 6) => ?_)
              · have o13 := q14 c12
                show WP 222 (25, [(14, 248), (0, a1)], [], h) Q
                refine WP.aload_n rfl rfl ⟨by decide, by decide⟩ ?_
                refine WP.bipush rfl ?_
                refine WP.callF (c_X12_at 19 h o13) rfl rfl (pm_cok rfl rfl (Or.inr ⟨_, _, rfl⟩) rfl rfl) rfl rfl ?_
                show WP 222 (28, [(14, 248), (0, a1)], [(0, h 249 19)], h) Q
                refine WP.reti rfl ?_; have e := kk; simp only [F_X12_count, if_neg (c1), if_neg (c3), if_neg (c5), if_neg (c7), if_neg (c9), if_neg (c11), if_pos c12] at e ⊢; exact e
              · show WP 222 (29, [(14, 248), (0, a1)], [], h) Q
                refine WP.bipush rfl ?_
                refine WP.reti rfl ?_; have e := kk; simp only [F_X12_count, if_neg (c1), if_neg (c3), if_neg (c5), if_neg (c7), if_neg (c9), if_neg (c11), if_neg (c12)] at e ⊢; exact e
theorem c_X12_count (a1 : Int) (h : pH) (hp : P_X12_count a1 h) : CP 222 [(14, 248), (0, a1)] h (fun r h1 => r = some (0, F_X12_count a1 h) ∧ h1 = h) := w_X12_count a1 h hp ⟨rfl, rfl⟩
noncomputable def s_X0_settle_1 (a0 : Int) (x1 : Int) (h : pH) : pH := pm_upd h (a0 + 5) x1 ((h (a0 + 1) x1) - (Int.tdiv (((h (a0 + 1) x1) - (h a0 5)) * (h a0 6)) 1000))
def C_X0_settle_2 (a0 : Int) (x1 : Int) (h : pH) : Prop := x1 < 12
noncomputable def B_X0_settle_2 (a0 : Int) (x1 : Int) (h : pH) : Int × pH := (x1 + 1, s_X0_settle_1 a0 x1 h)
noncomputable def P_X0_settle_2 (a0 : Int) (x1 : Int) (h : pH) : Prop := ((x1 < 12) → (0 ≤ x1 ∧ x1 < 12) ∧ (fx_i ((h (a0 + 1) x1) - (h a0 5))) ∧ (P_X0_part ((h (a0 + 1) x1) - (h a0 5)) (h a0 6) h) ∧ (fx_i ((h (a0 + 1) x1) - (Int.tdiv (((h (a0 + 1) x1) - (h a0 5)) * (h a0 6)) 1000))) ∧ (fx_i (x1 + 1)))
noncomputable def L_X0_settle_2 (a0 : Int) (x1 : Int) (h : pH) : Int × pH := fx_wh (σ := Int × pH) (fun s => C_X0_settle_2 a0 s.1 s.2) (fun s => B_X0_settle_2 a0 s.1 s.2) (x1, h)
def O_X0_settle_2 (a0 : Int) (x1 : Int) (h : pH) : Prop := fx_ok (σ := Int × pH) (fun s => C_X0_settle_2 a0 s.1 s.2) (fun s => B_X0_settle_2 a0 s.1 s.2) (fun s => P_X0_settle_2 a0 s.1 s.2) (x1, h)
set_option maxHeartbeats 4000000 in
theorem lp_X0_settle_2 (a0 : Int) (x1 : Int) (h : pH) {Q : Option pV → pH → Prop} (hp : O_X0_settle_2 a0 x1 h) (kk : ∀ us : List pV, WP 9 (26, [(2, a0), (0, (L_X0_settle_2 a0 x1 h).1), us.getD 0 pU], [], (L_X0_settle_2 a0 x1 h).2) Q) : ∀ us : List pV, WP 9 (2, [(2, a0), (0, x1), us.getD 0 pU], [], h) Q := by
  refine WP.wh (σ := Int × pH) (fun s => C_X0_settle_2 a0 s.1 s.2) (fun s => B_X0_settle_2 a0 s.1 s.2) (fun s => P_X0_settle_2 a0 s.1 s.2) (fun s us => (2, [(2, a0), (0, s.1), us.getD 0 pU], [], s.2)) (x1, h) hp ?_ ?_
  · intro s us hP hc kk
    obtain ⟨x1, h⟩ := s
    change P_X0_settle_2 a0 x1 h at hP
    change x1 < 12 at hc
    replace kk : ∀ (us' : List pV) (s' : Int × pH), s' = B_X0_settle_2 a0 x1 h → WP 9 (2, [(2, a0), (0, s'.1), us'.getD 0 pU], [], s'.2) Q := fun us' s' e => by subst e; exact kk us'
    unfold P_X0_settle_2 at hP
    obtain ⟨o3, o4, o5, o6, o7⟩ := hP hc
    show WP 9 (2, [(2, a0), (0, x1), us.getD 0 pU], [], h) Q
    refine WP.iload_n rfl rfl ?_
    refine WP.bipush rfl ?_
    refine WP.ni_ge rfl (fun c2 => ?_) (fun c2 => ?_)
    · exact absurd hc (Int.not_lt.mpr c2)
    · refine WP.aload_n rfl rfl ⟨by decide, by decide⟩ ?_
      refine WP.getR rfl rfl ?_
      refine WP.iload_n rfl rfl ?_
      refine WP.aload_n rfl rfl ⟨by decide, by decide⟩ ?_
      refine WP.getR rfl rfl ?_
      refine WP.iload_n rfl rfl ?_
      refine WP.iaload rfl ⟨by decide, by decide, by decide⟩ o3 ?_
      refine WP.aload_n rfl rfl ⟨by decide, by decide⟩ ?_
      refine WP.getR rfl rfl ?_
      refine WP.iload_n rfl rfl ?_
      refine WP.iaload rfl ⟨by decide, by decide, by decide⟩ o3 ?_
      refine WP.aload_n rfl rfl ⟨by decide, by decide⟩ ?_
      refine WP.getI rfl rfl ?_
      refine WP.isubE rfl o4 ?_
      refine WP.aload_n rfl rfl ⟨by decide, by decide⟩ ?_
      refine WP.getI rfl rfl ?_
      refine WP.callF (c_X0_part ((h (a0 + 1) x1) - (h a0 5)) (h a0 6) h o5) rfl rfl (pm_cok rfl rfl (Or.inl rfl) rfl rfl) rfl rfl ?_
      show WP 9 (22, [(2, a0), (0, x1), us.getD 0 pU], [(0, Int.tdiv (((h (a0 + 1) x1) - (h a0 5)) * (h a0 6)) 1000), (0, h (a0 + 1) x1), (0, x1), (1048, a0 + 5)], h) Q
      refine WP.isubE rfl o6 ?_
      refine WP.iastore rfl ⟨by decide, by decide, by decide⟩ o3 ?_
      show WP 9 (24, [(2, a0), (0, x1), us.getD 0 pU], [], s_X0_settle_1 a0 x1 h) Q
      refine WP.iincE (L' := [(2, a0), (0, x1 + 1), us.getD 0 pU]) rfl rfl o7 rfl ?_
      refine WP.goto rfl ?_
      exact kk [us.getD 0 pU] (x1 + 1, s_X0_settle_1 a0 x1 h) (rfl)
  · intro hP hc
    generalize hs : (L_X0_settle_2 a0 x1 h : Int × pH) = s at kk
    change P_X0_settle_2 a0 (L_X0_settle_2 a0 x1 h).1 (L_X0_settle_2 a0 x1 h).2 at hP
    change ¬ C_X0_settle_2 a0 (L_X0_settle_2 a0 x1 h).1 (L_X0_settle_2 a0 x1 h).2 at hc
    intro us
    show WP 9 (2, [(2, a0), (0, (L_X0_settle_2 a0 x1 h).1), us.getD 0 pU], [], (L_X0_settle_2 a0 x1 h).2) Q
    rw [hs] at hP hc ⊢
    obtain ⟨x1, h⟩ := s
    change P_X0_settle_2 a0 x1 h at hP
    change ¬ (x1 < 12) at hc
    unfold P_X0_settle_2 at hP
    show WP 9 (2, [(2, a0), (0, x1), us.getD 0 pU], [], h) Q
    refine WP.iload_n rfl rfl ?_
    refine WP.bipush rfl ?_
    refine WP.ni_ge rfl (fun c1 => ?_) (fun c1 => ?_)
    · exact kk [us.getD 0 pU]
    · exact absurd (show x1 < 12 from c1) hc
noncomputable def s_X0_settle_2 (a0 : Int) (x1 : Int) (h : pH) : pH := if 3 ≤ Int.tmod x1 4 then h else H_X0_exchange a0 x1 (x1 + 1) h
noncomputable def s_X0_settle_3 (a0 : Int) (x1 : Int) (h : pH) : pH := if 12 ≤ x1 + 4 then s_X0_settle_2 a0 x1 h else H_X0_exchange a0 x1 (x1 + 4) (s_X0_settle_2 a0 x1 h)
def C_X0_settle_28 (a0 : Int) (x1 : Int) (h : pH) : Prop := x1 < 12
noncomputable def B_X0_settle_28 (a0 : Int) (x1 : Int) (h : pH) : Int × pH := (x1 + 1, s_X0_settle_3 a0 x1 h)
noncomputable def P_X0_settle_28 (a0 : Int) (x1 : Int) (h : pH) : Prop := ((x1 < 12) → (((Int.tmod x1 4 < 3) → ((fx_i (x1 + 1)) ∧ (P_X0_exchange a0 x1 (x1 + 1) h)))) ∧ (fx_i (x1 + 4)) ∧ (((x1 + 4 < 12) → ((P_X0_exchange a0 x1 (x1 + 4) (s_X0_settle_2 a0 x1 h))))) ∧ (fx_i (x1 + 1)))
noncomputable def L_X0_settle_28 (a0 : Int) (x1 : Int) (h : pH) : Int × pH := fx_wh (σ := Int × pH) (fun s => C_X0_settle_28 a0 s.1 s.2) (fun s => B_X0_settle_28 a0 s.1 s.2) (x1, h)
def O_X0_settle_28 (a0 : Int) (x1 : Int) (h : pH) : Prop := fx_ok (σ := Int × pH) (fun s => C_X0_settle_28 a0 s.1 s.2) (fun s => B_X0_settle_28 a0 s.1 s.2) (fun s => P_X0_settle_28 a0 s.1 s.2) (x1, h)
set_option maxHeartbeats 4000000 in
theorem lp_X0_settle_28 (a0 : Int) (x1 : Int) (h : pH) {Q : Option pV → pH → Prop} (hp : O_X0_settle_28 a0 x1 h) (kk : ∀ us : List pV, WP 9 (55, [(2, a0), (0, (L_X0_settle_28 a0 x1 h).1), us.getD 0 pU], [], (L_X0_settle_28 a0 x1 h).2) Q) : ∀ us : List pV, WP 9 (28, [(2, a0), (0, x1), us.getD 0 pU], [], h) Q := by
  refine WP.wh (σ := Int × pH) (fun s => C_X0_settle_28 a0 s.1 s.2) (fun s => B_X0_settle_28 a0 s.1 s.2) (fun s => P_X0_settle_28 a0 s.1 s.2) (fun s us => (28, [(2, a0), (0, s.1), us.getD 0 pU], [], s.2)) (x1, h) hp ?_ ?_
  · intro s us hP hc kk
    obtain ⟨x1, h⟩ := s
    change P_X0_settle_28 a0 x1 h at hP
    change x1 < 12 at hc
    replace kk : ∀ (us' : List pV) (s' : Int × pH), s' = B_X0_settle_28 a0 x1 h → WP 9 (28, [(2, a0), (0, s'.1), us'.getD 0 pU], [], s'.2) Q := fun us' s' e => by subst e; exact kk us'
    unfold P_X0_settle_28 at hP
    obtain ⟨q18, o19, q25, o26⟩ := hP hc
    show WP 9 (28, [(2, a0), (0, x1), us.getD 0 pU], [], h) Q
    refine WP.iload_n rfl rfl ?_
    refine WP.bipush rfl ?_
    refine WP.ni_ge rfl (fun c11 => ?_) (fun c11 => ?_)
    · exact absurd hc (Int.not_lt.mpr c11)
    · refine WP.iload_n rfl rfl ?_
      refine WP.iconst rfl ?_
      refine WP.irem rfl (show (4 : Int) ≠ 0 by decide) ?_
      refine WP.iconst rfl ?_
      have k12 : ∀ Q' : Option pV → pH → Prop, (WP 9 (42, [(2, a0), (0, x1), us.getD 0 pU], [], s_X0_settle_2 a0 x1 h) Q') → WP 9 (35, [(2, a0), (0, x1), us.getD 0 pU], [(0, 3), (0, Int.tmod x1 4)], h) Q' := fun Q' kk => by
        have q16 := q18
        refine WP.ni_ge rfl (fun c13 => ?_) (fun c13 => ?_)
        · have e := kk; simp only [s_X0_settle_2, if_pos c13] at e ⊢; exact e
        · obtain ⟨o14, o15⟩ := q16 c13
          refine WP.aload_n rfl rfl ⟨by decide, by decide⟩ ?_
          refine WP.iload_n rfl rfl ?_
          refine WP.iload_n rfl rfl ?_
          refine WP.iconst rfl ?_
          refine WP.iaddE rfl o14 ?_
          refine WP.callF (c_X0_exchange a0 x1 (x1 + 1) h o15) rfl rfl (pm_cok rfl rfl (Or.inr ⟨_, _, rfl⟩) rfl rfl) rfl rfl ?_
          show WP 9 (42, [(2, a0), (0, x1), us.getD 0 pU], [], H_X0_exchange a0 x1 (x1 + 1) h) Q'
          have e := kk; simp only [s_X0_settle_2, if_neg (Int.not_le.mpr c13)] at e ⊢; exact e
      refine k12 _ ?_
      refine WP.iload_n rfl rfl ?_
      refine WP.iconst rfl ?_
      refine WP.iaddE rfl o19 ?_
      refine WP.bipush rfl ?_
      have k20 : ∀ Q' : Option pV → pH → Prop, (WP 9 (53, [(2, a0), (0, x1), us.getD 0 pU], [], s_X0_settle_3 a0 x1 h) Q') → WP 9 (46, [(2, a0), (0, x1), us.getD 0 pU], [(0, 12), (0, x1 + 4)], s_X0_settle_2 a0 x1 h) Q' := fun Q' kk => by
        have q23 := q25
        refine WP.ni_ge rfl (fun c21 => ?_) (fun c21 => ?_)
        · have e := kk; simp only [s_X0_settle_3, if_pos c21] at e ⊢; exact e
        · have o22 := q23 c21
          refine WP.aload_n rfl rfl ⟨by decide, by decide⟩ ?_
          refine WP.iload_n rfl rfl ?_
          refine WP.iload_n rfl rfl ?_
          refine WP.iconst rfl ?_
          refine WP.iaddE rfl o19 ?_
          refine WP.callF (c_X0_exchange a0 x1 (x1 + 4) (s_X0_settle_2 a0 x1 h) o22) rfl rfl (pm_cok rfl rfl (Or.inr ⟨_, _, rfl⟩) rfl rfl) rfl rfl ?_
          show WP 9 (53, [(2, a0), (0, x1), us.getD 0 pU], [], H_X0_exchange a0 x1 (x1 + 4) (s_X0_settle_2 a0 x1 h)) Q'
          have e := kk; simp only [s_X0_settle_3, if_neg (Int.not_le.mpr c21)] at e ⊢; exact e
      refine k20 _ ?_
      refine WP.iincE (L' := [(2, a0), (0, x1 + 1), us.getD 0 pU]) rfl rfl o26 rfl ?_
      refine WP.goto rfl ?_
      exact kk [us.getD 0 pU] (x1 + 1, s_X0_settle_3 a0 x1 h) (rfl)
  · intro hP hc
    generalize hs : (L_X0_settle_28 a0 x1 h : Int × pH) = s at kk
    change P_X0_settle_28 a0 (L_X0_settle_28 a0 x1 h).1 (L_X0_settle_28 a0 x1 h).2 at hP
    change ¬ C_X0_settle_28 a0 (L_X0_settle_28 a0 x1 h).1 (L_X0_settle_28 a0 x1 h).2 at hc
    intro us
    show WP 9 (28, [(2, a0), (0, (L_X0_settle_28 a0 x1 h).1), us.getD 0 pU], [], (L_X0_settle_28 a0 x1 h).2) Q
    rw [hs] at hP hc ⊢
    obtain ⟨x1, h⟩ := s
    change P_X0_settle_28 a0 x1 h at hP
    change ¬ (x1 < 12) at hc
    unfold P_X0_settle_28 at hP
    show WP 9 (28, [(2, a0), (0, x1), us.getD 0 pU], [], h) Q
    refine WP.iload_n rfl rfl ?_
    refine WP.bipush rfl ?_
    refine WP.ni_ge rfl (fun c10 => ?_) (fun c10 => ?_)
    · exact kk [us.getD 0 pU]
    · exact absurd (show x1 < 12 from c10) hc
noncomputable def s_X0_settle_4 (a0 : Int) (h : pH) : Int := (L_X0_settle_28 a0 0 ((L_X0_settle_2 a0 0 h).2)).1
noncomputable def s_X0_settle_5 (a0 : Int) (h : pH) : pH := (L_X0_settle_28 a0 0 ((L_X0_settle_2 a0 0 h).2)).2
noncomputable def s_X0_settle_6 (a0 : Int) (x1 : Int) (h : pH) : Int := fx_min 100000000 ((h (a0 + 5) x1) - (fx_max 0 (fx_min (h (a0 + 2) x1) ((h (a0 + 5) x1) - (h (a0 + 3) x1)))))
def C_X0_settle_57 (a0 : Int) (x1 : Int) (h : pH) : Prop := x1 < 12
noncomputable def B_X0_settle_57 (a0 : Int) (x1 : Int) (h : pH) : Int × pH := (x1 + 1, pm_upd h (a0 + 1) x1 (s_X0_settle_6 a0 x1 h))
noncomputable def P_X0_settle_57 (a0 : Int) (x1 : Int) (h : pH) : Prop := ((x1 < 12) → (0 ≤ x1 ∧ x1 < 12) ∧ (fx_i ((h (a0 + 5) x1) - (h (a0 + 3) x1))) ∧ (fx_i ((h (a0 + 5) x1) - (fx_max 0 (fx_min (h (a0 + 2) x1) ((h (a0 + 5) x1) - (h (a0 + 3) x1)))))) ∧ (fx_i (x1 + 1)))
noncomputable def L_X0_settle_57 (a0 : Int) (x1 : Int) (h : pH) : Int × pH := fx_wh (σ := Int × pH) (fun s => C_X0_settle_57 a0 s.1 s.2) (fun s => B_X0_settle_57 a0 s.1 s.2) (x1, h)
def O_X0_settle_57 (a0 : Int) (x1 : Int) (h : pH) : Prop := fx_ok (σ := Int × pH) (fun s => C_X0_settle_57 a0 s.1 s.2) (fun s => B_X0_settle_57 a0 s.1 s.2) (fun s => P_X0_settle_57 a0 s.1 s.2) (x1, h)
set_option maxHeartbeats 4000000 in
theorem lp_X0_settle_57 (a0 : Int) (x1 : Int) (h : pH) {Q : Option pV → pH → Prop} (hp : O_X0_settle_57 a0 x1 h) (kk : ∀ us : List pV, WP 9 (91, [(2, a0), (0, (L_X0_settle_57 a0 x1 h).1), us.getD 0 pU], [], (L_X0_settle_57 a0 x1 h).2) Q) : ∀ us : List pV, WP 9 (57, [(2, a0), (0, x1), us.getD 0 pU], [], h) Q := by
  refine WP.wh (σ := Int × pH) (fun s => C_X0_settle_57 a0 s.1 s.2) (fun s => B_X0_settle_57 a0 s.1 s.2) (fun s => P_X0_settle_57 a0 s.1 s.2) (fun s us => (57, [(2, a0), (0, s.1), us.getD 0 pU], [], s.2)) (x1, h) hp ?_ ?_
  · intro s us hP hc kk
    obtain ⟨x1, h⟩ := s
    change P_X0_settle_57 a0 x1 h at hP
    change x1 < 12 at hc
    replace kk : ∀ (us' : List pV) (s' : Int × pH), s' = B_X0_settle_57 a0 x1 h → WP 9 (57, [(2, a0), (0, s'.1), us'.getD 0 pU], [], s'.2) Q := fun us' s' e => by subst e; exact kk us'
    unfold P_X0_settle_57 at hP
    obtain ⟨o31, o32, o33, o34⟩ := hP hc
    show WP 9 (57, [(2, a0), (0, x1), us.getD 0 pU], [], h) Q
    refine WP.iload_n rfl rfl ?_
    refine WP.bipush rfl ?_
    refine WP.ni_ge rfl (fun c30 => ?_) (fun c30 => ?_)
    · exact absurd hc (Int.not_lt.mpr c30)
    · refine WP.iconst rfl ?_
      refine WP.aload_n rfl rfl ⟨by decide, by decide⟩ ?_
      refine WP.getR rfl rfl ?_
      refine WP.iload_n rfl rfl ?_
      refine WP.iaload rfl ⟨by decide, by decide, by decide⟩ o31 ?_
      refine WP.aload_n rfl rfl ⟨by decide, by decide⟩ ?_
      refine WP.getR rfl rfl ?_
      refine WP.iload_n rfl rfl ?_
      refine WP.iaload rfl ⟨by decide, by decide, by decide⟩ o31 ?_
      refine WP.aload_n rfl rfl ⟨by decide, by decide⟩ ?_
      refine WP.getR rfl rfl ?_
      refine WP.iload_n rfl rfl ?_
      refine WP.iaload rfl ⟨by decide, by decide, by decide⟩ o31 ?_
      refine WP.isubE rfl o32 ?_
      refine WP.minIF rfl rfl ?_
      refine WP.maxIF rfl rfl ?_
      refine WP.istore_n (L' := [(2, a0), (0, x1), (0, fx_max 0 (fx_min (h (a0 + 2) x1) ((h (a0 + 5) x1) - (h (a0 + 3) x1))))]) rfl rfl ?_
      refine WP.aload_n rfl rfl ⟨by decide, by decide⟩ ?_
      refine WP.getR rfl rfl ?_
      refine WP.iload_n rfl rfl ?_
      refine WP.ldc rfl ?_
      refine WP.aload_n rfl rfl ⟨by decide, by decide⟩ ?_
      refine WP.getR rfl rfl ?_
      refine WP.iload_n rfl rfl ?_
      refine WP.iaload rfl ⟨by decide, by decide, by decide⟩ o31 ?_
      refine WP.iload_n rfl rfl ?_
      refine WP.isubE rfl o33 ?_
      refine WP.minIF rfl rfl ?_
      show WP 9 (88, [(2, a0), (0, x1), (0, fx_max 0 (fx_min (h (a0 + 2) x1) ((h (a0 + 5) x1) - (h (a0 + 3) x1))))], [(0, s_X0_settle_6 a0 x1 h), (0, x1), (1048, a0 + 1)], h) Q
      refine WP.iastore rfl ⟨by decide, by decide, by decide⟩ o31 ?_
      refine WP.iincE (L' := [(2, a0), (0, x1 + 1), (0, fx_max 0 (fx_min (h (a0 + 2) x1) ((h (a0 + 5) x1) - (h (a0 + 3) x1))))]) rfl rfl o34 rfl ?_
      refine WP.goto rfl ?_
      exact kk [(0, fx_max 0 (fx_min (h (a0 + 2) x1) ((h (a0 + 5) x1) - (h (a0 + 3) x1))))] (x1 + 1, pm_upd h (a0 + 1) x1 (s_X0_settle_6 a0 x1 h)) (rfl)
  · intro hP hc
    generalize hs : (L_X0_settle_57 a0 x1 h : Int × pH) = s at kk
    change P_X0_settle_57 a0 (L_X0_settle_57 a0 x1 h).1 (L_X0_settle_57 a0 x1 h).2 at hP
    change ¬ C_X0_settle_57 a0 (L_X0_settle_57 a0 x1 h).1 (L_X0_settle_57 a0 x1 h).2 at hc
    intro us
    show WP 9 (57, [(2, a0), (0, (L_X0_settle_57 a0 x1 h).1), us.getD 0 pU], [], (L_X0_settle_57 a0 x1 h).2) Q
    rw [hs] at hP hc ⊢
    obtain ⟨x1, h⟩ := s
    change P_X0_settle_57 a0 x1 h at hP
    change ¬ (x1 < 12) at hc
    unfold P_X0_settle_57 at hP
    show WP 9 (57, [(2, a0), (0, x1), us.getD 0 pU], [], h) Q
    refine WP.iload_n rfl rfl ?_
    refine WP.bipush rfl ?_
    refine WP.ni_ge rfl (fun c29 => ?_) (fun c29 => ?_)
    · exact kk [us.getD 0 pU]
    · exact absurd (show x1 < 12 from c29) hc
noncomputable def s_X0_settle_7 (a0 : Int) (h : pH) : Int := (L_X0_settle_57 a0 0 (s_X0_settle_5 a0 h)).1
noncomputable def s_X0_settle_8 (a0 : Int) (h : pH) : pH := (L_X0_settle_57 a0 0 (s_X0_settle_5 a0 h)).2
noncomputable def H_X0_settle (a0 : Int) (h : pH) : pH := s_X0_settle_8 a0 h
noncomputable def P_X0_settle (a0 : Int) (h : pH) : Prop := O_X0_settle_2 a0 0 h ∧ (O_X0_settle_28 a0 0 ((L_X0_settle_2 a0 0 h).2)) ∧ (O_X0_settle_57 a0 0 (s_X0_settle_5 a0 h))
set_option maxHeartbeats 4000000 in
theorem w_X0_settle (a0 : Int) (h : pH) {Q : Option pV → pH → Prop} (hp : P_X0_settle a0 h) (kk : Q (none) (H_X0_settle a0 h)) : WP 9 (0, [(2, a0), pU, pU], [], h) Q := by
  unfold P_X0_settle at hp
  obtain ⟨o8, o27, o35⟩ := hp
  refine WP.iconst rfl ?_
  refine WP.istore_n (L' := [(2, a0), (0, 0), pU]) rfl rfl ?_
  refine lp_X0_settle_2 a0 0 h o8 (fun us9 => ?_) [pU]
  show WP 9 (26, [(2, a0), (0, (L_X0_settle_2 a0 0 h).1), us9.getD 0 pU], [], (L_X0_settle_2 a0 0 h).2) Q
  refine WP.iconst rfl ?_
  refine WP.istore_n (L' := [(2, a0), (0, 0), us9.getD 0 pU]) rfl rfl ?_
  refine lp_X0_settle_28 a0 0 ((L_X0_settle_2 a0 0 h).2) o27 (fun us28 => ?_) [us9.getD 0 pU]
  show WP 9 (55, [(2, a0), (0, s_X0_settle_4 a0 h), us28.getD 0 pU], [], s_X0_settle_5 a0 h) Q
  refine WP.iconst rfl ?_
  refine WP.istore_n (L' := [(2, a0), (0, 0), us28.getD 0 pU]) rfl rfl ?_
  refine lp_X0_settle_57 a0 0 (s_X0_settle_5 a0 h) o35 (fun us36 => ?_) [us28.getD 0 pU]
  show WP 9 (91, [(2, a0), (0, s_X0_settle_7 a0 h), us36.getD 0 pU], [], s_X0_settle_8 a0 h) Q
  refine WP.retv rfl ?_; exact kk
theorem c_X0_settle (a0 : Int) (h : pH) (hp : P_X0_settle a0 h) : CP 9 [(2, a0)] h (fun r h1 => r = none ∧ h1 = H_X0_settle a0 h) := w_X0_settle a0 h hp ⟨rfl, rfl⟩
noncomputable def H_X1_open (a1 : Int) (h : pH) : pH := pm_upd (pm_upd (H_X4_copyFrom 100 a1 h) 99 2 1) 99 3 0
set_option maxHeartbeats 4000000 in
theorem w_X1_open (a1 : Int) (h : pH) {Q : Option pV → pH → Prop} (kk : Q (none) (H_X1_open a1 h)) : WP 12 (0, [(3, 99), (6, a1)], [], h) Q := by
  refine WP.aload_n rfl rfl ⟨by decide, by decide⟩ ?_
  refine WP.getRF (b := 100) rfl rfl rfl ?_
  refine WP.aload_n rfl rfl ⟨by decide, by decide⟩ ?_
  refine WP.callF (c_X4_copyFrom 100 a1 h) rfl rfl (pm_cok rfl rfl (Or.inr ⟨_, _, rfl⟩) rfl rfl) rfl rfl ?_
  show WP 12 (4, [(3, 99), (6, a1)], [], H_X4_copyFrom 100 a1 h) Q
  refine WP.aload_n rfl rfl ⟨by decide, by decide⟩ ?_
  refine WP.iconst rfl ?_
  refine WP.putZ rfl rfl (by decide) ?_
  refine WP.aload_n rfl rfl ⟨by decide, by decide⟩ ?_
  refine WP.iconst rfl ?_
  refine WP.putI rfl rfl ?_
  refine WP.retv rfl ?_; exact kk
theorem c_X1_open (a1 : Int) (h : pH) : CP 12 [(3, 99), (6, a1)] h (fun r h1 => r = none ∧ h1 = H_X1_open a1 h) := w_X1_open a1 h ⟨rfl, rfl⟩
