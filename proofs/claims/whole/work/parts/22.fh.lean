def C_X12_digest_4 (h : pH) (x1 : Int) (x3 : Int) : Prop := x3 < 7
noncomputable def B_X12_digest_4 (h : pH) (x1 : Int) (x3 : Int) : Int × Int := (pm_wl ((pm_wl (31 * x1)) + (F_X12_count x3 h)), x3 + 1)
noncomputable def P_X12_digest_4 (h : pH) (x1 : Int) (x3 : Int) : Prop := ((x3 < 7) → P_X12_count x3 h ∧ (fx_i (x3 + 1)))
noncomputable def L_X12_digest_4 (h : pH) (x1 : Int) (x3 : Int) : Int × Int := fx_wh (σ := Int × Int) (fun s => C_X12_digest_4 h s.1 s.2) (fun s => B_X12_digest_4 h s.1 s.2) (x1, x3)
def O_X12_digest_4 (h : pH) (x1 : Int) (x3 : Int) : Prop := fx_ok (σ := Int × Int) (fun s => C_X12_digest_4 h s.1 s.2) (fun s => B_X12_digest_4 h s.1 s.2) (fun s => P_X12_digest_4 h s.1 s.2) (x1, x3)
set_option maxHeartbeats 4000000 in
theorem lp_X12_digest_4 (h : pH) (x1 : Int) (x3 : Int) {Q : Option pV → pH → Prop} (hp : O_X12_digest_4 h x1 x3) (kk : ∀ us : List pV, WP 223 (18, [(14, 248), (1, (L_X12_digest_4 h x1 x3).1), pU, (0, (L_X12_digest_4 h x1 x3).2), us.getD 0 pU], [], h) Q) : ∀ us : List pV, WP 223 (4, [(14, 248), (1, x1), pU, (0, x3), us.getD 0 pU], [], h) Q := by
  refine WP.wh (σ := Int × Int) (fun s => C_X12_digest_4 h s.1 s.2) (fun s => B_X12_digest_4 h s.1 s.2) (fun s => P_X12_digest_4 h s.1 s.2) (fun s us => (4, [(14, 248), (1, s.1), pU, (0, s.2), us.getD 0 pU], [], h)) (x1, x3) hp ?_ ?_
  · intro s us hP hc kk
    obtain ⟨x1, x3⟩ := s
    change P_X12_digest_4 h x1 x3 at hP
    change x3 < 7 at hc
    replace kk : ∀ (us' : List pV) (s' : Int × Int), s' = B_X12_digest_4 h x1 x3 → WP 223 (4, [(14, 248), (1, s'.1), pU, (0, s'.2), us'.getD 0 pU], [], h) Q := fun us' s' e => by subst e; exact kk us'
    unfold P_X12_digest_4 at hP
    obtain ⟨o3, o4⟩ := hP hc
    show WP 223 (4, [(14, 248), (1, x1), pU, (0, x3), us.getD 0 pU], [], h) Q
    refine WP.iload_n rfl rfl ?_
    refine WP.bipush rfl ?_
    refine WP.ni_ge rfl (fun c2 => ?_) (fun c2 => ?_)
    · exact absurd hc (Int.not_lt.mpr c2)
    · refine WP.ldc2_w rfl ?_
      refine WP.lload_n rfl rfl ?_
      refine WP.lmul rfl ?_
      refine WP.aload_n rfl rfl ⟨by decide, by decide⟩ ?_
      refine WP.iload_n rfl rfl ?_
      refine WP.callF (c_X12_count x3 h o3) rfl rfl (pm_cok rfl rfl (Or.inr ⟨_, _, rfl⟩) rfl rfl) rfl rfl ?_
      show WP 223 (13, [(14, 248), (1, x1), pU, (0, x3), us.getD 0 pU], [(0, F_X12_count x3 h), (1, pm_wl (31 * x1))], h) Q
      refine WP.i2l rfl ?_
      refine WP.ladd rfl ?_
      refine WP.lstore_n (L' := [(14, 248), (1, pm_wl ((pm_wl (31 * x1)) + (F_X12_count x3 h))), pU, (0, x3), us.getD 0 pU]) rfl rfl ?_
      refine WP.iincE (L' := [(14, 248), (1, pm_wl ((pm_wl (31 * x1)) + (F_X12_count x3 h))), pU, (0, x3 + 1), us.getD 0 pU]) rfl rfl o4 rfl ?_
      refine WP.goto rfl ?_
      exact kk [us.getD 0 pU] (pm_wl ((pm_wl (31 * x1)) + (F_X12_count x3 h)), x3 + 1) (rfl)
  · intro hP hc
    generalize hs : (L_X12_digest_4 h x1 x3 : Int × Int) = s at kk
    change P_X12_digest_4 h (L_X12_digest_4 h x1 x3).1 (L_X12_digest_4 h x1 x3).2 at hP
    change ¬ C_X12_digest_4 h (L_X12_digest_4 h x1 x3).1 (L_X12_digest_4 h x1 x3).2 at hc
    intro us
    show WP 223 (4, [(14, 248), (1, (L_X12_digest_4 h x1 x3).1), pU, (0, (L_X12_digest_4 h x1 x3).2), us.getD 0 pU], [], h) Q
    rw [hs] at hP hc ⊢
    obtain ⟨x1, x3⟩ := s
    change P_X12_digest_4 h x1 x3 at hP
    change ¬ (x3 < 7) at hc
    unfold P_X12_digest_4 at hP
    show WP 223 (4, [(14, 248), (1, x1), pU, (0, x3), us.getD 0 pU], [], h) Q
    refine WP.iload_n rfl rfl ?_
    refine WP.bipush rfl ?_
    refine WP.ni_ge rfl (fun c1 => ?_) (fun c1 => ?_)
    · exact kk [us.getD 0 pU]
    · exact absurd (show x3 < 7 from c1) hc
def C_X12_digest_20 (h : pH) (x1 : Int) (x3 : Int) : Prop := x3 < 8
noncomputable def B_X12_digest_20 (h : pH) (x1 : Int) (x3 : Int) : Int × Int := (pm_wl ((pm_wl (31 * x1)) + (F_X12_now x3 h)), x3 + 1)
noncomputable def P_X12_digest_20 (h : pH) (x1 : Int) (x3 : Int) : Prop := ((x3 < 8) → P_X12_now x3 h ∧ (fx_i (x3 + 1)))
noncomputable def L_X12_digest_20 (h : pH) (x1 : Int) (x3 : Int) : Int × Int := fx_wh (σ := Int × Int) (fun s => C_X12_digest_20 h s.1 s.2) (fun s => B_X12_digest_20 h s.1 s.2) (x1, x3)
def O_X12_digest_20 (h : pH) (x1 : Int) (x3 : Int) : Prop := fx_ok (σ := Int × Int) (fun s => C_X12_digest_20 h s.1 s.2) (fun s => B_X12_digest_20 h s.1 s.2) (fun s => P_X12_digest_20 h s.1 s.2) (x1, x3)
set_option maxHeartbeats 4000000 in
theorem lp_X12_digest_20 (h : pH) (x1 : Int) (x3 : Int) {Q : Option pV → pH → Prop} (hp : O_X12_digest_20 h x1 x3) (kk : ∀ us : List pV, WP 223 (33, [(14, 248), (1, (L_X12_digest_20 h x1 x3).1), pU, (0, (L_X12_digest_20 h x1 x3).2), us.getD 0 pU], [], h) Q) : ∀ us : List pV, WP 223 (20, [(14, 248), (1, x1), pU, (0, x3), us.getD 0 pU], [], h) Q := by
  refine WP.wh (σ := Int × Int) (fun s => C_X12_digest_20 h s.1 s.2) (fun s => B_X12_digest_20 h s.1 s.2) (fun s => P_X12_digest_20 h s.1 s.2) (fun s us => (20, [(14, 248), (1, s.1), pU, (0, s.2), us.getD 0 pU], [], h)) (x1, x3) hp ?_ ?_
  · intro s us hP hc kk
    obtain ⟨x1, x3⟩ := s
    change P_X12_digest_20 h x1 x3 at hP
    change x3 < 8 at hc
    replace kk : ∀ (us' : List pV) (s' : Int × Int), s' = B_X12_digest_20 h x1 x3 → WP 223 (20, [(14, 248), (1, s'.1), pU, (0, s'.2), us'.getD 0 pU], [], h) Q := fun us' s' e => by subst e; exact kk us'
    unfold P_X12_digest_20 at hP
    obtain ⟨o9, o10⟩ := hP hc
    show WP 223 (20, [(14, 248), (1, x1), pU, (0, x3), us.getD 0 pU], [], h) Q
    refine WP.iload_n rfl rfl ?_
    refine WP.bipush rfl ?_
    refine WP.ni_ge rfl (fun c8 => ?_) (fun c8 => ?_)
    · exact absurd hc (Int.not_lt.mpr c8)
    · refine WP.ldc2_w rfl ?_
      refine WP.lload_n rfl rfl ?_
      refine WP.lmul rfl ?_
      refine WP.aload_n rfl rfl ⟨by decide, by decide⟩ ?_
      refine WP.iload_n rfl rfl ?_
      refine WP.callF (c_X12_now x3 h o9) rfl rfl (pm_cok rfl rfl (Or.inr ⟨_, _, rfl⟩) rfl rfl) rfl rfl ?_
      show WP 223 (29, [(14, 248), (1, x1), pU, (0, x3), us.getD 0 pU], [(1, F_X12_now x3 h), (1, pm_wl (31 * x1))], h) Q
      refine WP.ladd rfl ?_
      refine WP.lstore_n (L' := [(14, 248), (1, pm_wl ((pm_wl (31 * x1)) + (F_X12_now x3 h))), pU, (0, x3), us.getD 0 pU]) rfl rfl ?_
      refine WP.iincE (L' := [(14, 248), (1, pm_wl ((pm_wl (31 * x1)) + (F_X12_now x3 h))), pU, (0, x3 + 1), us.getD 0 pU]) rfl rfl o10 rfl ?_
      refine WP.goto rfl ?_
      exact kk [us.getD 0 pU] (pm_wl ((pm_wl (31 * x1)) + (F_X12_now x3 h)), x3 + 1) (rfl)
  · intro hP hc
    generalize hs : (L_X12_digest_20 h x1 x3 : Int × Int) = s at kk
    change P_X12_digest_20 h (L_X12_digest_20 h x1 x3).1 (L_X12_digest_20 h x1 x3).2 at hP
    change ¬ C_X12_digest_20 h (L_X12_digest_20 h x1 x3).1 (L_X12_digest_20 h x1 x3).2 at hc
    intro us
    show WP 223 (20, [(14, 248), (1, (L_X12_digest_20 h x1 x3).1), pU, (0, (L_X12_digest_20 h x1 x3).2), us.getD 0 pU], [], h) Q
    rw [hs] at hP hc ⊢
    obtain ⟨x1, x3⟩ := s
    change P_X12_digest_20 h x1 x3 at hP
    change ¬ (x3 < 8) at hc
    unfold P_X12_digest_20 at hP
    show WP 223 (20, [(14, 248), (1, x1), pU, (0, x3), us.getD 0 pU], [], h) Q
    refine WP.iload_n rfl rfl ?_
    refine WP.bipush rfl ?_
    refine WP.ni_ge rfl (fun c7 => ?_) (fun c7 => ?_)
    · exact kk [us.getD 0 pU]
    · exact absurd (show x3 < 8 from c7) hc
noncomputable def s_X12_digest_1 (h : pH) : Int := (L_X12_digest_20 h ((L_X12_digest_4 h 359 0).1) 0).1
noncomputable def s_X12_digest_2 (h : pH) : Int := (L_X12_digest_20 h ((L_X12_digest_4 h 359 0).1) 0).2
def C_X12_digest_35 (h : pH) (x1 : Int) (x3 : Int) : Prop := x3 < 12
noncomputable def B_X12_digest_35 (h : pH) (x1 : Int) (x3 : Int) : Int × Int := (pm_wl ((pm_wl (31 * (pm_wl ((pm_wl (31 * x1)) + (h 249 (20 + x3)))))) + (s_X12_gauge_1 x3 h)), x3 + 1)
noncomputable def P_X12_digest_35 (h : pH) (x1 : Int) (x3 : Int) : Prop := ((x3 < 12) → (fx_i (20 + x3)) ∧ (0 ≤ 20 + x3 ∧ 20 + x3 < 620) ∧ P_X12_gauge x3 h ∧ (fx_i (x3 + 1)))
noncomputable def L_X12_digest_35 (h : pH) (x1 : Int) (x3 : Int) : Int × Int := fx_wh (σ := Int × Int) (fun s => C_X12_digest_35 h s.1 s.2) (fun s => B_X12_digest_35 h s.1 s.2) (x1, x3)
def O_X12_digest_35 (h : pH) (x1 : Int) (x3 : Int) : Prop := fx_ok (σ := Int × Int) (fun s => C_X12_digest_35 h s.1 s.2) (fun s => B_X12_digest_35 h s.1 s.2) (fun s => P_X12_digest_35 h s.1 s.2) (x1, x3)
set_option maxHeartbeats 4000000 in
theorem lp_X12_digest_35 (h : pH) (x1 : Int) (x3 : Int) {Q : Option pV → pH → Prop} (hp : O_X12_digest_35 h x1 x3) (kk : ∀ us : List pV, WP 223 (57, [(14, 248), (1, (L_X12_digest_35 h x1 x3).1), pU, (0, (L_X12_digest_35 h x1 x3).2), us.getD 0 pU], [], h) Q) : ∀ us : List pV, WP 223 (35, [(14, 248), (1, x1), pU, (0, x3), us.getD 0 pU], [], h) Q := by
  refine WP.wh (σ := Int × Int) (fun s => C_X12_digest_35 h s.1 s.2) (fun s => B_X12_digest_35 h s.1 s.2) (fun s => P_X12_digest_35 h s.1 s.2) (fun s us => (35, [(14, 248), (1, s.1), pU, (0, s.2), us.getD 0 pU], [], h)) (x1, x3) hp ?_ ?_
  · intro s us hP hc kk
    obtain ⟨x1, x3⟩ := s
    change P_X12_digest_35 h x1 x3 at hP
    change x3 < 12 at hc
    replace kk : ∀ (us' : List pV) (s' : Int × Int), s' = B_X12_digest_35 h x1 x3 → WP 223 (35, [(14, 248), (1, s'.1), pU, (0, s'.2), us'.getD 0 pU], [], h) Q := fun us' s' e => by subst e; exact kk us'
    unfold P_X12_digest_35 at hP
    obtain ⟨o15, o16, o17, o18⟩ := hP hc
    show WP 223 (35, [(14, 248), (1, x1), pU, (0, x3), us.getD 0 pU], [], h) Q
    refine WP.iload_n rfl rfl ?_
    refine WP.bipush rfl ?_
    refine WP.ni_ge rfl (fun c14 => ?_) (fun c14 => ?_)
    · exact absurd hc (Int.not_lt.mpr c14)
    · refine WP.ldc2_w rfl ?_
      refine WP.ldc2_w rfl ?_
      refine WP.lload_n rfl rfl ?_
      refine WP.lmul rfl ?_
      refine WP.aload_n rfl rfl ⟨by decide, by decide⟩ ?_
      refine WP.getRF (b := 249) rfl rfl rfl ?_
      refine WP.bipush rfl ?_
      refine WP.iload_n rfl rfl ?_
      refine WP.iaddE rfl o15 ?_
      refine WP.laload rfl ⟨by decide, by decide, by decide⟩ o16 ?_
      refine WP.ladd rfl ?_
      refine WP.lmul rfl ?_
      refine WP.aload_n rfl rfl ⟨by decide, by decide⟩ ?_
      refine WP.iload_n rfl rfl ?_
      refine WP.callF (c_X12_gauge x3 h o17) rfl rfl (pm_cok rfl rfl (Or.inr ⟨_, _, rfl⟩) rfl rfl) rfl rfl ?_
      show WP 223 (53, [(14, 248), (1, x1), pU, (0, x3), us.getD 0 pU], [(1, s_X12_gauge_1 x3 h), (1, pm_wl (31 * (pm_wl ((pm_wl (31 * x1)) + (h 249 (20 + x3))))))], h) Q
      refine WP.ladd rfl ?_
      refine WP.lstore_n (L' := [(14, 248), (1, pm_wl ((pm_wl (31 * (pm_wl ((pm_wl (31 * x1)) + (h 249 (20 + x3)))))) + (s_X12_gauge_1 x3 h))), pU, (0, x3), us.getD 0 pU]) rfl rfl ?_
      refine WP.iincE (L' := [(14, 248), (1, pm_wl ((pm_wl (31 * (pm_wl ((pm_wl (31 * x1)) + (h 249 (20 + x3)))))) + (s_X12_gauge_1 x3 h))), pU, (0, x3 + 1), us.getD 0 pU]) rfl rfl o18 rfl ?_
      refine WP.goto rfl ?_
      exact kk [us.getD 0 pU] (pm_wl ((pm_wl (31 * (pm_wl ((pm_wl (31 * x1)) + (h 249 (20 + x3)))))) + (s_X12_gauge_1 x3 h)), x3 + 1) (rfl)
  · intro hP hc
    generalize hs : (L_X12_digest_35 h x1 x3 : Int × Int) = s at kk
    change P_X12_digest_35 h (L_X12_digest_35 h x1 x3).1 (L_X12_digest_35 h x1 x3).2 at hP
    change ¬ C_X12_digest_35 h (L_X12_digest_35 h x1 x3).1 (L_X12_digest_35 h x1 x3).2 at hc
    intro us
    show WP 223 (35, [(14, 248), (1, (L_X12_digest_35 h x1 x3).1), pU, (0, (L_X12_digest_35 h x1 x3).2), us.getD 0 pU], [], h) Q
    rw [hs] at hP hc ⊢
    obtain ⟨x1, x3⟩ := s
    change P_X12_digest_35 h x1 x3 at hP
    change ¬ (x3 < 12) at hc
    unfold P_X12_digest_35 at hP
    show WP 223 (35, [(14, 248), (1, x1), pU, (0, x3), us.getD 0 pU], [], h) Q
    refine WP.iload_n rfl rfl ?_
    refine WP.bipush rfl ?_
    refine WP.ni_ge rfl (fun c13 => ?_) (fun c13 => ?_)
    · exact kk [us.getD 0 pU]
    · exact absurd (show x3 < 12 from c13) hc
noncomputable def s_X12_digest_3 (h : pH) : Int := (L_X12_digest_35 h (s_X12_digest_1 h) 0).1
noncomputable def s_X12_digest_4 (h : pH) : Int := (L_X12_digest_35 h (s_X12_digest_1 h) 0).2
noncomputable def s_X12_digest_5 (x3 : Int) (x4 : Int) (h : pH) : Int := if 0 ≤ x3 ∧ x3 ≤ ((h 249 12) - 1) then if 0 ≤ x4 ∧ x4 ≤ 4 then h 249 (s_X12_of_1 x3 x4) else (-2) else (-2)
def C_X12_digest_69 (x3 : Int) (h : pH) (x1 : Int) (x4 : Int) : Prop := x4 < 5
noncomputable def B_X12_digest_69 (x3 : Int) (h : pH) (x1 : Int) (x4 : Int) : Int × Int := (pm_wl ((pm_wl (31 * x1)) + (s_X12_digest_5 x3 x4 h)), x4 + 1)
noncomputable def P_X12_digest_69 (x3 : Int) (h : pH) (x1 : Int) (x4 : Int) : Prop := ((x4 < 5) → P_X12_of x3 x4 h ∧ (fx_i (x4 + 1)))
noncomputable def L_X12_digest_69 (x3 : Int) (h : pH) (x1 : Int) (x4 : Int) : Int × Int := fx_wh (σ := Int × Int) (fun s => C_X12_digest_69 x3 h s.1 s.2) (fun s => B_X12_digest_69 x3 h s.1 s.2) (x1, x4)
def O_X12_digest_69 (x3 : Int) (h : pH) (x1 : Int) (x4 : Int) : Prop := fx_ok (σ := Int × Int) (fun s => C_X12_digest_69 x3 h s.1 s.2) (fun s => B_X12_digest_69 x3 h s.1 s.2) (fun s => P_X12_digest_69 x3 h s.1 s.2) (x1, x4)
set_option maxHeartbeats 4000000 in
theorem lp_X12_digest_69 (x3 : Int) (h : pH) (x1 : Int) (x4 : Int) {Q : Option pV → pH → Prop} (hp : O_X12_digest_69 x3 h x1 x4) (kk : ∀ us : List pV, WP 223 (84, [(14, 248), (1, (L_X12_digest_69 x3 h x1 x4).1), pU, (0, x3), (0, (L_X12_digest_69 x3 h x1 x4).2)], [], h) Q) : ∀ us : List pV, WP 223 (69, [(14, 248), (1, x1), pU, (0, x3), (0, x4)], [], h) Q := by
  refine WP.wh (σ := Int × Int) (fun s => C_X12_digest_69 x3 h s.1 s.2) (fun s => B_X12_digest_69 x3 h s.1 s.2) (fun s => P_X12_digest_69 x3 h s.1 s.2) (fun s us => (69, [(14, 248), (1, s.1), pU, (0, x3), (0, s.2)], [], h)) (x1, x4) hp ?_ ?_
  · intro s us hP hc kk
    obtain ⟨x1, x4⟩ := s
    change P_X12_digest_69 x3 h x1 x4 at hP
    change x4 < 5 at hc
    replace kk : ∀ (us' : List pV) (s' : Int × Int), s' = B_X12_digest_69 x3 h x1 x4 → WP 223 (69, [(14, 248), (1, s'.1), pU, (0, x3), (0, s'.2)], [], h) Q := fun us' s' e => by subst e; exact kk us'
    unfold P_X12_digest_69 at hP
    obtain ⟨o25, o26⟩ := hP hc
    show WP 223 (69, [(14, 248), (1, x1), pU, (0, x3), (0, x4)], [], h) Q
    refine WP.iload rfl rfl ?_
    refine WP.iconst rfl ?_
    refine WP.ni_ge rfl (fun c24 => ?_) (fun c24 => ?_)
    · exact absurd hc (Int.not_lt.mpr c24)
    · refine WP.ldc2_w rfl ?_
      refine WP.lload_n rfl rfl ?_
      refine WP.lmul rfl ?_
      refine WP.aload_n rfl rfl ⟨by decide, by decide⟩ ?_
      refine WP.iload_n rfl rfl ?_
      refine WP.iload rfl rfl ?_
      refine WP.callF (c_X12_of x3 x4 h o25) rfl rfl (pm_cok rfl rfl (Or.inr ⟨_, _, rfl⟩) rfl rfl) rfl rfl ?_
      show WP 223 (79, [(14, 248), (1, x1), pU, (0, x3), (0, x4)], [(0, s_X12_digest_5 x3 x4 h), (1, pm_wl (31 * x1))], h) Q
      refine WP.i2l rfl ?_
      refine WP.ladd rfl ?_
      refine WP.lstore_n (L' := [(14, 248), (1, pm_wl ((pm_wl (31 * x1)) + (s_X12_digest_5 x3 x4 h))), pU, (0, x3), (0, x4)]) rfl rfl ?_
      refine WP.iincE (L' := [(14, 248), (1, pm_wl ((pm_wl (31 * x1)) + (s_X12_digest_5 x3 x4 h))), pU, (0, x3), (0, x4 + 1)]) rfl rfl o26 rfl ?_
      refine WP.goto rfl ?_
      exact kk [] (pm_wl ((pm_wl (31 * x1)) + (s_X12_digest_5 x3 x4 h)), x4 + 1) (rfl)
  · intro hP hc
    generalize hs : (L_X12_digest_69 x3 h x1 x4 : Int × Int) = s at kk
    change P_X12_digest_69 x3 h (L_X12_digest_69 x3 h x1 x4).1 (L_X12_digest_69 x3 h x1 x4).2 at hP
    change ¬ C_X12_digest_69 x3 h (L_X12_digest_69 x3 h x1 x4).1 (L_X12_digest_69 x3 h x1 x4).2 at hc
    intro us
    show WP 223 (69, [(14, 248), (1, (L_X12_digest_69 x3 h x1 x4).1), pU, (0, x3), (0, (L_X12_digest_69 x3 h x1 x4).2)], [], h) Q
    rw [hs] at hP hc ⊢
    obtain ⟨x1, x4⟩ := s
    change P_X12_digest_69 x3 h x1 x4 at hP
    change ¬ (x4 < 5) at hc
    unfold P_X12_digest_69 at hP
    show WP 223 (69, [(14, 248), (1, x1), pU, (0, x3), (0, x4)], [], h) Q
    refine WP.iload rfl rfl ?_
    refine WP.iconst rfl ?_
    refine WP.ni_ge rfl (fun c23 => ?_) (fun c23 => ?_)
    · exact kk []
    · exact absurd (show x4 < 5 from c23) hc
def C_X12_digest_59 (h : pH) (x1 : Int) (x3 : Int) : Prop := x3 < h 249 12
noncomputable def B_X12_digest_59 (h : pH) (x1 : Int) (x3 : Int) : Int × Int := ((L_X12_digest_69 x3 h x1 0).1, x3 + 1)
noncomputable def P_X12_digest_59 (h : pH) (x1 : Int) (x3 : Int) : Prop := ((x3 < h 249 12) → O_X12_digest_69 x3 h x1 0 ∧ (fx_i (x3 + 1)))
noncomputable def L_X12_digest_59 (h : pH) (x1 : Int) (x3 : Int) : Int × Int := fx_wh (σ := Int × Int) (fun s => C_X12_digest_59 h s.1 s.2) (fun s => B_X12_digest_59 h s.1 s.2) (x1, x3)
def O_X12_digest_59 (h : pH) (x1 : Int) (x3 : Int) : Prop := fx_ok (σ := Int × Int) (fun s => C_X12_digest_59 h s.1 s.2) (fun s => B_X12_digest_59 h s.1 s.2) (fun s => P_X12_digest_59 h s.1 s.2) (x1, x3)
set_option maxHeartbeats 4000000 in
theorem lp_X12_digest_59 (h : pH) (x1 : Int) (x3 : Int) {Q : Option pV → pH → Prop} (hp : O_X12_digest_59 h x1 x3) (kk : ∀ us : List pV, WP 223 (86, [(14, 248), (1, (L_X12_digest_59 h x1 x3).1), pU, (0, (L_X12_digest_59 h x1 x3).2), us.getD 0 pU], [], h) Q) : ∀ us : List pV, WP 223 (59, [(14, 248), (1, x1), pU, (0, x3), us.getD 0 pU], [], h) Q := by
  refine WP.wh (σ := Int × Int) (fun s => C_X12_digest_59 h s.1 s.2) (fun s => B_X12_digest_59 h s.1 s.2) (fun s => P_X12_digest_59 h s.1 s.2) (fun s us => (59, [(14, 248), (1, s.1), pU, (0, s.2), us.getD 0 pU], [], h)) (x1, x3) hp ?_ ?_
  · intro s us hP hc kk
    obtain ⟨x1, x3⟩ := s
    change P_X12_digest_59 h x1 x3 at hP
    change x3 < h 249 12 at hc
    replace kk : ∀ (us' : List pV) (s' : Int × Int), s' = B_X12_digest_59 h x1 x3 → WP 223 (59, [(14, 248), (1, s'.1), pU, (0, s'.2), us'.getD 0 pU], [], h) Q := fun us' s' e => by subst e; exact kk us'
    unfold P_X12_digest_59 at hP
    obtain ⟨o27, o29⟩ := hP hc
    show WP 223 (59, [(14, 248), (1, x1), pU, (0, x3), us.getD 0 pU], [], h) Q
    refine WP.iload_n rfl rfl ?_
    refine WP.i2l rfl ?_
    refine WP.aload_n rfl rfl ⟨by decide, by decide⟩ ?_
    refine WP.getRF (b := 249) rfl rfl rfl ?_
    refine WP.bipush rfl ?_
    refine WP.laload rfl ⟨by decide, by decide, by decide⟩ (by decide) ?_
    refine WP.lcmp rfl ?_
    refine WP.nl_ge rfl (fun c22 => ?_) (fun c22 => ?_)
    · exact absurd hc (Int.not_lt.mpr c22)
    · refine WP.iconst rfl ?_
      refine WP.istore (L' := [(14, 248), (1, x1), pU, (0, x3), (0, 0)]) rfl rfl ?_
      refine lp_X12_digest_69 x3 h x1 0 o27 (fun us28 => ?_) []
      show WP 223 (84, [(14, 248), (1, (L_X12_digest_69 x3 h x1 0).1), pU, (0, x3), (0, (L_X12_digest_69 x3 h x1 0).2)], [], h) Q
      refine WP.iincE (L' := [(14, 248), (1, (L_X12_digest_69 x3 h x1 0).1), pU, (0, x3 + 1), (0, (L_X12_digest_69 x3 h x1 0).2)]) rfl rfl o29 rfl ?_
      refine WP.goto rfl ?_
      exact kk [(0, (L_X12_digest_69 x3 h x1 0).2)] ((L_X12_digest_69 x3 h x1 0).1, x3 + 1) (rfl)
  · intro hP hc
    generalize hs : (L_X12_digest_59 h x1 x3 : Int × Int) = s at kk
    change P_X12_digest_59 h (L_X12_digest_59 h x1 x3).1 (L_X12_digest_59 h x1 x3).2 at hP
    change ¬ C_X12_digest_59 h (L_X12_digest_59 h x1 x3).1 (L_X12_digest_59 h x1 x3).2 at hc
    intro us
    show WP 223 (59, [(14, 248), (1, (L_X12_digest_59 h x1 x3).1), pU, (0, (L_X12_digest_59 h x1 x3).2), us.getD 0 pU], [], h) Q
    rw [hs] at hP hc ⊢
    obtain ⟨x1, x3⟩ := s
    change P_X12_digest_59 h x1 x3 at hP
    change ¬ (x3 < h 249 12) at hc
    unfold P_X12_digest_59 at hP
    show WP 223 (59, [(14, 248), (1, x1), pU, (0, x3), us.getD 0 pU], [], h) Q
    refine WP.iload_n rfl rfl ?_
    refine WP.i2l rfl ?_
    refine WP.aload_n rfl rfl ⟨by decide, by decide⟩ ?_
    refine WP.getRF (b := 249) rfl rfl rfl ?_
    refine WP.bipush rfl ?_
    refine WP.laload rfl ⟨by decide, by decide, by decide⟩ (by decide) ?_
    refine WP.lcmp rfl ?_
    refine WP.nl_ge rfl (fun c21 => ?_) (fun c21 => ?_)
    · exact kk [us.getD 0 pU]
    · exact absurd (show x3 < h 249 12 from c21) hc
noncomputable def s_X12_digest_6 (h : pH) : Int := (L_X12_digest_59 h (s_X12_digest_3 h) 0).1
noncomputable def s_X12_digest_7 (h : pH) : Int := (L_X12_digest_59 h (s_X12_digest_3 h) 0).2
noncomputable def s_X12_digest_8 (x3 : Int) (x4 : Int) (h : pH) : Int := if 0 ≤ x3 ∧ x3 ≤ ((h 249 13) - 1) then if 0 ≤ x4 ∧ x4 ≤ 4 then if x4 = 0 then s_X12_work_1 x3 h else h 249 (s_X12_work_2 x3 x4) else (-2) else (-2)
def C_X12_digest_98 (x3 : Int) (h : pH) (x1 : Int) (x4 : Int) : Prop := x4 < 5
noncomputable def B_X12_digest_98 (x3 : Int) (h : pH) (x1 : Int) (x4 : Int) : Int × Int := (pm_wl ((pm_wl (31 * x1)) + (s_X12_digest_8 x3 x4 h)), x4 + 1)
noncomputable def P_X12_digest_98 (x3 : Int) (h : pH) (x1 : Int) (x4 : Int) : Prop := ((x4 < 5) → P_X12_work x3 x4 h ∧ (fx_i (x4 + 1)))
noncomputable def L_X12_digest_98 (x3 : Int) (h : pH) (x1 : Int) (x4 : Int) : Int × Int := fx_wh (σ := Int × Int) (fun s => C_X12_digest_98 x3 h s.1 s.2) (fun s => B_X12_digest_98 x3 h s.1 s.2) (x1, x4)
def O_X12_digest_98 (x3 : Int) (h : pH) (x1 : Int) (x4 : Int) : Prop := fx_ok (σ := Int × Int) (fun s => C_X12_digest_98 x3 h s.1 s.2) (fun s => B_X12_digest_98 x3 h s.1 s.2) (fun s => P_X12_digest_98 x3 h s.1 s.2) (x1, x4)
set_option maxHeartbeats 4000000 in
theorem lp_X12_digest_98 (x3 : Int) (h : pH) (x1 : Int) (x4 : Int) {Q : Option pV → pH → Prop} (hp : O_X12_digest_98 x3 h x1 x4) (kk : ∀ us : List pV, WP 223 (113, [(14, 248), (1, (L_X12_digest_98 x3 h x1 x4).1), pU, (0, x3), (0, (L_X12_digest_98 x3 h x1 x4).2)], [], h) Q) : ∀ us : List pV, WP 223 (98, [(14, 248), (1, x1), pU, (0, x3), (0, x4)], [], h) Q := by
  refine WP.wh (σ := Int × Int) (fun s => C_X12_digest_98 x3 h s.1 s.2) (fun s => B_X12_digest_98 x3 h s.1 s.2) (fun s => P_X12_digest_98 x3 h s.1 s.2) (fun s us => (98, [(14, 248), (1, s.1), pU, (0, x3), (0, s.2)], [], h)) (x1, x4) hp ?_ ?_
  · intro s us hP hc kk
    obtain ⟨x1, x4⟩ := s
    change P_X12_digest_98 x3 h x1 x4 at hP
    change x4 < 5 at hc
    replace kk : ∀ (us' : List pV) (s' : Int × Int), s' = B_X12_digest_98 x3 h x1 x4 → WP 223 (98, [(14, 248), (1, s'.1), pU, (0, x3), (0, s'.2)], [], h) Q := fun us' s' e => by subst e; exact kk us'
    unfold P_X12_digest_98 at hP
    obtain ⟨o36, o37⟩ := hP hc
    show WP 223 (98, [(14, 248), (1, x1), pU, (0, x3), (0, x4)], [], h) Q
    refine WP.iload rfl rfl ?_
    refine WP.iconst rfl ?_
    refine WP.ni_ge rfl (fun c35 => ?_) (fun c35 => ?_)
    · exact absurd hc (Int.not_lt.mpr c35)
    · refine WP.ldc2_w rfl ?_
      refine WP.lload_n rfl rfl ?_
      refine WP.lmul rfl ?_
      refine WP.aload_n rfl rfl ⟨by decide, by decide⟩ ?_
      refine WP.iload_n rfl rfl ?_
      refine WP.iload rfl rfl ?_
      refine WP.callF (c_X12_work x3 x4 h o36) rfl rfl (pm_cok rfl rfl (Or.inr ⟨_, _, rfl⟩) rfl rfl) rfl rfl ?_
      show WP 223 (108, [(14, 248), (1, x1), pU, (0, x3), (0, x4)], [(0, s_X12_digest_8 x3 x4 h), (1, pm_wl (31 * x1))], h) Q
      refine WP.i2l rfl ?_
      refine WP.ladd rfl ?_
      refine WP.lstore_n (L' := [(14, 248), (1, pm_wl ((pm_wl (31 * x1)) + (s_X12_digest_8 x3 x4 h))), pU, (0, x3), (0, x4)]) rfl rfl ?_
      refine WP.iincE (L' := [(14, 248), (1, pm_wl ((pm_wl (31 * x1)) + (s_X12_digest_8 x3 x4 h))), pU, (0, x3), (0, x4 + 1)]) rfl rfl o37 rfl ?_
      refine WP.goto rfl ?_
      exact kk [] (pm_wl ((pm_wl (31 * x1)) + (s_X12_digest_8 x3 x4 h)), x4 + 1) (rfl)
  · intro hP hc
    generalize hs : (L_X12_digest_98 x3 h x1 x4 : Int × Int) = s at kk
    change P_X12_digest_98 x3 h (L_X12_digest_98 x3 h x1 x4).1 (L_X12_digest_98 x3 h x1 x4).2 at hP
    change ¬ C_X12_digest_98 x3 h (L_X12_digest_98 x3 h x1 x4).1 (L_X12_digest_98 x3 h x1 x4).2 at hc
    intro us
    show WP 223 (98, [(14, 248), (1, (L_X12_digest_98 x3 h x1 x4).1), pU, (0, x3), (0, (L_X12_digest_98 x3 h x1 x4).2)], [], h) Q
    rw [hs] at hP hc ⊢
    obtain ⟨x1, x4⟩ := s
    change P_X12_digest_98 x3 h x1 x4 at hP
    change ¬ (x4 < 5) at hc
    unfold P_X12_digest_98 at hP
    show WP 223 (98, [(14, 248), (1, x1), pU, (0, x3), (0, x4)], [], h) Q
    refine WP.iload rfl rfl ?_
    refine WP.iconst rfl ?_
    refine WP.ni_ge rfl (fun c34 => ?_) (fun c34 => ?_)
    · exact kk []
    · exact absurd (show x4 < 5 from c34) hc
def C_X12_digest_88 (h : pH) (x1 : Int) (x3 : Int) : Prop := x3 < h 249 13
noncomputable def B_X12_digest_88 (h : pH) (x1 : Int) (x3 : Int) : Int × Int := ((L_X12_digest_98 x3 h x1 0).1, x3 + 1)
noncomputable def P_X12_digest_88 (h : pH) (x1 : Int) (x3 : Int) : Prop := ((x3 < h 249 13) → O_X12_digest_98 x3 h x1 0 ∧ (fx_i (x3 + 1)))
noncomputable def L_X12_digest_88 (h : pH) (x1 : Int) (x3 : Int) : Int × Int := fx_wh (σ := Int × Int) (fun s => C_X12_digest_88 h s.1 s.2) (fun s => B_X12_digest_88 h s.1 s.2) (x1, x3)
def O_X12_digest_88 (h : pH) (x1 : Int) (x3 : Int) : Prop := fx_ok (σ := Int × Int) (fun s => C_X12_digest_88 h s.1 s.2) (fun s => B_X12_digest_88 h s.1 s.2) (fun s => P_X12_digest_88 h s.1 s.2) (x1, x3)
set_option maxHeartbeats 4000000 in
theorem lp_X12_digest_88 (h : pH) (x1 : Int) (x3 : Int) {Q : Option pV → pH → Prop} (hp : O_X12_digest_88 h x1 x3) (kk : ∀ us : List pV, WP 223 (115, [(14, 248), (1, (L_X12_digest_88 h x1 x3).1), pU, (0, (L_X12_digest_88 h x1 x3).2), us.getD 0 pU], [], h) Q) : ∀ us : List pV, WP 223 (88, [(14, 248), (1, x1), pU, (0, x3), us.getD 0 pU], [], h) Q := by
  refine WP.wh (σ := Int × Int) (fun s => C_X12_digest_88 h s.1 s.2) (fun s => B_X12_digest_88 h s.1 s.2) (fun s => P_X12_digest_88 h s.1 s.2) (fun s us => (88, [(14, 248), (1, s.1), pU, (0, s.2), us.getD 0 pU], [], h)) (x1, x3) hp ?_ ?_
  · intro s us hP hc kk
    obtain ⟨x1, x3⟩ := s
    change P_X12_digest_88 h x1 x3 at hP
    change x3 < h 249 13 at hc
    replace kk : ∀ (us' : List pV) (s' : Int × Int), s' = B_X12_digest_88 h x1 x3 → WP 223 (88, [(14, 248), (1, s'.1), pU, (0, s'.2), us'.getD 0 pU], [], h) Q := fun us' s' e => by subst e; exact kk us'
    unfold P_X12_digest_88 at hP
    obtain ⟨o38, o40⟩ := hP hc
    show WP 223 (88, [(14, 248), (1, x1), pU, (0, x3), us.getD 0 pU], [], h) Q
    refine WP.iload_n rfl rfl ?_
    refine WP.i2l rfl ?_
    refine WP.aload_n rfl rfl ⟨by decide, by decide⟩ ?_
    refine WP.getRF (b := 249) rfl rfl rfl ?_
    refine WP.bipush rfl ?_
    refine WP.laload rfl ⟨by decide, by decide, by decide⟩ (by decide) ?_
    refine WP.lcmp rfl ?_
    refine WP.nl_ge rfl (fun c33 => ?_) (fun c33 => ?_)
    · exact absurd hc (Int.not_lt.mpr c33)
    · refine WP.iconst rfl ?_
      refine WP.istore (L' := [(14, 248), (1, x1), pU, (0, x3), (0, 0)]) rfl rfl ?_
      refine lp_X12_digest_98 x3 h x1 0 o38 (fun us39 => ?_) []
      show WP 223 (113, [(14, 248), (1, (L_X12_digest_98 x3 h x1 0).1), pU, (0, x3), (0, (L_X12_digest_98 x3 h x1 0).2)], [], h) Q
      refine WP.iincE (L' := [(14, 248), (1, (L_X12_digest_98 x3 h x1 0).1), pU, (0, x3 + 1), (0, (L_X12_digest_98 x3 h x1 0).2)]) rfl rfl o40 rfl ?_
      refine WP.goto rfl ?_
      exact kk [(0, (L_X12_digest_98 x3 h x1 0).2)] ((L_X12_digest_98 x3 h x1 0).1, x3 + 1) (rfl)
  · intro hP hc
    generalize hs : (L_X12_digest_88 h x1 x3 : Int × Int) = s at kk
    change P_X12_digest_88 h (L_X12_digest_88 h x1 x3).1 (L_X12_digest_88 h x1 x3).2 at hP
    change ¬ C_X12_digest_88 h (L_X12_digest_88 h x1 x3).1 (L_X12_digest_88 h x1 x3).2 at hc
    intro us
    show WP 223 (88, [(14, 248), (1, (L_X12_digest_88 h x1 x3).1), pU, (0, (L_X12_digest_88 h x1 x3).2), us.getD 0 pU], [], h) Q
    rw [hs] at hP hc ⊢
    obtain ⟨x1, x3⟩ := s
    change P_X12_digest_88 h x1 x3 at hP
    change ¬ (x3 < h 249 13) at hc
    unfold P_X12_digest_88 at hP
    show WP 223 (88, [(14, 248), (1, x1), pU, (0, x3), us.getD 0 pU], [], h) Q
    refine WP.iload_n rfl rfl ?_
    refine WP.i2l rfl ?_
    refine WP.aload_n rfl rfl ⟨by decide, by decide⟩ ?_
    refine WP.getRF (b := 249) rfl rfl rfl ?_
    refine WP.bipush rfl ?_
    refine WP.laload rfl ⟨by decide, by decide, by decide⟩ (by decide) ?_
    refine WP.lcmp rfl ?_
    refine WP.nl_ge rfl (fun c32 => ?_) (fun c32 => ?_)
    · exact kk [us.getD 0 pU]
    · exact absurd (show x3 < h 249 13 from c32) hc
noncomputable def s_X12_digest_9 (h : pH) : Int := (L_X12_digest_88 h (s_X12_digest_6 h) 0).1
noncomputable def s_X12_digest_10 (h : pH) : Int := (L_X12_digest_88 h (s_X12_digest_6 h) 0).2
def C_X12_digest_117 (h : pH) (x1 : Int) (x3 : Int) : Prop := x3 < 8
noncomputable def B_X12_digest_117 (h : pH) (x1 : Int) (x3 : Int) : Int × Int := (pm_wl ((pm_wl (31 * x1)) + (F_X12_bill x3 h)), x3 + 1)
noncomputable def P_X12_digest_117 (h : pH) (x1 : Int) (x3 : Int) : Prop := ((x3 < 8) → P_X12_bill x3 h ∧ (fx_i (x3 + 1)))
noncomputable def L_X12_digest_117 (h : pH) (x1 : Int) (x3 : Int) : Int × Int := fx_wh (σ := Int × Int) (fun s => C_X12_digest_117 h s.1 s.2) (fun s => B_X12_digest_117 h s.1 s.2) (x1, x3)
def O_X12_digest_117 (h : pH) (x1 : Int) (x3 : Int) : Prop := fx_ok (σ := Int × Int) (fun s => C_X12_digest_117 h s.1 s.2) (fun s => B_X12_digest_117 h s.1 s.2) (fun s => P_X12_digest_117 h s.1 s.2) (x1, x3)
set_option maxHeartbeats 4000000 in
theorem lp_X12_digest_117 (h : pH) (x1 : Int) (x3 : Int) {Q : Option pV → pH → Prop} (hp : O_X12_digest_117 h x1 x3) (kk : ∀ us : List pV, WP 223 (131, [(14, 248), (1, (L_X12_digest_117 h x1 x3).1), pU, (0, (L_X12_digest_117 h x1 x3).2), us.getD 0 pU], [], h) Q) : ∀ us : List pV, WP 223 (117, [(14, 248), (1, x1), pU, (0, x3), us.getD 0 pU], [], h) Q := by
  refine WP.wh (σ := Int × Int) (fun s => C_X12_digest_117 h s.1 s.2) (fun s => B_X12_digest_117 h s.1 s.2) (fun s => P_X12_digest_117 h s.1 s.2) (fun s us => (117, [(14, 248), (1, s.1), pU, (0, s.2), us.getD 0 pU], [], h)) (x1, x3) hp ?_ ?_
  · intro s us hP hc kk
    obtain ⟨x1, x3⟩ := s
    change P_X12_digest_117 h x1 x3 at hP
    change x3 < 8 at hc
    replace kk : ∀ (us' : List pV) (s' : Int × Int), s' = B_X12_digest_117 h x1 x3 → WP 223 (117, [(14, 248), (1, s'.1), pU, (0, s'.2), us'.getD 0 pU], [], h) Q := fun us' s' e => by subst e; exact kk us'
    unfold P_X12_digest_117 at hP
    obtain ⟨o45, o46⟩ := hP hc
    show WP 223 (117, [(14, 248), (1, x1), pU, (0, x3), us.getD 0 pU], [], h) Q
    refine WP.iload_n rfl rfl ?_
    refine WP.bipush rfl ?_
    refine WP.ni_ge rfl (fun c44 => ?_) (fun c44 => ?_)
    · exact absurd hc (Int.not_lt.mpr c44)
    · refine WP.ldc2_w rfl ?_
      refine WP.lload_n rfl rfl ?_
      refine WP.lmul rfl ?_
      refine WP.aload_n rfl rfl ⟨by decide, by decide⟩ ?_
      refine WP.iload_n rfl rfl ?_
      refine WP.callF (c_X12_bill x3 h o45) rfl rfl (pm_cok rfl rfl (Or.inr ⟨_, _, rfl⟩) rfl rfl) rfl rfl ?_
      show WP 223 (126, [(14, 248), (1, x1), pU, (0, x3), us.getD 0 pU], [(0, F_X12_bill x3 h), (1, pm_wl (31 * x1))], h) Q
      refine WP.i2l rfl ?_
      refine WP.ladd rfl ?_
      refine WP.lstore_n (L' := [(14, 248), (1, pm_wl ((pm_wl (31 * x1)) + (F_X12_bill x3 h))), pU, (0, x3), us.getD 0 pU]) rfl rfl ?_
      refine WP.iincE (L' := [(14, 248), (1, pm_wl ((pm_wl (31 * x1)) + (F_X12_bill x3 h))), pU, (0, x3 + 1), us.getD 0 pU]) rfl rfl o46 rfl ?_
      refine WP.goto rfl ?_
      exact kk [us.getD 0 pU] (pm_wl ((pm_wl (31 * x1)) + (F_X12_bill x3 h)), x3 + 1) (rfl)
  · intro hP hc
    generalize hs : (L_X12_digest_117 h x1 x3 : Int × Int) = s at kk
    change P_X12_digest_117 h (L_X12_digest_117 h x1 x3).1 (L_X12_digest_117 h x1 x3).2 at hP
    change ¬ C_X12_digest_117 h (L_X12_digest_117 h x1 x3).1 (L_X12_digest_117 h x1 x3).2 at hc
    intro us
    show WP 223 (117, [(14, 248), (1, (L_X12_digest_117 h x1 x3).1), pU, (0, (L_X12_digest_117 h x1 x3).2), us.getD 0 pU], [], h) Q
    rw [hs] at hP hc ⊢
    obtain ⟨x1, x3⟩ := s
    change P_X12_digest_117 h x1 x3 at hP
    change ¬ (x3 < 8) at hc
    unfold P_X12_digest_117 at hP
    show WP 223 (117, [(14, 248), (1, x1), pU, (0, x3), us.getD 0 pU], [], h) Q
    refine WP.iload_n rfl rfl ?_
    refine WP.bipush rfl ?_
    refine WP.ni_ge rfl (fun c43 => ?_) (fun c43 => ?_)
    · exact kk [us.getD 0 pU]
    · exact absurd (show x3 < 8 from c43) hc
noncomputable def s_X12_digest_11 (h : pH) : Int := (L_X12_digest_117 h (s_X12_digest_9 h) 0).1
noncomputable def s_X12_digest_12 (h : pH) : Int := (L_X12_digest_117 h (s_X12_digest_9 h) 0).2
noncomputable def F_X12_digest (h : pH) : Int := pm_wl ((pm_wl (31 * (s_X12_digest_11 h))) + (h 249 11))
noncomputable def P_X12_digest (h : pH) : Prop := O_X12_digest_4 h 359 0 ∧ (O_X12_digest_20 h ((L_X12_digest_4 h 359 0).1) 0) ∧ (O_X12_digest_35 h (s_X12_digest_1 h) 0) ∧ (O_X12_digest_59 h (s_X12_digest_3 h) 0) ∧ (O_X12_digest_88 h (s_X12_digest_6 h) 0) ∧ (O_X12_digest_117 h (s_X12_digest_9 h) 0)
set_option maxHeartbeats 4000000 in
theorem w_X12_digest (h : pH) {Q : Option pV → pH → Prop} (hp : P_X12_digest h) (kk : Q (some (1, F_X12_digest h)) (h)) : WP 223 (0, [(14, 248), pU, pU, pU, pU], [], h) Q := by
  unfold P_X12_digest at hp
  obtain ⟨o5, o11, o19, o30, o41, o47⟩ := hp
  refine WP.ldc2_w rfl ?_
  refine WP.lstore_n (L' := [(14, 248), (1, 359), pU, pU, pU]) rfl rfl ?_
  refine WP.iconst rfl ?_
  refine WP.istore_n (L' := [(14, 248), (1, 359), pU, (0, 0), pU]) rfl rfl ?_
  refine lp_X12_digest_4 h 359 0 o5 (fun us6 => ?_) [pU]
  show WP 223 (18, [(14, 248), (1, (L_X12_digest_4 h 359 0).1), pU, (0, (L_X12_digest_4 h 359 0).2), us6.getD 0 pU], [], h) Q
  refine WP.iconst rfl ?_
  refine WP.istore_n (L' := [(14, 248), (1, (L_X12_digest_4 h 359 0).1), pU, (0, 0), us6.getD 0 pU]) rfl rfl ?_
  refine lp_X12_digest_20 h ((L_X12_digest_4 h 359 0).1) 0 o11 (fun us12 => ?_) [us6.getD 0 pU]
  show WP 223 (33, [(14, 248), (1, s_X12_digest_1 h), pU, (0, s_X12_digest_2 h), us12.getD 0 pU], [], h) Q
  refine WP.iconst rfl ?_
  refine WP.istore_n (L' := [(14, 248), (1, s_X12_digest_1 h), pU, (0, 0), us12.getD 0 pU]) rfl rfl ?_
  refine lp_X12_digest_35 h (s_X12_digest_1 h) 0 o19 (fun us20 => ?_) [us12.getD 0 pU]
  show WP 223 (57, [(14, 248), (1, s_X12_digest_3 h), pU, (0, s_X12_digest_4 h), us20.getD 0 pU], [], h) Q
  refine WP.iconst rfl ?_
  refine WP.istore_n (L' := [(14, 248), (1, s_X12_digest_3 h), pU, (0, 0), us20.getD 0 pU]) rfl rfl ?_
  refine lp_X12_digest_59 h (s_X12_digest_3 h) 0 o30 (fun us31 => ?_) [us20.getD 0 pU]
  show WP 223 (86, [(14, 248), (1, s_X12_digest_6 h), pU, (0, s_X12_digest_7 h), us31.getD 0 pU], [], h) Q
  refine WP.iconst rfl ?_
  refine WP.istore_n (L' := [(14, 248), (1, s_X12_digest_6 h), pU, (0, 0), us31.getD 0 pU]) rfl rfl ?_
  refine lp_X12_digest_88 h (s_X12_digest_6 h) 0 o41 (fun us42 => ?_) [us31.getD 0 pU]
  show WP 223 (115, [(14, 248), (1, s_X12_digest_9 h), pU, (0, s_X12_digest_10 h), us42.getD 0 pU], [], h) Q
  refine WP.iconst rfl ?_
  refine WP.istore_n (L' := [(14, 248), (1, s_X12_digest_9 h), pU, (0, 0), us42.getD 0 pU]) rfl rfl ?_
  refine lp_X12_digest_117 h (s_X12_digest_9 h) 0 o47 (fun us48 => ?_) [us42.getD 0 pU]
  show WP 223 (131, [(14, 248), (1, s_X12_digest_11 h), pU, (0, s_X12_digest_12 h), us48.getD 0 pU], [], h) Q
  refine WP.ldc2_w rfl ?_
  refine WP.lload_n rfl rfl ?_
  refine WP.lmul rfl ?_
  refine WP.aload_n rfl rfl ⟨by decide, by decide⟩ ?_
  refine WP.getRF (b := 249) rfl rfl rfl ?_
  refine WP.bipush rfl ?_
  refine WP.laload rfl ⟨by decide, by decide, by decide⟩ (by decide) ?_
  refine WP.ladd rfl ?_
  refine WP.retl rfl ?_; exact kk
theorem c_X12_digest (h : pH) (hp : P_X12_digest h) : CP 223 [(14, 248)] h (fun r h1 => r = some (1, F_X12_digest h) ∧ h1 = h) := w_X12_digest h hp ⟨rfl, rfl⟩
noncomputable def F_X11_batch (a1 : Int) (a2 : Int) (a3 : Int) (a4 : Int) (h : pH) : Int := if 0 ≤ a1 ∧ a1 ≤ 7 then if 1 ≤ a2 ∧ a2 ≤ 1000 then if (h 1 7) ≤ a3 ∧ a3 ≤ 9999 then if (-1) ≤ a4 ∧ a4 ≤ ((h 8 10) - 1) then F_X10_addBatch 22 a1 a2 a3 a4 h else (-2) else (-2) else (-2) else (-2)
noncomputable def H_X11_batch (a1 : Int) (a2 : Int) (a3 : Int) (a4 : Int) (h : pH) : pH := if 0 ≤ a1 ∧ a1 ≤ 7 then if 1 ≤ a2 ∧ a2 ≤ 1000 then if (h 1 7) ≤ a3 ∧ a3 ≤ 9999 then if (-1) ≤ a4 ∧ a4 ≤ ((h 8 10) - 1) then H_X10_addBatch 22 a1 a2 a3 a4 h else h else h else h else h
noncomputable def P_X11_batch (a1 : Int) (a2 : Int) (a3 : Int) (a4 : Int) (h : pH) : Prop := ((0 ≤ a1 ∧ a1 ≤ 7) → (((1 ≤ a2 ∧ a2 ≤ 1000) → ((((h 1 7) ≤ a3 ∧ a3 ≤ 9999) → (P_X11_isPin a4 h ∧ (((-1) ≤ a4 ∧ a4 ≤ ((h 8 10) - 1)) → P_X10_addBatch 22 a1 a2 a3 a4 h)))))))
set_option maxHeartbeats 4000000 in
theorem w_X11_batch (a1 : Int) (a2 : Int) (a3 : Int) (a4 : Int) (h : pH) {Q : Option pV → pH → Prop} (hp : P_X11_batch a1 a2 a3 a4 h) (kk : Q (some (0, F_X11_batch a1 a2 a3 a4 h)) (H_X11_batch a1 a2 a3 a4 h)) : WP 107 (0, [(13, 0), (0, a1), (0, a2), (0, a3), (0, a4)], [], h) Q := by
  unfold P_X11_batch at hp
  have q10 := hp
  refine WP.iload_n rfl rfl ?_
  refine WP.callF (c_X11_isHouse a1 h) rfl rfl (pm_cok rfl rfl (Or.inl rfl) rfl rfl) rfl rfl ?_
  show WP 107 (2, [(13, 0), (0, a1), (0, a2), (0, a3), (0, a4)], [(0, if 0 ≤ a1 ∧ a1 ≤ 7 then 1 else 0)], h) Q
  refine WP.nb_eq rfl (fun c1 => ?_) (fun c1 => ?_)
  · refine WP.bipush rfl ?_
    refine WP.reti rfl ?_; have e := kk; simp only [F_X11_batch, H_X11_batch, if_neg (c1)] at e ⊢; exact e
  · have q9 := q10 c1
    refine WP.iload_n rfl rfl ?_
    refine WP.iconst rfl ?_
    refine WP.sipush rfl ?_
    refine WP.callF (c_X11_within a2 1 1000 h) rfl rfl (pm_cok rfl rfl (Or.inl rfl) rfl rfl) rfl rfl ?_
    show WP 107 (7, [(13, 0), (0, a1), (0, a2), (0, a3), (0, a4)], [(0, if 1 ≤ a2 ∧ a2 ≤ 1000 then 1 else 0)], h) Q
    refine WP.nb_eq rfl (fun c2 => ?_) (fun c2 => ?_)
    · refine WP.bipush rfl ?_
      refine WP.reti rfl ?_; have e := kk; simp only [F_X11_batch, H_X11_batch, if_pos c1, if_neg (c2)] at e ⊢; exact e
    · have q8 := q9 c2
      refine WP.iload_n rfl rfl ?_
      refine WP.aload_n rfl rfl ⟨by decide, by decide⟩ ?_
      refine WP.getRF (b := 1) rfl rfl rfl ?_
      refine WP.getI rfl rfl ?_
      refine WP.sipush rfl ?_
      refine WP.callF (c_X11_within a3 (h 1 7) 9999 h) rfl rfl (pm_cok rfl rfl (Or.inl rfl) rfl rfl) rfl rfl ?_
      show WP 107 (14, [(13, 0), (0, a1), (0, a2), (0, a3), (0, a4)], [(0, if (h 1 7) ≤ a3 ∧ a3 ≤ 9999 then 1 else 0)], h) Q
      refine WP.nb_eq rfl (fun c3 => ?_) (fun c3 => ?_)
      · refine WP.bipush rfl ?_
        refine WP.reti rfl ?_; have e := kk; simp only [F_X11_batch, H_X11_batch, if_pos c1, if_pos c2, if_neg (c3)] at e ⊢; exact e
      · obtain ⟨o4, q7⟩ := q8 c3
        refine WP.aload_n rfl rfl ⟨by decide, by decide⟩ ?_
        refine WP.iload rfl rfl ?_
        refine WP.callF (c_X11_isPin a4 h o4) rfl rfl (pm_cok rfl rfl (Or.inr ⟨_, _, rfl⟩) rfl rfl) rfl rfl ?_
        show WP 107 (18, [(13, 0), (0, a1), (0, a2), (0, a3), (0, a4)], [(0, if (-1) ≤ a4 ∧ a4 ≤ ((h 8 10) - 1) then 1 else 0)], h) Q
        refine WP.nb_ne rfl (fun c5 => ?_) (fun c5 => ?_)
        · have o6 := q7 c5
          refine WP.aload_n rfl rfl ⟨by decide, by decide⟩ ?_
          refine WP.getRF (b := 1) rfl rfl rfl ?_
          refine WP.getRF (b := 22) rfl rfl rfl ?_
          refine WP.iload_n rfl rfl ?_
          refine WP.iload_n rfl rfl ?_
          refine WP.iload_n rfl rfl ?_
          refine WP.iload rfl rfl ?_
          refine WP.callF (c_X10_addBatch 22 a1 a2 a3 a4 h o6) rfl rfl (pm_cok rfl rfl (Or.inr ⟨_, _, rfl⟩) rfl rfl) rfl rfl ?_
          show WP 107 (29, [(13, 0), (0, a1), (0, a2), (0, a3), (0, a4)], [(0, F_X10_addBatch 22 a1 a2 a3 a4 h)], H_X10_addBatch 22 a1 a2 a3 a4 h) Q
          refine WP.reti rfl ?_; have e := kk; simp only [F_X11_batch, H_X11_batch, if_pos c1, if_pos c2, if_pos c3, if_pos c5] at e ⊢; exact e
        · refine WP.bipush rfl ?_
          refine WP.reti rfl ?_; have e := kk; simp only [F_X11_batch, H_X11_batch, if_pos c1, if_pos c2, if_pos c3, if_neg (c5)] at e ⊢; exact e
theorem c_X11_batch (a1 : Int) (a2 : Int) (a3 : Int) (a4 : Int) (h : pH) (hp : P_X11_batch a1 a2 a3 a4 h) : CP 107 [(13, 0), (0, a1), (0, a2), (0, a3), (0, a4)] h (fun r h1 => r = some (0, F_X11_batch a1 a2 a3 a4 h) ∧ h1 = H_X11_batch a1 a2 a3 a4 h) := w_X11_batch a1 a2 a3 a4 h hp ⟨rfl, rfl⟩
noncomputable def F_X11_steady (a1 : Int) (a2 : Int) (a3 : Int) (a4 : Int) (a5 : Int) (h : pH) : Int := if 0 ≤ a1 ∧ a1 ≤ 7 then if (h 1 7) ≤ a2 ∧ a2 ≤ 9999 then if a2 ≤ a3 ∧ a3 ≤ 9999 then if 1 ≤ a4 ∧ a4 ≤ 3 then if (-1) ≤ a5 ∧ a5 ≤ ((h 8 10) - 1) then F_X10_addSteady 22 a1 a2 a3 a4 a5 (h 1 7) h else (-2) else (-2) else (-2) else (-2) else (-2)
noncomputable def H_X11_steady (a1 : Int) (a2 : Int) (a3 : Int) (a4 : Int) (a5 : Int) (h : pH) : pH := if 0 ≤ a1 ∧ a1 ≤ 7 then if (h 1 7) ≤ a2 ∧ a2 ≤ 9999 then if a2 ≤ a3 ∧ a3 ≤ 9999 then if 1 ≤ a4 ∧ a4 ≤ 3 then if (-1) ≤ a5 ∧ a5 ≤ ((h 8 10) - 1) then H_X10_addSteady 22 a1 a2 a3 a4 a5 (h 1 7) h else h else h else h else h else h
noncomputable def P_X11_steady (a1 : Int) (a2 : Int) (a3 : Int) (a4 : Int) (a5 : Int) (h : pH) : Prop := ((0 ≤ a1 ∧ a1 ≤ 7) → ((((h 1 7) ≤ a2 ∧ a2 ≤ 9999) → (((a2 ≤ a3 ∧ a3 ≤ 9999) → (((1 ≤ a4 ∧ a4 ≤ 3) → (P_X11_isPin a5 h ∧ (((-1) ≤ a5 ∧ a5 ≤ ((h 8 10) - 1)) → ((P_X10_addSteady 22 a1 a2 a3 a4 a5 (h 1 7) h)))))))))))
set_option maxHeartbeats 4000000 in
theorem w_X11_steady (a1 : Int) (a2 : Int) (a3 : Int) (a4 : Int) (a5 : Int) (h : pH) {Q : Option pV → pH → Prop} (hp : P_X11_steady a1 a2 a3 a4 a5 h) (kk : Q (some (0, F_X11_steady a1 a2 a3 a4 a5 h)) (H_X11_steady a1 a2 a3 a4 a5 h)) : WP 108 (0, [(13, 0), (0, a1), (0, a2), (0, a3), (0, a4), (0, a5)], [], h) Q := by
  unfold P_X11_steady at hp
  have q12 := hp
  refine WP.iload_n rfl rfl ?_
  refine WP.callF (c_X11_isHouse a1 h) rfl rfl (pm_cok rfl rfl (Or.inl rfl) rfl rfl) rfl rfl ?_
  show WP 108 (2, [(13, 0), (0, a1), (0, a2), (0, a3), (0, a4), (0, a5)], [(0, if 0 ≤ a1 ∧ a1 ≤ 7 then 1 else 0)], h) Q
  refine WP.nb_eq rfl (fun c1 => ?_) (fun c1 => ?_)
  · refine WP.bipush rfl ?_
    refine WP.reti rfl ?_; have e := kk; simp only [F_X11_steady, H_X11_steady, if_neg (c1)] at e ⊢; exact e
  · have q11 := q12 c1
    refine WP.iload_n rfl rfl ?_
    refine WP.aload_n rfl rfl ⟨by decide, by decide⟩ ?_
    refine WP.getRF (b := 1) rfl rfl rfl ?_
    refine WP.getI rfl rfl ?_
    refine WP.sipush rfl ?_
    refine WP.callF (c_X11_within a2 (h 1 7) 9999 h) rfl rfl (pm_cok rfl rfl (Or.inl rfl) rfl rfl) rfl rfl ?_
    show WP 108 (9, [(13, 0), (0, a1), (0, a2), (0, a3), (0, a4), (0, a5)], [(0, if (h 1 7) ≤ a2 ∧ a2 ≤ 9999 then 1 else 0)], h) Q
    refine WP.nb_eq rfl (fun c2 => ?_) (fun c2 => ?_)
    · refine WP.bipush rfl ?_
      refine WP.reti rfl ?_; have e := kk; simp only [F_X11_steady, H_X11_steady, if_pos c1, if_neg (c2)] at e ⊢; exact e
    · have q10 := q11 c2
      refine WP.iload_n rfl rfl ?_
      refine WP.iload_n rfl rfl ?_
      refine WP.sipush rfl ?_
      refine WP.callF (c_X11_within a3 a2 9999 h) rfl rfl (pm_cok rfl rfl (Or.inl rfl) rfl rfl) rfl rfl ?_
      show WP 108 (14, [(13, 0), (0, a1), (0, a2), (0, a3), (0, a4), (0, a5)], [(0, if a2 ≤ a3 ∧ a3 ≤ 9999 then 1 else 0)], h) Q
      refine WP.nb_eq rfl (fun c3 => ?_) (fun c3 => ?_)
      · refine WP.bipush rfl ?_
        refine WP.reti rfl ?_; have e := kk; simp only [F_X11_steady, H_X11_steady, if_pos c1, if_pos c2, if_neg (c3)] at e ⊢; exact e
      · have q9 := q10 c3
        refine WP.iload rfl rfl ?_
        refine WP.iconst rfl ?_
        refine WP.iconst rfl ?_
        refine WP.callF (c_X11_within a4 1 3 h) rfl rfl (pm_cok rfl rfl (Or.inl rfl) rfl rfl) rfl rfl ?_
        show WP 108 (19, [(13, 0), (0, a1), (0, a2), (0, a3), (0, a4), (0, a5)], [(0, if 1 ≤ a4 ∧ a4 ≤ 3 then 1 else 0)], h) Q
        refine WP.nb_eq rfl (fun c4 => ?_) (fun c4 => ?_)
        · refine WP.bipush rfl ?_
          refine WP.reti rfl ?_; have e := kk; simp only [F_X11_steady, H_X11_steady, if_pos c1, if_pos c2, if_pos c3, if_neg (c4)] at e ⊢; exact e
        · obtain ⟨o5, q8⟩ := q9 c4
          refine WP.aload_n rfl rfl ⟨by decide, by decide⟩ ?_
          refine WP.iload rfl rfl ?_
          refine WP.callF (c_X11_isPin a5 h o5) rfl rfl (pm_cok rfl rfl (Or.inr ⟨_, _, rfl⟩) rfl rfl) rfl rfl ?_
          show WP 108 (23, [(13, 0), (0, a1), (0, a2), (0, a3), (0, a4), (0, a5)], [(0, if (-1) ≤ a5 ∧ a5 ≤ ((h 8 10) - 1) then 1 else 0)], h) Q
          refine WP.nb_ne rfl (fun c6 => ?_) (fun c6 => ?_)
          · have o7 := q8 c6
            refine WP.aload_n rfl rfl ⟨by decide, by decide⟩ ?_
            refine WP.getRF (b := 1) rfl rfl rfl ?_
            refine WP.getRF (b := 22) rfl rfl rfl ?_
            refine WP.iload_n rfl rfl ?_
            refine WP.iload_n rfl rfl ?_
            refine WP.iload_n rfl rfl ?_
            refine WP.iload rfl rfl ?_
            refine WP.iload rfl rfl ?_
            refine WP.aload_n rfl rfl ⟨by decide, by decide⟩ ?_
            refine WP.getRF (b := 1) rfl rfl rfl ?_
            refine WP.getI rfl rfl ?_
            refine WP.callF (c_X10_addSteady 22 a1 a2 a3 a4 a5 (h 1 7) h o7) rfl rfl (pm_cok rfl rfl (Or.inr ⟨_, _, rfl⟩) rfl rfl) rfl rfl ?_
            show WP 108 (38, [(13, 0), (0, a1), (0, a2), (0, a3), (0, a4), (0, a5)], [(0, F_X10_addSteady 22 a1 a2 a3 a4 a5 (h 1 7) h)], H_X10_addSteady 22 a1 a2 a3 a4 a5 (h 1 7) h) Q
            refine WP.reti rfl ?_; have e := kk; simp only [F_X11_steady, H_X11_steady, if_pos c1, if_pos c2, if_pos c3, if_pos c4, if_pos c6] at e ⊢; exact e
          · refine WP.bipush rfl ?_
            refine WP.reti rfl ?_; have e := kk; simp only [F_X11_steady, H_X11_steady, if_pos c1, if_pos c2, if_pos c3, if_pos c4, if_neg (c6)] at e ⊢; exact e
theorem c_X11_steady (a1 : Int) (a2 : Int) (a3 : Int) (a4 : Int) (a5 : Int) (h : pH) (hp : P_X11_steady a1 a2 a3 a4 a5 h) : CP 108 [(13, 0), (0, a1), (0, a2), (0, a3), (0, a4), (0, a5)] h (fun r h1 => r = some (0, F_X11_steady a1 a2 a3 a4 a5 h) ∧ h1 = H_X11_steady a1 a2 a3 a4 a5 h) := w_X11_steady a1 a2 a3 a4 a5 h hp ⟨rfl, rfl⟩
noncomputable def B_X11_without_29 (a1 : Int) (y2 : Int) (y3 : Int) (x4 : Int) (x5 : Int) (x6 : Int) (h : pH) : Int × Int × Int × pH := if pm_shl 1 y3 ≤ x6 then (1, x5, x6, h) else if F_J6_bitCount_0f7a4 x5 h = x4 then if F_X11_allKeptWithout x5 a1 h = 0 then (0, pm_and (x5 - y2) y2, x6 + 1, H_X11_allKeptWithout x5 a1 h) else (2, x5, x6, H_X11_allKeptWithout x5 a1 h) else (0, pm_and (x5 - y2) y2, x6 + 1, h)
noncomputable def P_X11_without_29 (a1 : Int) (y2 : Int) (y3 : Int) (x4 : Int) (x5 : Int) (x6 : Int) (h : pH) : Prop := ((x6 < pm_shl 1 y3) → (P_J6_bitCount_0f7a4 x5 h ∧ (((F_J6_bitCount_0f7a4 x5 h = x4) → (P_X11_allKeptWithout x5 a1 h ∧ ((F_X11_allKeptWithout x5 a1 h = 0) → ((P_X11_nextSet x5 y2 (H_X11_allKeptWithout x5 a1 h)) ∧ (fx_i (x6 + 1)))))) ∧ ((¬ F_J6_bitCount_0f7a4 x5 h = x4) → (P_X11_nextSet x5 y2 h ∧ (fx_i (x6 + 1)))))))
noncomputable def L_X11_without_29 (a1 : Int) (y2 : Int) (y3 : Int) (x4 : Int) (x5 : Int) (x6 : Int) (h : pH) : Int × Int × Int × pH := fx_wh (σ := Int × Int × Int × pH) (fun s => s.1 = 0) (fun s => B_X11_without_29 a1 y2 y3 x4 s.2.1 s.2.2.1 s.2.2.2) (0, x5, x6, h)
def O_X11_without_29 (a1 : Int) (y2 : Int) (y3 : Int) (x4 : Int) (x5 : Int) (x6 : Int) (h : pH) : Prop := fx_ok (σ := Int × Int × Int × pH) (fun s => s.1 = 0) (fun s => B_X11_without_29 a1 y2 y3 x4 s.2.1 s.2.2.1 s.2.2.2) (fun s => s.1 = 0 → P_X11_without_29 a1 y2 y3 x4 s.2.1 s.2.2.1 s.2.2.2) (0, x5, x6, h)
set_option maxHeartbeats 4000000 in
theorem lp_X11_without_29 (a1 : Int) (y2 : Int) (y3 : Int) (x4 : Int) (x5 : Int) (x6 : Int) (h : pH) {Q : Option pV → pH → Prop} (hp : O_X11_without_29 a1 y2 y3 x4 x5 x6 h) (kk : (L_X11_without_29 a1 y2 y3 x4 x5 x6 h).1 = 1 → ∀ us : List pV, WP 118 (51, [(13, 0), (0, a1), (0, y2), (0, y3), (0, x4), (0, (L_X11_without_29 a1 y2 y3 x4 x5 x6 h).2.1), (0, (L_X11_without_29 a1 y2 y3 x4 x5 x6 h).2.2.1)], [], (L_X11_without_29 a1 y2 y3 x4 x5 x6 h).2.2.2) Q) (kk2 : ¬ (L_X11_without_29 a1 y2 y3 x4 x5 x6 h).1 = 1 → ∀ us : List pV, WP 118 (43, [(13, 0), (0, a1), (0, y2), (0, y3), (0, x4), (0, (L_X11_without_29 a1 y2 y3 x4 x5 x6 h).2.1), (0, (L_X11_without_29 a1 y2 y3 x4 x5 x6 h).2.2.1)], [], (L_X11_without_29 a1 y2 y3 x4 x5 x6 h).2.2.2) Q) : ∀ us : List pV, WP 118 (29, [(13, 0), (0, a1), (0, y2), (0, y3), (0, x4), (0, x5), (0, x6)], [], h) Q := by
  refine WP.wh (σ := Int × Int × Int × pH) (fun s => s.1 = 0) (fun s => B_X11_without_29 a1 y2 y3 x4 s.2.1 s.2.2.1 s.2.2.2) (fun s => s.1 = 0 → P_X11_without_29 a1 y2 y3 x4 s.2.1 s.2.2.1 s.2.2.2) (fun s us => if s.1 = 0 then (29, [(13, 0), (0, a1), (0, y2), (0, y3), (0, x4), (0, s.2.1), (0, s.2.2.1)], [], s.2.2.2) else if s.1 = 1 then (51, [(13, 0), (0, a1), (0, y2), (0, y3), (0, x4), (0, s.2.1), (0, s.2.2.1)], [], s.2.2.2) else (43, [(13, 0), (0, a1), (0, y2), (0, y3), (0, x4), (0, s.2.1), (0, s.2.2.1)], [], s.2.2.2)) (0, x5, x6, h) hp ?_ ?_
  · intro s us hP hc kk
    obtain ⟨fl, x5, x6, h⟩ := s
    change fl = 0 at hc
    subst hc
    replace hP := hP rfl
    change P_X11_without_29 a1 y2 y3 x4 x5 x6 h at hP
    replace kk : ∀ (us' : List pV) (s' : Int × Int × Int × pH), s' = B_X11_without_29 a1 y2 y3 x4 x5 x6 h → WP 118 ((fun s us => if s.1 = 0 then (29, [(13, 0), (0, a1), (0, y2), (0, y3), (0, x4), (0, s.2.1), (0, s.2.2.1)], [], s.2.2.2) else if s.1 = 1 then (51, [(13, 0), (0, a1), (0, y2), (0, y3), (0, x4), (0, s.2.1), (0, s.2.2.1)], [], s.2.2.2) else (43, [(13, 0), (0, a1), (0, y2), (0, y3), (0, x4), (0, s.2.1), (0, s.2.2.1)], [], s.2.2.2)) s' us') Q := fun us' s' e => by subst e; exact kk us'
    unfold P_X11_without_29 at hP
    have q17 := hP
    show WP 118 (29, [(13, 0), (0, a1), (0, y2), (0, y3), (0, x4), (0, x5), (0, x6)], [], h) Q
    refine WP.iload rfl rfl ?_
    refine WP.iconst rfl ?_
    refine WP.iload_n rfl rfl ?_
    refine WP.ishl rfl ?_
    refine WP.ni_ge rfl (fun c6 => ?_) (fun c6 => ?_)
    · exact kk [] (1, x5, x6, h) (by simp only [B_X11_without_29, if_pos c6])
    · obtain ⟨o7, q16⟩ := q17 c6
      refine WP.iload rfl rfl ?_
      refine WP.callF (c_J6_bitCount_0f7a4 x5 h o7) rfl rfl (pm_cok rfl rfl (Or.inl rfl) rfl rfl) rfl rfl ?_
      show WP 118 (36, [(13, 0), (0, a1), (0, y2), (0, y3), (0, x4), (0, x5), (0, x6)], [(0, F_J6_bitCount_0f7a4 x5 h)], h) Q
      refine WP.iload rfl rfl ?_
      refine WP.ni_ne rfl (fun c8 => ?_) (fun c8 => ?_)
      · obtain ⟨o14, o15⟩ := q16.2 c8
        refine WP.iload rfl rfl ?_
        refine WP.iload_n rfl rfl ?_
        refine WP.callF (c_X11_nextSet x5 y2 h o14) rfl rfl (pm_cok rfl rfl (Or.inl rfl) rfl rfl) rfl rfl ?_
        show WP 118 (48, [(13, 0), (0, a1), (0, y2), (0, y3), (0, x4), (0, x5), (0, x6)], [(0, pm_and (x5 - y2) y2)], h) Q
        refine WP.istore (L' := [(13, 0), (0, a1), (0, y2), (0, y3), (0, x4), (0, pm_and (x5 - y2) y2), (0, x6)]) rfl rfl ?_
        refine WP.iincE (L' := [(13, 0), (0, a1), (0, y2), (0, y3), (0, x4), (0, pm_and (x5 - y2) y2), (0, x6 + 1)]) rfl rfl o15 rfl ?_
        refine WP.goto rfl ?_
        exact kk [] (0, pm_and (x5 - y2) y2, x6 + 1, h) (by simp only [B_X11_without_29, if_neg (Int.not_le.mpr c6), if_neg (c8)])
      · obtain ⟨o9, q13⟩ := q16.1 c8
        refine WP.aload_n rfl rfl ⟨by decide, by decide⟩ ?_
        refine WP.iload rfl rfl ?_
        refine WP.iload_n rfl rfl ?_
        refine WP.callF (c_X11_allKeptWithout x5 a1 h o9) rfl rfl (pm_cok rfl rfl (Or.inr ⟨_, _, rfl⟩) rfl rfl) rfl rfl ?_
        show WP 118 (42, [(13, 0), (0, a1), (0, y2), (0, y3), (0, x4), (0, x5), (0, x6)], [(0, F_X11_allKeptWithout x5 a1 h)], H_X11_allKeptWithout x5 a1 h) Q
        refine WP.nz_eq rfl (fun c10 => ?_) (fun c10 => ?_)
        · obtain ⟨o11, o12⟩ := q13 c10
          refine WP.iload rfl rfl ?_
          refine WP.iload_n rfl rfl ?_
          refine WP.callF (c_X11_nextSet x5 y2 (H_X11_allKeptWithout x5 a1 h) o11) rfl rfl (pm_cok rfl rfl (Or.inl rfl) rfl rfl) rfl rfl ?_
          show WP 118 (48, [(13, 0), (0, a1), (0, y2), (0, y3), (0, x4), (0, x5), (0, x6)], [(0, pm_and (x5 - y2) y2)], H_X11_allKeptWithout x5 a1 h) Q
          refine WP.istore (L' := [(13, 0), (0, a1), (0, y2), (0, y3), (0, x4), (0, pm_and (x5 - y2) y2), (0, x6)]) rfl rfl ?_
          refine WP.iincE (L' := [(13, 0), (0, a1), (0, y2), (0, y3), (0, x4), (0, pm_and (x5 - y2) y2), (0, x6 + 1)]) rfl rfl o12 rfl ?_
          refine WP.goto rfl ?_
          exact kk [] (0, pm_and (x5 - y2) y2, x6 + 1, H_X11_allKeptWithout x5 a1 h) (by simp only [B_X11_without_29, if_neg (Int.not_le.mpr c6), if_pos c8, if_pos c10])
        · exact kk [] (2, x5, x6, H_X11_allKeptWithout x5 a1 h) (by simp only [B_X11_without_29, if_neg (Int.not_le.mpr c6), if_pos c8, if_neg (c10)])
  · intro hP hc
    intro us
    change ¬ (L_X11_without_29 a1 y2 y3 x4 x5 x6 h).1 = 0 at hc
    show WP 118 (if (L_X11_without_29 a1 y2 y3 x4 x5 x6 h).1 = 0 then (29, [(13, 0), (0, a1), (0, y2), (0, y3), (0, x4), (0, (L_X11_without_29 a1 y2 y3 x4 x5 x6 h).2.1), (0, (L_X11_without_29 a1 y2 y3 x4 x5 x6 h).2.2.1)], [], (L_X11_without_29 a1 y2 y3 x4 x5 x6 h).2.2.2) else if (L_X11_without_29 a1 y2 y3 x4 x5 x6 h).1 = 1 then (51, [(13, 0), (0, a1), (0, y2), (0, y3), (0, x4), (0, (L_X11_without_29 a1 y2 y3 x4 x5 x6 h).2.1), (0, (L_X11_without_29 a1 y2 y3 x4 x5 x6 h).2.2.1)], [], (L_X11_without_29 a1 y2 y3 x4 x5 x6 h).2.2.2) else (43, [(13, 0), (0, a1), (0, y2), (0, y3), (0, x4), (0, (L_X11_without_29 a1 y2 y3 x4 x5 x6 h).2.1), (0, (L_X11_without_29 a1 y2 y3 x4 x5 x6 h).2.2.1)], [], (L_X11_without_29 a1 y2 y3 x4 x5 x6 h).2.2.2)) Q
    rw [if_neg hc]
    by_cases e : (L_X11_without_29 a1 y2 y3 x4 x5 x6 h).1 = 1
    · rw [if_pos e]; exact kk e us
    · rw [if_neg e]; exact kk2 e us
noncomputable def s_X11_without_1 (a1 : Int) (y2 : Int) (y3 : Int) (x4 : Int) (h : pH) : Int := (L_X11_without_29 a1 y2 y3 x4 0 0 h).2.1
noncomputable def s_X11_without_2 (a1 : Int) (y2 : Int) (y3 : Int) (x4 : Int) (h : pH) : Int := (L_X11_without_29 a1 y2 y3 x4 0 0 h).2.2.1
noncomputable def s_X11_without_3 (a1 : Int) (y2 : Int) (y3 : Int) (x4 : Int) (h : pH) : pH := (L_X11_without_29 a1 y2 y3 x4 0 0 h).2.2.2
noncomputable def s_X11_without_4 (a1 : Int) (y2 : Int) (y3 : Int) (x4 : Int) (h : pH) : Int := (L_X11_without_29 a1 y2 y3 x4 0 0 h).1
noncomputable def B_X11_without_22 (a1 : Int) (y2 : Int) (y3 : Int) (x4 : Int) (x5 : Int) (h : pH) : Int × Int × Int × pH := if y3 < x4 then (1, x4, 0, h) else if s_X11_without_4 a1 y2 y3 x4 h = 1 then (0, x4 + 1, s_X11_without_1 a1 y2 y3 x4 h, s_X11_without_3 a1 y2 y3 x4 h) else (2, x4, s_X11_without_1 a1 y2 y3 x4 h, s_X11_without_3 a1 y2 y3 x4 h)
noncomputable def P_X11_without_22 (a1 : Int) (y2 : Int) (y3 : Int) (x4 : Int) (x5 : Int) (h : pH) : Prop := ((x4 ≤ y3) → (O_X11_without_29 a1 y2 y3 x4 0 0 h ∧ ((s_X11_without_4 a1 y2 y3 x4 h = 1) → ((fx_i (x4 + 1))))))
noncomputable def L_X11_without_22 (a1 : Int) (y2 : Int) (y3 : Int) (x4 : Int) (x5 : Int) (h : pH) : Int × Int × Int × pH := fx_wh (σ := Int × Int × Int × pH) (fun s => s.1 = 0) (fun s => B_X11_without_22 a1 y2 y3 s.2.1 s.2.2.1 s.2.2.2) (0, x4, x5, h)
def O_X11_without_22 (a1 : Int) (y2 : Int) (y3 : Int) (x4 : Int) (x5 : Int) (h : pH) : Prop := fx_ok (σ := Int × Int × Int × pH) (fun s => s.1 = 0) (fun s => B_X11_without_22 a1 y2 y3 s.2.1 s.2.2.1 s.2.2.2) (fun s => s.1 = 0 → P_X11_without_22 a1 y2 y3 s.2.1 s.2.2.1 s.2.2.2) (0, x4, x5, h)
set_option maxHeartbeats 4000000 in
theorem lp_X11_without_22 (a1 : Int) (y2 : Int) (y3 : Int) (x4 : Int) (x5 : Int) (h : pH) {Q : Option pV → pH → Prop} (hp : O_X11_without_22 a1 y2 y3 x4 x5 h) (kk : (L_X11_without_22 a1 y2 y3 x4 x5 h).1 = 1 → ∀ us : List pV, WP 118 (53, [(13, 0), (0, a1), (0, y2), (0, y3), (0, (L_X11_without_22 a1 y2 y3 x4 x5 h).2.1), us.getD 0 pU, us.getD 1 pU], [], (L_X11_without_22 a1 y2 y3 x4 x5 h).2.2.2) Q) (kk2 : ¬ (L_X11_without_22 a1 y2 y3 x4 x5 h).1 = 1 → ∀ us : List pV, WP 118 (43, [(13, 0), (0, a1), (0, y2), (0, y3), (0, (L_X11_without_22 a1 y2 y3 x4 x5 h).2.1), (0, (L_X11_without_22 a1 y2 y3 x4 x5 h).2.2.1), us.getD 1 pU], [], (L_X11_without_22 a1 y2 y3 x4 x5 h).2.2.2) Q) : ∀ us : List pV, WP 118 (22, [(13, 0), (0, a1), (0, y2), (0, y3), (0, x4), us.getD 0 pU, us.getD 1 pU], [], h) Q := by
  refine WP.wh (σ := Int × Int × Int × pH) (fun s => s.1 = 0) (fun s => B_X11_without_22 a1 y2 y3 s.2.1 s.2.2.1 s.2.2.2) (fun s => s.1 = 0 → P_X11_without_22 a1 y2 y3 s.2.1 s.2.2.1 s.2.2.2) (fun s us => if s.1 = 0 then (22, [(13, 0), (0, a1), (0, y2), (0, y3), (0, s.2.1), us.getD 0 pU, us.getD 1 pU], [], s.2.2.2) else if s.1 = 1 then (53, [(13, 0), (0, a1), (0, y2), (0, y3), (0, s.2.1), us.getD 0 pU, us.getD 1 pU], [], s.2.2.2) else (43, [(13, 0), (0, a1), (0, y2), (0, y3), (0, s.2.1), (0, s.2.2.1), us.getD 1 pU], [], s.2.2.2)) (0, x4, x5, h) hp ?_ ?_
  · intro s us hP hc kk
    obtain ⟨fl, x4, x5, h⟩ := s
    change fl = 0 at hc
    subst hc
    replace hP := hP rfl
    change P_X11_without_22 a1 y2 y3 x4 x5 h at hP
    replace kk : ∀ (us' : List pV) (s' : Int × Int × Int × pH), s' = B_X11_without_22 a1 y2 y3 x4 x5 h → WP 118 ((fun s us => if s.1 = 0 then (22, [(13, 0), (0, a1), (0, y2), (0, y3), (0, s.2.1), us.getD 0 pU, us.getD 1 pU], [], s.2.2.2) else if s.1 = 1 then (53, [(13, 0), (0, a1), (0, y2), (0, y3), (0, s.2.1), us.getD 0 pU, us.getD 1 pU], [], s.2.2.2) else (43, [(13, 0), (0, a1), (0, y2), (0, y3), (0, s.2.1), (0, s.2.2.1), us.getD 1 pU], [], s.2.2.2)) s' us') Q := fun us' s' e => by subst e; exact kk us'
    unfold P_X11_without_22 at hP
    have q23 := hP
    show WP 118 (22, [(13, 0), (0, a1), (0, y2), (0, y3), (0, x4), us.getD 0 pU, us.getD 1 pU], [], h) Q
    refine WP.iload rfl rfl ?_
    refine WP.iload_n rfl rfl ?_
    refine WP.ni_gt rfl (fun c5 => ?_) (fun c5 => ?_)
    · exact kk [us.getD 0 pU, us.getD 1 pU] (1, x4, 0, h) (by simp only [B_X11_without_22, if_pos c5])
    · obtain ⟨o18, q22⟩ := q23 c5
      refine WP.iconst rfl ?_
      refine WP.istore (L' := [(13, 0), (0, a1), (0, y2), (0, y3), (0, x4), (0, 0), us.getD 1 pU]) rfl rfl ?_
      refine WP.iconst rfl ?_
      refine WP.istore (L' := [(13, 0), (0, a1), (0, y2), (0, y3), (0, x4), (0, 0), (0, 0)]) rfl rfl ?_
      refine lp_X11_without_29 a1 y2 y3 x4 0 0 h o18 (fun (c20 : s_X11_without_4 a1 y2 y3 x4 h = 1) us19 => ?_) (fun (c20 : ¬ s_X11_without_4 a1 y2 y3 x4 h = 1) us19 => ?_) []
      · have o21 := q22 c20
        show WP 118 (51, [(13, 0), (0, a1), (0, y2), (0, y3), (0, x4), (0, s_X11_without_1 a1 y2 y3 x4 h), (0, s_X11_without_2 a1 y2 y3 x4 h)], [], s_X11_without_3 a1 y2 y3 x4 h) Q
        refine WP.iincE (L' := [(13, 0), (0, a1), (0, y2), (0, y3), (0, x4 + 1), (0, s_X11_without_1 a1 y2 y3 x4 h), (0, s_X11_without_2 a1 y2 y3 x4 h)]) rfl rfl o21 rfl ?_
        refine WP.goto rfl ?_
        exact kk [(0, s_X11_without_1 a1 y2 y3 x4 h), (0, s_X11_without_2 a1 y2 y3 x4 h)] (0, x4 + 1, s_X11_without_1 a1 y2 y3 x4 h, s_X11_without_3 a1 y2 y3 x4 h) (by simp only [B_X11_without_22, if_neg (Int.not_lt.mpr c5), if_pos c20])
      · show WP 118 (43, [(13, 0), (0, a1), (0, y2), (0, y3), (0, x4), (0, s_X11_without_1 a1 y2 y3 x4 h), (0, s_X11_without_2 a1 y2 y3 x4 h)], [], s_X11_without_3 a1 y2 y3 x4 h) Q
        exact kk [(0, s_X11_without_1 a1 y2 y3 x4 h), (0, s_X11_without_2 a1 y2 y3 x4 h)] (2, x4, s_X11_without_1 a1 y2 y3 x4 h, s_X11_without_3 a1 y2 y3 x4 h) (by simp only [B_X11_without_22, if_neg (Int.not_lt.mpr c5), if_neg (c20)])
  · intro hP hc
    intro us
    change ¬ (L_X11_without_22 a1 y2 y3 x4 x5 h).1 = 0 at hc
    show WP 118 (if (L_X11_without_22 a1 y2 y3 x4 x5 h).1 = 0 then (22, [(13, 0), (0, a1), (0, y2), (0, y3), (0, (L_X11_without_22 a1 y2 y3 x4 x5 h).2.1), us.getD 0 pU, us.getD 1 pU], [], (L_X11_without_22 a1 y2 y3 x4 x5 h).2.2.2) else if (L_X11_without_22 a1 y2 y3 x4 x5 h).1 = 1 then (53, [(13, 0), (0, a1), (0, y2), (0, y3), (0, (L_X11_without_22 a1 y2 y3 x4 x5 h).2.1), us.getD 0 pU, us.getD 1 pU], [], (L_X11_without_22 a1 y2 y3 x4 x5 h).2.2.2) else (43, [(13, 0), (0, a1), (0, y2), (0, y3), (0, (L_X11_without_22 a1 y2 y3 x4 x5 h).2.1), (0, (L_X11_without_22 a1 y2 y3 x4 x5 h).2.2.1), us.getD 1 pU], [], (L_X11_without_22 a1 y2 y3 x4 x5 h).2.2.2)) Q
    rw [if_neg hc]
    by_cases e : (L_X11_without_22 a1 y2 y3 x4 x5 h).1 = 1
    · rw [if_pos e]; exact kk e us
    · rw [if_neg e]; exact kk2 e us
noncomputable def s_X11_without_5 (a1 : Int) (h : pH) : Int := (L_X11_without_22 a1 (F_X10_openBits 22 h) (F_J6_bitCount_0f7a4 (F_X10_openBits 22 h) h) 0 0 h).2.1
noncomputable def s_X11_without_6 (a1 : Int) (h : pH) : Int := (L_X11_without_22 a1 (F_X10_openBits 22 h) (F_J6_bitCount_0f7a4 (F_X10_openBits 22 h) h) 0 0 h).2.2.1
noncomputable def s_X11_without_7 (a1 : Int) (h : pH) : pH := (L_X11_without_22 a1 (F_X10_openBits 22 h) (F_J6_bitCount_0f7a4 (F_X10_openBits 22 h) h) 0 0 h).2.2.2
noncomputable def s_X11_without_8 (a1 : Int) (h : pH) : Int := (L_X11_without_22 a1 (F_X10_openBits 22 h) (F_J6_bitCount_0f7a4 (F_X10_openBits 22 h) h) 0 0 h).1
noncomputable def F_X11_without (a1 : Int) (h : pH) : Int := if 1 ≤ a1 ∧ a1 ≤ 30 then if F_J6_bitCount_0f7a4 (F_X10_openBits 22 h) h ≤ 8 then if s_X11_without_8 a1 h = 1 then (-1) else s_X11_without_6 a1 h else (-3) else (-2)
noncomputable def H_X11_without (a1 : Int) (h : pH) : pH := if 1 ≤ a1 ∧ a1 ≤ 30 then if F_J6_bitCount_0f7a4 (F_X10_openBits 22 h) h ≤ 8 then s_X11_without_7 a1 h else h else h
noncomputable def P_X11_without (a1 : Int) (h : pH) : Prop := ((1 ≤ a1 ∧ a1 ≤ 30) → (P_X10_openBits 22 h ∧ (P_J6_bitCount_0f7a4 (F_X10_openBits 22 h) h) ∧ ((F_J6_bitCount_0f7a4 (F_X10_openBits 22 h) h ≤ 8) → ((O_X11_without_22 a1 (F_X10_openBits 22 h) (F_J6_bitCount_0f7a4 (F_X10_openBits 22 h) h) 0 0 h)))))
set_option maxHeartbeats 4000000 in
theorem w_X11_without (a1 : Int) (h : pH) {Q : Option pV → pH → Prop} (hp : P_X11_without a1 h) (kk : Q (some (0, F_X11_without a1 h)) (H_X11_without a1 h)) : WP 118 (0, [(13, 0), (0, a1), pU, pU, pU, pU, pU], [], h) Q := by
  unfold P_X11_without at hp
  have q28 := hp
  refine WP.iload_n rfl rfl ?_
  refine WP.iconst rfl ?_
  refine WP.bipush rfl ?_
  refine WP.callF (c_X11_within a1 1 30 h) rfl rfl (pm_cok rfl rfl (Or.inl rfl) rfl rfl) rfl rfl ?_
  show WP 118 (4, [(13, 0), (0, a1), pU, pU, pU, pU, pU], [(0, if 1 ≤ a1 ∧ a1 ≤ 30 then 1 else 0)], h) Q
  refine WP.nb_ne rfl (fun c1 => ?_) (fun c1 => ?_)
  · obtain ⟨o2, o3, q27⟩ := q28 c1
    refine WP.aload_n rfl rfl ⟨by decide, by decide⟩ ?_
    refine WP.getRF (b := 1) rfl rfl rfl ?_
    refine WP.getRF (b := 22) rfl rfl rfl ?_
    refine WP.callF (c_X10_openBits 22 h o2) rfl rfl (pm_cok rfl rfl (Or.inr ⟨_, _, rfl⟩) rfl rfl) rfl rfl ?_
    show WP 118 (11, [(13, 0), (0, a1), pU, pU, pU, pU, pU], [(0, F_X10_openBits 22 h)], h) Q
    refine WP.istore_n (L' := [(13, 0), (0, a1), (0, F_X10_openBits 22 h), pU, pU, pU, pU]) rfl rfl ?_
    refine WP.iload_n rfl rfl ?_
    refine WP.callF (c_J6_bitCount_0f7a4 (F_X10_openBits 22 h) h o3) rfl rfl (pm_cok rfl rfl (Or.inl rfl) rfl rfl) rfl rfl ?_
    show WP 118 (14, [(13, 0), (0, a1), (0, F_X10_openBits 22 h), pU, pU, pU, pU], [(0, F_J6_bitCount_0f7a4 (F_X10_openBits 22 h) h)], h) Q
    refine WP.istore_n (L' := [(13, 0), (0, a1), (0, F_X10_openBits 22 h), (0, F_J6_bitCount_0f7a4 (F_X10_openBits 22 h) h), pU, pU, pU]) rfl rfl ?_
    refine WP.iload_n rfl rfl ?_
    refine WP.bipush rfl ?_
    refine WP.ni_le rfl (fun c4 => ?_) (fun c4 => ?_)
    · have o24 := q27 c4
      refine WP.iconst rfl ?_
      refine WP.istore (L' := [(13, 0), (0, a1), (0, F_X10_openBits 22 h), (0, F_J6_bitCount_0f7a4 (F_X10_openBits 22 h) h), (0, 0), pU, pU]) rfl rfl ?_
      refine lp_X11_without_22 a1 (F_X10_openBits 22 h) (F_J6_bitCount_0f7a4 (F_X10_openBits 22 h) h) 0 0 h o24 (fun (c26 : s_X11_without_8 a1 h = 1) us25 => ?_) (fun (c26 : ¬ s_X11_without_8 a1 h = 1) us25 => ?_) [pU, pU]
      · show WP 118 (53, [(13, 0), (0, a1), (0, F_X10_openBits 22 h), (0, F_J6_bitCount_0f7a4 (F_X10_openBits 22 h) h), (0, s_X11_without_5 a1 h), us25.getD 0 pU, us25.getD 1 pU], [], s_X11_without_7 a1 h) Q
        refine WP.iconst rfl ?_
        refine WP.reti rfl ?_; have e := kk; simp only [F_X11_without, H_X11_without, if_pos c1, if_pos c4, if_pos c26] at e ⊢; exact e
      · show WP 118 (43, [(13, 0), (0, a1), (0, F_X10_openBits 22 h), (0, F_J6_bitCount_0f7a4 (F_X10_openBits 22 h) h), (0, s_X11_without_5 a1 h), (0, s_X11_without_6 a1 h), us25.getD 1 pU], [], s_X11_without_7 a1 h) Q
        refine WP.iload rfl rfl ?_
        refine WP.reti rfl ?_; have e := kk; simp only [F_X11_without, H_X11_without, if_pos c1, if_pos c4, if_neg (c26)] at e ⊢; exact e
    · refine WP.bipush rfl ?_
      refine WP.reti rfl ?_; have e := kk; simp only [F_X11_without, H_X11_without, if_pos c1, if_neg (Int.not_le.mpr c4)] at e ⊢; exact e
  · refine WP.bipush rfl ?_
    refine WP.reti rfl ?_; have e := kk; simp only [F_X11_without, H_X11_without, if_neg (c1)] at e ⊢; exact e
theorem c_X11_without (a1 : Int) (h : pH) (hp : P_X11_without a1 h) : CP 118 [(13, 0), (0, a1)] h (fun r h1 => r = some (0, F_X11_without a1 h) ∧ h1 = H_X11_without a1 h) := w_X11_without a1 h hp ⟨rfl, rfl⟩
noncomputable def s_X11_other_1 (a1 : Int) (a2 : Int) : Int := if a1 = 5 then if 0 ≤ a2 ∧ a2 ≤ 11 then 1 else 0 else if (-100000) ≤ a2 ∧ a2 ≤ 100000 then 1 else 0
noncomputable def s_X11_other_2 (a1 : Int) (a2 : Int) (a3 : Int) (h : pH) : pH := H_X4_makeOther 47 a1 a2 (H_X4_copyFrom 47 1 (H_X4_go 47 a3 (H_X4_copyFrom 47 1 h)))
noncomputable def s_X11_other_3 (a1 : Int) (a2 : Int) (a3 : Int) (a4 : Int) (h : pH) : Int := if a4 = 0 then (F_X4_go 47 a3 (s_X11_other_2 a1 a2 a3 h)) - (F_X4_go 47 a3 (H_X4_copyFrom 47 1 h)) else pm_wl (((H_X4_go 47 a3 (s_X11_other_2 a1 a2 a3 h)) 65 8) - ((H_X4_go 47 a3 (H_X4_copyFrom 47 1 h)) 65 8))
noncomputable def F_X11_other (a1 : Int) (a2 : Int) (a3 : Int) (a4 : Int) (h : pH) : Int := if 0 ≤ a1 ∧ a1 ≤ 5 then if s_X11_other_1 a1 a2 = 0 then (-2000000000000000000) else if 1 ≤ a3 ∧ a3 ≤ 30 then if 0 ≤ a4 ∧ a4 ≤ 1 then if a1 = 5 then if 1 ≤ (h 8 10) ∧ (h 8 10) ≤ 9 then s_X11_other_3 a1 a2 a3 a4 h else (-2100000000000000000) else s_X11_other_3 a1 a2 a3 a4 h else (-2000000000000000000) else (-2000000000000000000) else (-2000000000000000000)
noncomputable def H_X11_other (a1 : Int) (a2 : Int) (a3 : Int) (a4 : Int) (h : pH) : pH := if 0 ≤ a1 ∧ a1 ≤ 5 then if s_X11_other_1 a1 a2 = 0 then h else if 1 ≤ a3 ∧ a3 ≤ 30 then if 0 ≤ a4 ∧ a4 ≤ 1 then if a1 = 5 then if 1 ≤ (h 8 10) ∧ (h 8 10) ≤ 9 then H_X4_go 47 a3 (s_X11_other_2 a1 a2 a3 h) else h else H_X4_go 47 a3 (s_X11_other_2 a1 a2 a3 h) else h else h else h
noncomputable def P_X11_other (a1 : Int) (a2 : Int) (a3 : Int) (a4 : Int) (h : pH) : Prop := ((0 ≤ a1 ∧ a1 ≤ 5) → (((¬ s_X11_other_1 a1 a2 = 0) → (((1 ≤ a3 ∧ a3 ≤ 30) → (((0 ≤ a4 ∧ a4 ≤ 1) → ((((a1 = 5) → (((1 ≤ (h 8 10) ∧ (h 8 10) ≤ 9) → ((P_X4_go 47 a3 (H_X4_copyFrom 47 1 h)) ∧ (P_X4_makeOther 47 a1 a2 (H_X4_copyFrom 47 1 (H_X4_go 47 a3 (H_X4_copyFrom 47 1 h)))) ∧ (P_X4_go 47 a3 (s_X11_other_2 a1 a2 a3 h)) ∧ (((a4 = 0) → ((fx_i ((F_X4_go 47 a3 (s_X11_other_2 a1 a2 a3 h)) - (F_X4_go 47 a3 (H_X4_copyFrom 47 1 h))))))))))) ∧ ((¬ a1 = 5) → ((P_X4_go 47 a3 (H_X4_copyFrom 47 1 h)) ∧ (P_X4_makeOther 47 a1 a2 (H_X4_copyFrom 47 1 (H_X4_go 47 a3 (H_X4_copyFrom 47 1 h)))) ∧ (P_X4_go 47 a3 (s_X11_other_2 a1 a2 a3 h)) ∧ (((a4 = 0) → ((fx_i ((F_X4_go 47 a3 (s_X11_other_2 a1 a2 a3 h)) - (F_X4_go 47 a3 (H_X4_copyFrom 47 1 h))))))))))))))))))
set_option maxHeartbeats 4000000 in
theorem w_X11_other (a1 : Int) (a2 : Int) (a3 : Int) (a4 : Int) (h : pH) {Q : Option pV → pH → Prop} (hp : P_X11_other a1 a2 a3 a4 h) (kk : Q (some (1, F_X11_other a1 a2 a3 a4 h)) (H_X11_other a1 a2 a3 a4 h)) : WP 121 (0, [(13, 0), (0, a1), (0, a2), (0, a3), (0, a4), pU, pU, pU, pU, pU], [], h) Q := by
  unfold P_X11_other at hp
  have q33 := hp
  refine WP.iload_n rfl rfl ?_
  refine WP.iconst rfl ?_
  have k1 : ∀ Q' : Option pV → pH → Prop, (WP 121 (10, [(13, 0), (0, a1), (0, a2), (0, a3), (0, a4), pU, pU, pU, pU, pU], [(0, s_X11_other_1 a1 a2)], h) Q') → WP 121 (2, [(13, 0), (0, a1), (0, a2), (0, a3), (0, a4), pU, pU, pU, pU, pU], [(0, 5), (0, a1)], h) Q' := fun Q' kk => by
    refine WP.ni_ne rfl (fun c2 => ?_) (fun c2 => ?_)
    · refine WP.iload_n rfl rfl ?_
      refine WP.ldc_w rfl ?_
      refine WP.ldc rfl ?_
      refine WP.callF (c_X11_within a2 (-100000) 100000 h) rfl rfl (pm_cok rfl rfl (Or.inl rfl) rfl rfl) rfl rfl ?_
      show WP 121 (10, [(13, 0), (0, a1), (0, a2), (0, a3), (0, a4), pU, pU, pU, pU, pU], [(0, if (-100000) ≤ a2 ∧ a2 ≤ 100000 then 1 else 0)], h) Q'
      have e := kk; simp only [s_X11_other_1, if_neg (c2)] at e ⊢; exact e
    · refine WP.iload_n rfl rfl ?_
      refine WP.callF (c_X11_isCell a2 h) rfl rfl (pm_cok rfl rfl (Or.inl rfl) rfl rfl) rfl rfl ?_
      show WP 121 (5, [(13, 0), (0, a1), (0, a2), (0, a3), (0, a4), pU, pU, pU, pU, pU], [(0, if 0 ≤ a2 ∧ a2 ≤ 11 then 1 else 0)], h) Q'
      refine WP.goto rfl ?_
      have e := kk; simp only [s_X11_other_1, if_pos c2] at e ⊢; exact e
  refine k1 _ ?_
  refine WP.istore (L' := [(13, 0), (0, a1), (0, a2), (0, a3), (0, a4), (0, s_X11_other_1 a1 a2), pU, pU, pU, pU]) rfl rfl ?_
  refine WP.iload_n rfl rfl ?_
  refine WP.iconst rfl ?_
  refine WP.iconst rfl ?_
  refine WP.callF (c_X11_within a1 0 5 h) rfl rfl (pm_cok rfl rfl (Or.inl rfl) rfl rfl) rfl rfl ?_
  show WP 121 (15, [(13, 0), (0, a1), (0, a2), (0, a3), (0, a4), (0, s_X11_other_1 a1 a2), pU, pU, pU, pU], [(0, if 0 ≤ a1 ∧ a1 ≤ 5 then 1 else 0)], h) Q
  refine WP.nb_eq rfl (fun c4 => ?_) (fun c4 => ?_)
  · refine WP.ldc2_w rfl ?_
    refine WP.retl rfl ?_; have e := kk; simp only [F_X11_other, H_X11_other, if_neg (c4)] at e ⊢; exact e
  · have q32 := q33 c4
    refine WP.iload rfl rfl ?_
    refine WP.nz_eq rfl (fun c5 => ?_) (fun c5 => ?_)
    · refine WP.ldc2_w rfl ?_
      refine WP.retl rfl ?_; have e := kk; simp only [F_X11_other, H_X11_other, if_pos c4, if_pos c5] at e ⊢; exact e
    · have q31 := q32 c5
      refine WP.iload_n rfl rfl ?_
      refine WP.iconst rfl ?_
      refine WP.bipush rfl ?_
      refine WP.callF (c_X11_within a3 1 30 h) rfl rfl (pm_cok rfl rfl (Or.inl rfl) rfl rfl) rfl rfl ?_
      show WP 121 (22, [(13, 0), (0, a1), (0, a2), (0, a3), (0, a4), (0, s_X11_other_1 a1 a2), pU, pU, pU, pU], [(0, if 1 ≤ a3 ∧ a3 ≤ 30 then 1 else 0)], h) Q
      refine WP.nb_eq rfl (fun c6 => ?_) (fun c6 => ?_)
      · refine WP.ldc2_w rfl ?_
        refine WP.retl rfl ?_; have e := kk; simp only [F_X11_other, H_X11_other, if_pos c4, if_neg (c5), if_neg (c6)] at e ⊢; exact e
      · have q30 := q31 c6
        refine WP.iload rfl rfl ?_
        refine WP.iconst rfl ?_
        refine WP.iconst rfl ?_
        refine WP.callF (c_X11_within a4 0 1 h) rfl rfl (pm_cok rfl rfl (Or.inl rfl) rfl rfl) rfl rfl ?_
        show WP 121 (27, [(13, 0), (0, a1), (0, a2), (0, a3), (0, a4), (0, s_X11_other_1 a1 a2), pU, pU, pU, pU], [(0, if 0 ≤ a4 ∧ a4 ≤ 1 then 1 else 0)], h) Q
        refine WP.nb_ne rfl (fun c7 => ?_) (fun c7 => ?_)
        · have q29 := q30 c7
          refine WP.iload_n rfl rfl ?_
          refine WP.iconst rfl ?_
          refine WP.ni_ne rfl (fun c8 => ?_) (fun c8 => ?_)
          · obtain ⟨o20, o21, o22, q28⟩ := q29.2 c8
            refine WP.aload_n rfl rfl ⟨by decide, by decide⟩ ?_
            refine WP.getRF (b := 47) rfl rfl rfl ?_
            refine WP.aload_n rfl rfl ⟨by decide, by decide⟩ ?_
            refine WP.getRF (b := 1) rfl rfl rfl ?_
            refine WP.callF (c_X4_copyFrom 47 1 h) rfl rfl (pm_cok rfl rfl (Or.inr ⟨_, _, rfl⟩) rfl rfl) rfl rfl ?_
            show WP 121 (48, [(13, 0), (0, a1), (0, a2), (0, a3), (0, a4), (0, s_X11_other_1 a1 a2), pU, pU, pU, pU], [], H_X4_copyFrom 47 1 h) Q
            refine WP.aload_n rfl rfl ⟨by decide, by decide⟩ ?_
            refine WP.getRF (b := 47) rfl rfl rfl ?_
            refine WP.iload_n rfl rfl ?_
            refine WP.callF (c_X4_go 47 a3 (H_X4_copyFrom 47 1 h) o20) rfl rfl (pm_cok rfl rfl (Or.inr ⟨_, _, rfl⟩) rfl rfl) rfl rfl ?_
            show WP 121 (52, [(13, 0), (0, a1), (0, a2), (0, a3), (0, a4), (0, s_X11_other_1 a1 a2), pU, pU, pU, pU], [(0, F_X4_go 47 a3 (H_X4_copyFrom 47 1 h))], H_X4_go 47 a3 (H_X4_copyFrom 47 1 h)) Q
            refine WP.istore (L' := [(13, 0), (0, a1), (0, a2), (0, a3), (0, a4), (0, s_X11_other_1 a1 a2), (0, F_X4_go 47 a3 (H_X4_copyFrom 47 1 h)), pU, pU, pU]) rfl rfl ?_
            refine WP.aload_n rfl rfl ⟨by decide, by decide⟩ ?_
            refine WP.getRF (b := 47) rfl rfl rfl ?_
            refine WP.getRF (b := 65) rfl rfl rfl ?_
            refine WP.getJ rfl rfl ?_
            refine WP.lstore (L' := [(13, 0), (0, a1), (0, a2), (0, a3), (0, a4), (0, s_X11_other_1 a1 a2), (0, F_X4_go 47 a3 (H_X4_copyFrom 47 1 h)), (1, (H_X4_go 47 a3 (H_X4_copyFrom 47 1 h)) 65 8), pU, pU]) rfl rfl ?_
            refine WP.aload_n rfl rfl ⟨by decide, by decide⟩ ?_
            refine WP.getRF (b := 47) rfl rfl rfl ?_
            refine WP.aload_n rfl rfl ⟨by decide, by decide⟩ ?_
            refine WP.getRF (b := 1) rfl rfl rfl ?_
            refine WP.callF (c_X4_copyFrom 47 1 (H_X4_go 47 a3 (H_X4_copyFrom 47 1 h))) rfl rfl (pm_cok rfl rfl (Or.inr ⟨_, _, rfl⟩) rfl rfl) rfl rfl ?_
            show WP 121 (63, [(13, 0), (0, a1), (0, a2), (0, a3), (0, a4), (0, s_X11_other_1 a1 a2), (0, F_X4_go 47 a3 (H_X4_copyFrom 47 1 h)), (1, (H_X4_go 47 a3 (H_X4_copyFrom 47 1 h)) 65 8), pU, pU], [], H_X4_copyFrom 47 1 (H_X4_go 47 a3 (H_X4_copyFrom 47 1 h))) Q
            refine WP.aload_n rfl rfl ⟨by decide, by decide⟩ ?_
            refine WP.getRF (b := 47) rfl rfl rfl ?_
            refine WP.iload_n rfl rfl ?_
            refine WP.iload_n rfl rfl ?_
            refine WP.callF (c_X4_makeOther 47 a1 a2 (H_X4_copyFrom 47 1 (H_X4_go 47 a3 (H_X4_copyFrom 47 1 h))) o21) rfl rfl (pm_cok rfl rfl (Or.inr ⟨_, _, rfl⟩) rfl rfl) rfl rfl ?_
            show WP 121 (68, [(13, 0), (0, a1), (0, a2), (0, a3), (0, a4), (0, s_X11_other_1 a1 a2), (0, F_X4_go 47 a3 (H_X4_copyFrom 47 1 h)), (1, (H_X4_go 47 a3 (H_X4_copyFrom 47 1 h)) 65 8), pU, pU], [], s_X11_other_2 a1 a2 a3 h) Q
            refine WP.aload_n rfl rfl ⟨by decide, by decide⟩ ?_
            refine WP.getRF (b := 47) rfl rfl rfl ?_
            refine WP.iload_n rfl rfl ?_
            refine WP.callF (c_X4_go 47 a3 (s_X11_other_2 a1 a2 a3 h) o22) rfl rfl (pm_cok rfl rfl (Or.inr ⟨_, _, rfl⟩) rfl rfl) rfl rfl ?_
            show WP 121 (72, [(13, 0), (0, a1), (0, a2), (0, a3), (0, a4), (0, s_X11_other_1 a1 a2), (0, F_X4_go 47 a3 (H_X4_copyFrom 47 1 h)), (1, (H_X4_go 47 a3 (H_X4_copyFrom 47 1 h)) 65 8), pU, pU], [(0, F_X4_go 47 a3 (s_X11_other_2 a1 a2 a3 h))], H_X4_go 47 a3 (s_X11_other_2 a1 a2 a3 h)) Q
            refine WP.istore (L' := [(13, 0), (0, a1), (0, a2), (0, a3), (0, a4), (0, s_X11_other_1 a1 a2), (0, F_X4_go 47 a3 (H_X4_copyFrom 47 1 h)), (1, (H_X4_go 47 a3 (H_X4_copyFrom 47 1 h)) 65 8), pU, (0, F_X4_go 47 a3 (s_X11_other_2 a1 a2 a3 h))]) rfl rfl ?_
            refine WP.iload rfl rfl ?_
            have k23 : ∀ Q' : Option pV → pH → Prop, (WP 121 (86, [(13, 0), (0, a1), (0, a2), (0, a3), (0, a4), (0, s_X11_other_1 a1 a2), (0, F_X4_go 47 a3 (H_X4_copyFrom 47 1 h)), (1, (H_X4_go 47 a3 (H_X4_copyFrom 47 1 h)) 65 8), pU, (0, F_X4_go 47 a3 (s_X11_other_2 a1 a2 a3 h))], [(1, s_X11_other_3 a1 a2 a3 a4 h)], H_X4_go 47 a3 (s_X11_other_2 a1 a2 a3 h)) Q') → WP 121 (74, [(13, 0), (0, a1), (0, a2), (0, a3), (0, a4), (0, s_X11_other_1 a1 a2), (0, F_X4_go 47 a3 (H_X4_copyFrom 47 1 h)), (1, (H_X4_go 47 a3 (H_X4_copyFrom 47 1 h)) 65 8), pU, (0, F_X4_go 47 a3 (s_X11_other_2 a1 a2 a3 h))], [(0, a4)], H_X4_go 47 a3 (s_X11_other_2 a1 a2 a3 h)) Q' := fun Q' kk => by
              have q26 := q28
              refine WP.nz_ne rfl (fun c24 => ?_) (fun c24 => ?_)
              · refine WP.aload_n rfl rfl ⟨by decide, by decide⟩ ?_
                refine WP.getRF (b := 47) rfl rfl rfl ?_
                refine WP.getRF (b := 65) rfl rfl rfl ?_
                refine WP.getJ rfl rfl ?_
                refine WP.lload rfl rfl ?_
                refine WP.lsub rfl ?_
                have e := kk; simp only [s_X11_other_3, if_neg (c24)] at e ⊢; exact e
              · have o25 := q26 c24
                refine WP.iload rfl rfl ?_
                refine WP.iload rfl rfl ?_
                refine WP.isubE rfl o25 ?_
                refine WP.i2l rfl ?_
                refine WP.goto rfl ?_
                have e := kk; simp only [s_X11_other_3, if_pos c24] at e ⊢; exact e
            refine k23 _ ?_
            refine WP.retl rfl ?_; have e := kk; simp only [F_X11_other, H_X11_other, if_pos c4, if_neg (c5), if_pos c6, if_pos c7, if_neg (c8)] at e ⊢; exact e
          · have q19 := q29.1 c8
            refine WP.aload_n rfl rfl ⟨by decide, by decide⟩ ?_
            refine WP.getRF (b := 1) rfl rfl rfl ?_
            refine WP.getRF (b := 8) rfl rfl rfl ?_
            refine WP.getI rfl rfl ?_
            refine WP.iconst rfl ?_
            refine WP.bipush rfl ?_
            refine WP.callF (c_X11_within (h 8 10) 1 9 h) rfl rfl (pm_cok rfl rfl (Or.inl rfl) rfl rfl) rfl rfl ?_
            show WP 121 (40, [(13, 0), (0, a1), (0, a2), (0, a3), (0, a4), (0, s_X11_other_1 a1 a2), pU, pU, pU, pU], [(0, if 1 ≤ (h 8 10) ∧ (h 8 10) ≤ 9 then 1 else 0)], h) Q
            refine WP.nb_ne rfl (fun c9 => ?_) (fun c9 => ?_)
            · obtain ⟨o10, o11, o12, q18⟩ := q19 c9
              refine WP.aload_n rfl rfl ⟨by decide, by decide⟩ ?_
              refine WP.getRF (b := 47) rfl rfl rfl ?_
              refine WP.aload_n rfl rfl ⟨by decide, by decide⟩ ?_
              refine WP.getRF (b := 1) rfl rfl rfl ?_
              refine WP.callF (c_X4_copyFrom 47 1 h) rfl rfl (pm_cok rfl rfl (Or.inr ⟨_, _, rfl⟩) rfl rfl) rfl rfl ?_
              show WP 121 (48, [(13, 0), (0, a1), (0, a2), (0, a3), (0, a4), (0, s_X11_other_1 a1 a2), pU, pU, pU, pU], [], H_X4_copyFrom 47 1 h) Q
              refine WP.aload_n rfl rfl ⟨by decide, by decide⟩ ?_
              refine WP.getRF (b := 47) rfl rfl rfl ?_
              refine WP.iload_n rfl rfl ?_
              refine WP.callF (c_X4_go 47 a3 (H_X4_copyFrom 47 1 h) o10) rfl rfl (pm_cok rfl rfl (Or.inr ⟨_, _, rfl⟩) rfl rfl) rfl rfl ?_
              show WP 121 (52, [(13, 0), (0, a1), (0, a2), (0, a3), (0, a4), (0, s_X11_other_1 a1 a2), pU, pU, pU, pU], [(0, F_X4_go 47 a3 (H_X4_copyFrom 47 1 h))], H_X4_go 47 a3 (H_X4_copyFrom 47 1 h)) Q
              refine WP.istore (L' := [(13, 0), (0, a1), (0, a2), (0, a3), (0, a4), (0, s_X11_other_1 a1 a2), (0, F_X4_go 47 a3 (H_X4_copyFrom 47 1 h)), pU, pU, pU]) rfl rfl ?_
              refine WP.aload_n rfl rfl ⟨by decide, by decide⟩ ?_
              refine WP.getRF (b := 47) rfl rfl rfl ?_
              refine WP.getRF (b := 65) rfl rfl rfl ?_
              refine WP.getJ rfl rfl ?_
              refine WP.lstore (L' := [(13, 0), (0, a1), (0, a2), (0, a3), (0, a4), (0, s_X11_other_1 a1 a2), (0, F_X4_go 47 a3 (H_X4_copyFrom 47 1 h)), (1, (H_X4_go 47 a3 (H_X4_copyFrom 47 1 h)) 65 8), pU, pU]) rfl rfl ?_
              refine WP.aload_n rfl rfl ⟨by decide, by decide⟩ ?_
              refine WP.getRF (b := 47) rfl rfl rfl ?_
              refine WP.aload_n rfl rfl ⟨by decide, by decide⟩ ?_
              refine WP.getRF (b := 1) rfl rfl rfl ?_
              refine WP.callF (c_X4_copyFrom 47 1 (H_X4_go 47 a3 (H_X4_copyFrom 47 1 h))) rfl rfl (pm_cok rfl rfl (Or.inr ⟨_, _, rfl⟩) rfl rfl) rfl rfl ?_
              show WP 121 (63, [(13, 0), (0, a1), (0, a2), (0, a3), (0, a4), (0, s_X11_other_1 a1 a2), (0, F_X4_go 47 a3 (H_X4_copyFrom 47 1 h)), (1, (H_X4_go 47 a3 (H_X4_copyFrom 47 1 h)) 65 8), pU, pU], [], H_X4_copyFrom 47 1 (H_X4_go 47 a3 (H_X4_copyFrom 47 1 h))) Q
              refine WP.aload_n rfl rfl ⟨by decide, by decide⟩ ?_
              refine WP.getRF (b := 47) rfl rfl rfl ?_
              refine WP.iload_n rfl rfl ?_
              refine WP.iload_n rfl rfl ?_
              refine WP.callF (c_X4_makeOther 47 a1 a2 (H_X4_copyFrom 47 1 (H_X4_go 47 a3 (H_X4_copyFrom 47 1 h))) o11) rfl rfl (pm_cok rfl rfl (Or.inr ⟨_, _, rfl⟩) rfl rfl) rfl rfl ?_
              show WP 121 (68, [(13, 0), (0, a1), (0, a2), (0, a3), (0, a4), (0, s_X11_other_1 a1 a2), (0, F_X4_go 47 a3 (H_X4_copyFrom 47 1 h)), (1, (H_X4_go 47 a3 (H_X4_copyFrom 47 1 h)) 65 8), pU, pU], [], s_X11_other_2 a1 a2 a3 h) Q
              refine WP.aload_n rfl rfl ⟨by decide, by decide⟩ ?_
              refine WP.getRF (b := 47) rfl rfl rfl ?_
              refine WP.iload_n rfl rfl ?_
              refine WP.callF (c_X4_go 47 a3 (s_X11_other_2 a1 a2 a3 h) o12) rfl rfl (pm_cok rfl rfl (Or.inr ⟨_, _, rfl⟩) rfl rfl) rfl rfl ?_
              show WP 121 (72, [(13, 0), (0, a1), (0, a2), (0, a3), (0, a4), (0, s_X11_other_1 a1 a2), (0, F_X4_go 47 a3 (H_X4_copyFrom 47 1 h)), (1, (H_X4_go 47 a3 (H_X4_copyFrom 47 1 h)) 65 8), pU, pU], [(0, F_X4_go 47 a3 (s_X11_other_2 a1 a2 a3 h))], H_X4_go 47 a3 (s_X11_other_2 a1 a2 a3 h)) Q
              refine WP.istore (L' := [(13, 0), (0, a1), (0, a2), (0, a3), (0, a4), (0, s_X11_other_1 a1 a2), (0, F_X4_go 47 a3 (H_X4_copyFrom 47 1 h)), (1, (H_X4_go 47 a3 (H_X4_copyFrom 47 1 h)) 65 8), pU, (0, F_X4_go 47 a3 (s_X11_other_2 a1 a2 a3 h))]) rfl rfl ?_
              refine WP.iload rfl rfl ?_
              have k13 : ∀ Q' : Option pV → pH → Prop, (WP 121 (86, [(13, 0), (0, a1), (0, a2), (0, a3), (0, a4), (0, s_X11_other_1 a1 a2), (0, F_X4_go 47 a3 (H_X4_copyFrom 47 1 h)), (1, (H_X4_go 47 a3 (H_X4_copyFrom 47 1 h)) 65 8), pU, (0, F_X4_go 47 a3 (s_X11_other_2 a1 a2 a3 h))], [(1, s_X11_other_3 a1 a2 a3 a4 h)], H_X4_go 47 a3 (s_X11_other_2 a1 a2 a3 h)) Q') → WP 121 (74, [(13, 0), (0, a1), (0, a2), (0, a3), (0, a4), (0, s_X11_other_1 a1 a2), (0, F_X4_go 47 a3 (H_X4_copyFrom 47 1 h)), (1, (H_X4_go 47 a3 (H_X4_copyFrom 47 1 h)) 65 8), pU, (0, F_X4_go 47 a3 (s_X11_other_2 a1 a2 a3 h))], [(0, a4)], H_X4_go 47 a3 (s_X11_other_2 a1 a2 a3 h)) Q' := fun Q' kk => by
                have q16 := q18
                refine WP.nz_ne rfl (fun c14 => ?_) (fun c14 => ?_)
                · refine WP.aload_n rfl rfl ⟨by decide, by decide⟩ ?_
                  refine WP.getRF (b := 47) rfl rfl rfl ?_
                  refine WP.getRF (b := 65) rfl rfl rfl ?_
                  refine WP.getJ rfl rfl ?_
                  refine WP.lload rfl rfl ?_
                  refine WP.lsub rfl ?_
                  have e := kk; simp only [s_X11_other_3, if_neg (c14)] at e ⊢; exact e
                · have o15 := q16 c14
                  refine WP.iload rfl rfl ?_
                  refine WP.iload rfl rfl ?_
                  refine WP.isubE rfl o15 ?_
                  refine WP.i2l rfl ?_
                  refine WP.goto rfl ?_
                  have e := kk; simp only [s_X11_other_3, if_pos c14] at e ⊢; exact e
              refine k13 _ ?_
              refine WP.retl rfl ?_; have e := kk; simp only [F_X11_other, H_X11_other, if_pos c4, if_neg (c5), if_pos c6, if_pos c7, if_pos c8, if_pos c9] at e ⊢; exact e
            · refine WP.ldc2_w rfl ?_
              refine WP.retl rfl ?_; have e := kk; simp only [F_X11_other, H_X11_other, if_pos c4, if_neg (c5), if_pos c6, if_pos c7, if_pos c8, if_neg (c9)] at e ⊢; exact e
        · refine WP.ldc2_w rfl ?_
          refine WP.retl rfl ?_; have e := kk; simp only [F_X11_other, H_X11_other, if_pos c4, if_neg (c5), if_pos c6, if_neg (c7)] at e ⊢; exact e
theorem c_X11_other (a1 : Int) (a2 : Int) (a3 : Int) (a4 : Int) (h : pH) (hp : P_X11_other a1 a2 a3 a4 h) : CP 121 [(13, 0), (0, a1), (0, a2), (0, a3), (0, a4)] h (fun r h1 => r = some (1, F_X11_other a1 a2 a3 a4 h) ∧ h1 = H_X11_other a1 a2 a3 a4 h) := w_X11_other a1 a2 a3 a4 h hp ⟨rfl, rfl⟩
noncomputable def s_X11_brokenInDrill_1 (a1 : Int) (h : pH) : pH := pm_upd (H_X4_copyFrom 47 1 h) 48 5 ((H_X4_copyFrom 47 1 h) 97 a1)
noncomputable def s_X11_brokenInDrill_2 (a1 : Int) (h : pH) : pH := pm_upd (s_X11_brokenInDrill_1 a1 h) 65 2 ((s_X11_brokenInDrill_1 a1 h) 98 a1)
noncomputable def s_X11_brokenInDrill_3 (a1 : Int) (h : pH) : pH := H_X4_go 47 ((s_X11_brokenInDrill_2 a1 h) 96 a1) (s_X11_brokenInDrill_2 a1 h)
noncomputable def s_X11_brokenInDrill_4 (a1 : Int) (h : pH) : pH := pm_upd (s_X11_brokenInDrill_3 a1 h) 48 5 ((s_X11_brokenInDrill_3 a1 h) 2 5)
noncomputable def s_X11_brokenInDrill_5 (a1 : Int) (h : pH) : pH := pm_upd (s_X11_brokenInDrill_4 a1 h) 65 2 ((s_X11_brokenInDrill_4 a1 h) 19 2)
noncomputable def F_X11_brokenInDrill (a1 : Int) (h : pH) : Int := (F_X4_go 47 ((s_X11_brokenInDrill_2 a1 h) 96 a1) (s_X11_brokenInDrill_2 a1 h)) + (F_X4_go 47 5 (s_X11_brokenInDrill_5 a1 h))
noncomputable def H_X11_brokenInDrill (a1 : Int) (h : pH) : pH := H_X4_go 47 5 (s_X11_brokenInDrill_5 a1 h)
noncomputable def P_X11_brokenInDrill (a1 : Int) (h : pH) : Prop := (0 ≤ a1 ∧ a1 < 4) ∧ (P_X4_go 47 ((s_X11_brokenInDrill_2 a1 h) 96 a1) (s_X11_brokenInDrill_2 a1 h)) ∧ (P_X4_go 47 5 (s_X11_brokenInDrill_5 a1 h)) ∧ (fx_i ((F_X4_go 47 ((s_X11_brokenInDrill_2 a1 h) 96 a1) (s_X11_brokenInDrill_2 a1 h)) + (F_X4_go 47 5 (s_X11_brokenInDrill_5 a1 h))))
set_option maxHeartbeats 4000000 in
theorem w_X11_brokenInDrill (a1 : Int) (h : pH) {Q : Option pV → pH → Prop} (hp : P_X11_brokenInDrill a1 h) (kk : Q (some (0, F_X11_brokenInDrill a1 h)) (H_X11_brokenInDrill a1 h)) : WP 125 (0, [(13, 0), (0, a1), pU], [], h) Q := by
  unfold P_X11_brokenInDrill at hp
  obtain ⟨o1, o2, o3, o4⟩ := hp
  refine WP.aload_n rfl rfl ⟨by decide, by decide⟩ ?_
  refine WP.getRF (b := 47) rfl rfl rfl ?_
  refine WP.aload_n rfl rfl ⟨by decide, by decide⟩ ?_
  refine WP.getRF (b := 1) rfl rfl rfl ?_
  refine WP.callF (c_X4_copyFrom 47 1 h) rfl rfl (pm_cok rfl rfl (Or.inr ⟨_, _, rfl⟩) rfl rfl) rfl rfl ?_
  show WP 125 (5, [(13, 0), (0, a1), pU], [], H_X4_copyFrom 47 1 h) Q
  refine WP.aload_n rfl rfl ⟨by decide, by decide⟩ ?_
  refine WP.getRF (b := 47) rfl rfl rfl ?_
  refine WP.getRF (b := 48) rfl rfl rfl ?_
  refine WP.aload_n rfl rfl ⟨by decide, by decide⟩ ?_
  refine WP.getRF (b := 95) rfl rfl rfl ?_
  refine WP.getRF (b := 97) rfl rfl rfl ?_
  refine WP.iload_n rfl rfl ?_
  refine WP.iaload rfl ⟨by decide, by decide, by decide⟩ o1 ?_
  refine WP.putI rfl rfl ?_
  show WP 125 (14, [(13, 0), (0, a1), pU], [], s_X11_brokenInDrill_1 a1 h) Q
  refine WP.aload_n rfl rfl ⟨by decide, by decide⟩ ?_
  refine WP.getRF (b := 47) rfl rfl rfl ?_
  refine WP.getRF (b := 65) rfl rfl rfl ?_
  refine WP.aload_n rfl rfl ⟨by decide, by decide⟩ ?_
  refine WP.getRF (b := 95) rfl rfl rfl ?_
  refine WP.getRF (b := 98) rfl rfl rfl ?_
  refine WP.iload_n rfl rfl ?_
  refine WP.iaload rfl ⟨by decide, by decide, by decide⟩ o1 ?_
  refine WP.putI rfl rfl ?_
  show WP 125 (23, [(13, 0), (0, a1), pU], [], s_X11_brokenInDrill_2 a1 h) Q
  refine WP.aload_n rfl rfl ⟨by decide, by decide⟩ ?_
  refine WP.getRF (b := 47) rfl rfl rfl ?_
  refine WP.aload_n rfl rfl ⟨by decide, by decide⟩ ?_
  refine WP.getRF (b := 95) rfl rfl rfl ?_
  refine WP.getRF (b := 96) rfl rfl rfl ?_
  refine WP.iload_n rfl rfl ?_
  refine WP.iaload rfl ⟨by decide, by decide, by decide⟩ o1 ?_
  refine WP.callF (c_X4_go 47 ((s_X11_brokenInDrill_2 a1 h) 96 a1) (s_X11_brokenInDrill_2 a1 h) o2) rfl rfl (pm_cok rfl rfl (Or.inr ⟨_, _, rfl⟩) rfl rfl) rfl rfl ?_
  show WP 125 (31, [(13, 0), (0, a1), pU], [(0, F_X4_go 47 ((s_X11_brokenInDrill_2 a1 h) 96 a1) (s_X11_brokenInDrill_2 a1 h))], s_X11_brokenInDrill_3 a1 h) Q
  refine WP.istore_n (L' := [(13, 0), (0, a1), (0, F_X4_go 47 ((s_X11_brokenInDrill_2 a1 h) 96 a1) (s_X11_brokenInDrill_2 a1 h))]) rfl rfl ?_
  refine WP.aload_n rfl rfl ⟨by decide, by decide⟩ ?_
  refine WP.getRF (b := 47) rfl rfl rfl ?_
  refine WP.getRF (b := 48) rfl rfl rfl ?_
  refine WP.aload_n rfl rfl ⟨by decide, by decide⟩ ?_
  refine WP.getRF (b := 1) rfl rfl rfl ?_
  refine WP.getRF (b := 2) rfl rfl rfl ?_
  refine WP.getI rfl rfl ?_
  refine WP.putI rfl rfl ?_
  show WP 125 (40, [(13, 0), (0, a1), (0, F_X4_go 47 ((s_X11_brokenInDrill_2 a1 h) 96 a1) (s_X11_brokenInDrill_2 a1 h))], [], s_X11_brokenInDrill_4 a1 h) Q
  refine WP.aload_n rfl rfl ⟨by decide, by decide⟩ ?_
  refine WP.getRF (b := 47) rfl rfl rfl ?_
  refine WP.getRF (b := 65) rfl rfl rfl ?_
  refine WP.aload_n rfl rfl ⟨by decide, by decide⟩ ?_
  refine WP.getRF (b := 1) rfl rfl rfl ?_
  refine WP.getRF (b := 19) rfl rfl rfl ?_
  refine WP.getI rfl rfl ?_
  refine WP.putI rfl rfl ?_
  show WP 125 (48, [(13, 0), (0, a1), (0, F_X4_go 47 ((s_X11_brokenInDrill_2 a1 h) 96 a1) (s_X11_brokenInDrill_2 a1 h))], [], s_X11_brokenInDrill_5 a1 h) Q
  refine WP.iload_n rfl rfl ?_
  refine WP.aload_n rfl rfl ⟨by decide, by decide⟩ ?_
  refine WP.getRF (b := 47) rfl rfl rfl ?_
  refine WP.iconst rfl ?_
  refine WP.callF (c_X4_go 47 5 (s_X11_brokenInDrill_5 a1 h) o3) rfl rfl (pm_cok rfl rfl (Or.inr ⟨_, _, rfl⟩) rfl rfl) rfl rfl ?_
  show WP 125 (53, [(13, 0), (0, a1), (0, F_X4_go 47 ((s_X11_brokenInDrill_2 a1 h) 96 a1) (s_X11_brokenInDrill_2 a1 h))], [(0, F_X4_go 47 5 (s_X11_brokenInDrill_5 a1 h)), (0, F_X4_go 47 ((s_X11_brokenInDrill_2 a1 h) 96 a1) (s_X11_brokenInDrill_2 a1 h))], H_X4_go 47 5 (s_X11_brokenInDrill_5 a1 h)) Q
  refine WP.iaddE rfl o4 ?_
  refine WP.reti rfl ?_; exact kk
theorem c_X11_brokenInDrill (a1 : Int) (h : pH) (hp : P_X11_brokenInDrill a1 h) : CP 125 [(13, 0), (0, a1)] h (fun r h1 => r = some (0, F_X11_brokenInDrill a1 h) ∧ h1 = H_X11_brokenInDrill a1 h) := w_X11_brokenInDrill a1 h hp ⟨rfl, rfl⟩
noncomputable def F_X12_fault (h : pH) : Int := (H_X12_workRules h) 248 12
noncomputable def H_X12_fault (h : pH) : pH := H_X12_workRules h
noncomputable def P_X12_fault (h : pH) : Prop := P_X12_workRules h
set_option maxHeartbeats 4000000 in
theorem w_X12_fault (h : pH) {Q : Option pV → pH → Prop} (hp : P_X12_fault h) (kk : Q (some (0, F_X12_fault h)) (H_X12_fault h)) : WP 175 (0, [(14, 248)], [], h) Q := by
  unfold P_X12_fault at hp
  have o1 := hp
  refine WP.aload_n rfl rfl ⟨by decide, by decide⟩ ?_
  refine WP.callF (c_X12_workRules h o1) rfl rfl (pm_cok rfl rfl (Or.inr ⟨_, _, rfl⟩) rfl rfl) rfl rfl ?_
  show WP 175 (2, [(14, 248)], [], H_X12_workRules h) Q
  refine WP.aload_n rfl rfl ⟨by decide, by decide⟩ ?_
  refine WP.getI rfl rfl ?_
  refine WP.reti rfl ?_; exact kk
theorem c_X12_fault (h : pH) (hp : P_X12_fault h) : CP 175 [(14, 248)] h (fun r h1 => r = some (0, F_X12_fault h) ∧ h1 = H_X12_fault h) := w_X12_fault h hp ⟨rfl, rfl⟩
noncomputable def s_X12_minute_1 (h : pH) : Int := if (H_X12_workRules h) 248 12 = (-1) then (H_X12_workRules h) 248 11 else 3
noncomputable def s_X12_minute_2 (h : pH) : Int := if 0 ≤ s_X12_minute_1 h then s_X12_less_1 (s_X12_minute_1 h) 3 else 0
noncomputable def s_X12_minute_3 (x3 : Int) (h : pH) : pH := pm_upd (pm_upd h 260 x3 (h 249 (20 + x3))) 261 x3 (s_X12_gauge_1 x3 (pm_upd h 260 x3 (h 249 (20 + x3))))
def C_X12_minute_26 (x3 : Int) (h : pH) : Prop := x3 < 12
noncomputable def B_X12_minute_26 (x3 : Int) (h : pH) : Int × pH := (x3 + 1, s_X12_minute_3 x3 h)
noncomputable def P_X12_minute_26 (x3 : Int) (h : pH) : Prop := ((x3 < 12) → (fx_i (20 + x3)) ∧ (0 ≤ 20 + x3 ∧ 20 + x3 < 620) ∧ (0 ≤ x3 ∧ x3 < 12) ∧ (P_X12_gauge x3 (pm_upd h 260 x3 (h 249 (20 + x3)))) ∧ (fx_i (x3 + 1)))
noncomputable def L_X12_minute_26 (x3 : Int) (h : pH) : Int × pH := fx_wh (σ := Int × pH) (fun s => C_X12_minute_26 s.1 s.2) (fun s => B_X12_minute_26 s.1 s.2) (x3, h)
def O_X12_minute_26 (x3 : Int) (h : pH) : Prop := fx_ok (σ := Int × pH) (fun s => C_X12_minute_26 s.1 s.2) (fun s => B_X12_minute_26 s.1 s.2) (fun s => P_X12_minute_26 s.1 s.2) (x3, h)
set_option maxHeartbeats 4000000 in
theorem lp_X12_minute_26 (x3 : Int) (h : pH) {Q : Option pV → pH → Prop} (hp : O_X12_minute_26 x3 h) (kk : ∀ us : List pV, WP 192 (48, [(14, 248), us.getD 0 pU, us.getD 1 pU, (0, (L_X12_minute_26 x3 h).1), us.getD 2 pU, us.getD 3 pU, us.getD 4 pU], [], (L_X12_minute_26 x3 h).2) Q) : ∀ us : List pV, WP 192 (26, [(14, 248), us.getD 0 pU, us.getD 1 pU, (0, x3), us.getD 2 pU, us.getD 3 pU, us.getD 4 pU], [], h) Q := by
  refine WP.wh (σ := Int × pH) (fun s => C_X12_minute_26 s.1 s.2) (fun s => B_X12_minute_26 s.1 s.2) (fun s => P_X12_minute_26 s.1 s.2) (fun s us => (26, [(14, 248), us.getD 0 pU, us.getD 1 pU, (0, s.1), us.getD 2 pU, us.getD 3 pU, us.getD 4 pU], [], s.2)) (x3, h) hp ?_ ?_
  · intro s us hP hc kk
    obtain ⟨x3, h⟩ := s
    change P_X12_minute_26 x3 h at hP
    change x3 < 12 at hc
    replace kk : ∀ (us' : List pV) (s' : Int × pH), s' = B_X12_minute_26 x3 h → WP 192 (26, [(14, 248), us'.getD 0 pU, us'.getD 1 pU, (0, s'.1), us'.getD 2 pU, us'.getD 3 pU, us'.getD 4 pU], [], s'.2) Q := fun us' s' e => by subst e; exact kk us'
    unfold P_X12_minute_26 at hP
    obtain ⟨o10, o11, o12, o13, o14⟩ := hP hc
    show WP 192 (26, [(14, 248), us.getD 0 pU, us.getD 1 pU, (0, x3), us.getD 2 pU, us.getD 3 pU, us.getD 4 pU], [], h) Q
    refine WP.iload_n rfl rfl ?_
    refine WP.bipush rfl ?_
    refine WP.ni_ge rfl (fun c9 => ?_) (fun c9 => ?_)
    · exact absurd hc (Int.not_lt.mpr c9)
    · refine WP.aload_n rfl rfl ⟨by decide, by decide⟩ ?_
      refine WP.getRF (b := 260) rfl rfl rfl ?_
      refine WP.iload_n rfl rfl ?_
      refine WP.aload_n rfl rfl ⟨by decide, by decide⟩ ?_
      refine WP.getRF (b := 249) rfl rfl rfl ?_
      refine WP.bipush rfl ?_
      refine WP.iload_n rfl rfl ?_
      refine WP.iaddE rfl o10 ?_
      refine WP.laload rfl ⟨by decide, by decide, by decide⟩ o11 ?_
      refine WP.lastore rfl ⟨by decide, by decide, by decide⟩ o12 ?_
      refine WP.aload_n rfl rfl ⟨by decide, by decide⟩ ?_
      refine WP.getRF (b := 261) rfl rfl rfl ?_
      refine WP.iload_n rfl rfl ?_
      refine WP.aload_n rfl rfl ⟨by decide, by decide⟩ ?_
      refine WP.iload_n rfl rfl ?_
      refine WP.callF (c_X12_gauge x3 (pm_upd h 260 x3 (h 249 (20 + x3))) o13) rfl rfl (pm_cok rfl rfl (Or.inr ⟨_, _, rfl⟩) rfl rfl) rfl rfl ?_
      show WP 192 (45, [(14, 248), us.getD 0 pU, us.getD 1 pU, (0, x3), us.getD 2 pU, us.getD 3 pU, us.getD 4 pU], [(1, s_X12_gauge_1 x3 (pm_upd h 260 x3 (h 249 (20 + x3)))), (0, x3), (1049, 261)], pm_upd h 260 x3 (h 249 (20 + x3))) Q
      refine WP.lastore rfl ⟨by decide, by decide, by decide⟩ o12 ?_
      show WP 192 (46, [(14, 248), us.getD 0 pU, us.getD 1 pU, (0, x3), us.getD 2 pU, us.getD 3 pU, us.getD 4 pU], [], s_X12_minute_3 x3 h) Q
      refine WP.iincE (L' := [(14, 248), us.getD 0 pU, if (us.getD 1 pU).1 = 1 then pU else us.getD 1 pU, (0, x3 + 1), us.getD 2 pU, us.getD 3 pU, us.getD 4 pU]) rfl rfl o14 rfl ?_
      refine WP.goto rfl ?_
      exact kk [us.getD 0 pU, if (us.getD 1 pU).1 = 1 then pU else us.getD 1 pU, us.getD 2 pU, us.getD 3 pU, us.getD 4 pU] (x3 + 1, s_X12_minute_3 x3 h) (rfl)
  · intro hP hc
    generalize hs : (L_X12_minute_26 x3 h : Int × pH) = s at kk
    change P_X12_minute_26 (L_X12_minute_26 x3 h).1 (L_X12_minute_26 x3 h).2 at hP
    change ¬ C_X12_minute_26 (L_X12_minute_26 x3 h).1 (L_X12_minute_26 x3 h).2 at hc
    intro us
    show WP 192 (26, [(14, 248), us.getD 0 pU, us.getD 1 pU, (0, (L_X12_minute_26 x3 h).1), us.getD 2 pU, us.getD 3 pU, us.getD 4 pU], [], (L_X12_minute_26 x3 h).2) Q
    rw [hs] at hP hc ⊢
    obtain ⟨x3, h⟩ := s
    change P_X12_minute_26 x3 h at hP
    change ¬ (x3 < 12) at hc
    unfold P_X12_minute_26 at hP
    show WP 192 (26, [(14, 248), us.getD 0 pU, us.getD 1 pU, (0, x3), us.getD 2 pU, us.getD 3 pU, us.getD 4 pU], [], h) Q
    refine WP.iload_n rfl rfl ?_
    refine WP.bipush rfl ?_
    refine WP.ni_ge rfl (fun c8 => ?_) (fun c8 => ?_)
    · exact kk [us.getD 0 pU, us.getD 1 pU, us.getD 2 pU, us.getD 3 pU, us.getD 4 pU]
    · exact absurd (show x3 < 12 from c8) hc
noncomputable def s_X12_minute_4 (h : pH) : Int := (L_X12_minute_26 0 (pm_upd (H_X12_workRules h) 249 16 (s_X12_minute_2 h))).1
noncomputable def s_X12_minute_5 (h : pH) : pH := (L_X12_minute_26 0 (pm_upd (H_X12_workRules h) 249 16 (s_X12_minute_2 h))).2
def C_X12_minute_50 (x3 : Int) (h : pH) : Prop := x3 < h 249 12
noncomputable def B_X12_minute_50 (x3 : Int) (h : pH) : Int × pH := (x3 + 1, pm_upd (pm_upd h 249 (154 + x3) (-1)) 249 (164 + x3) 0)
noncomputable def P_X12_minute_50 (x3 : Int) (h : pH) : Prop := ((x3 < h 249 12) → (fx_i (154 + x3)) ∧ (0 ≤ 154 + x3 ∧ 154 + x3 < 620) ∧ (fx_i (164 + x3)) ∧ (0 ≤ 164 + x3 ∧ 164 + x3 < 620) ∧ (fx_i (x3 + 1)))
noncomputable def L_X12_minute_50 (x3 : Int) (h : pH) : Int × pH := fx_wh (σ := Int × pH) (fun s => C_X12_minute_50 s.1 s.2) (fun s => B_X12_minute_50 s.1 s.2) (x3, h)
def O_X12_minute_50 (x3 : Int) (h : pH) : Prop := fx_ok (σ := Int × pH) (fun s => C_X12_minute_50 s.1 s.2) (fun s => B_X12_minute_50 s.1 s.2) (fun s => P_X12_minute_50 s.1 s.2) (x3, h)
set_option maxHeartbeats 4000000 in
theorem lp_X12_minute_50 (x3 : Int) (h : pH) {Q : Option pV → pH → Prop} (hp : O_X12_minute_50 x3 h) (kk : ∀ us : List pV, WP 192 (74, [(14, 248), us.getD 0 pU, us.getD 1 pU, (0, (L_X12_minute_50 x3 h).1), us.getD 2 pU, us.getD 3 pU, us.getD 4 pU], [], (L_X12_minute_50 x3 h).2) Q) : ∀ us : List pV, WP 192 (50, [(14, 248), us.getD 0 pU, us.getD 1 pU, (0, x3), us.getD 2 pU, us.getD 3 pU, us.getD 4 pU], [], h) Q := by
  refine WP.wh (σ := Int × pH) (fun s => C_X12_minute_50 s.1 s.2) (fun s => B_X12_minute_50 s.1 s.2) (fun s => P_X12_minute_50 s.1 s.2) (fun s us => (50, [(14, 248), us.getD 0 pU, us.getD 1 pU, (0, s.1), us.getD 2 pU, us.getD 3 pU, us.getD 4 pU], [], s.2)) (x3, h) hp ?_ ?_
  · intro s us hP hc kk
    obtain ⟨x3, h⟩ := s
    change P_X12_minute_50 x3 h at hP
    change x3 < h 249 12 at hc
    replace kk : ∀ (us' : List pV) (s' : Int × pH), s' = B_X12_minute_50 x3 h → WP 192 (50, [(14, 248), us'.getD 0 pU, us'.getD 1 pU, (0, s'.1), us'.getD 2 pU, us'.getD 3 pU, us'.getD 4 pU], [], s'.2) Q := fun us' s' e => by subst e; exact kk us'
    unfold P_X12_minute_50 at hP
    obtain ⟨o19, o20, o21, o22, o23⟩ := hP hc
    show WP 192 (50, [(14, 248), us.getD 0 pU, us.getD 1 pU, (0, x3), us.getD 2 pU, us.getD 3 pU, us.getD 4 pU], [], h) Q
    refine WP.iload_n rfl rfl ?_
    refine WP.i2l rfl ?_
    refine WP.aload_n rfl rfl ⟨by decide, by decide⟩ ?_
    refine WP.getRF (b := 249) rfl rfl rfl ?_
    refine WP.bipush rfl ?_
    refine WP.laload rfl ⟨by decide, by decide, by decide⟩ (by decide) ?_
    refine WP.lcmp rfl ?_
    refine WP.nl_ge rfl (fun c18 => ?_) (fun c18 => ?_)
    · exact absurd hc (Int.not_lt.mpr c18)
    · refine WP.aload_n rfl rfl ⟨by decide, by decide⟩ ?_
      refine WP.getRF (b := 249) rfl rfl rfl ?_
      refine WP.sipush rfl ?_
      refine WP.iload_n rfl rfl ?_
      refine WP.iaddE rfl o19 ?_
      refine WP.ldc2_w rfl ?_
      refine WP.lastore rfl ⟨by decide, by decide, by decide⟩ o20 ?_
      refine WP.aload_n rfl rfl ⟨by decide, by decide⟩ ?_
      refine WP.getRF (b := 249) rfl rfl rfl ?_
      refine WP.sipush rfl ?_
      refine WP.iload_n rfl rfl ?_
      refine WP.iaddE rfl o21 ?_
      refine WP.lconst rfl ?_
      refine WP.lastore rfl ⟨by decide, by decide, by decide⟩ o22 ?_
      refine WP.iincE (L' := [(14, 248), us.getD 0 pU, if (us.getD 1 pU).1 = 1 then pU else us.getD 1 pU, (0, x3 + 1), us.getD 2 pU, us.getD 3 pU, us.getD 4 pU]) rfl rfl o23 rfl ?_
      refine WP.goto rfl ?_
      exact kk [us.getD 0 pU, if (us.getD 1 pU).1 = 1 then pU else us.getD 1 pU, us.getD 2 pU, us.getD 3 pU, us.getD 4 pU] (x3 + 1, pm_upd (pm_upd h 249 (154 + x3) (-1)) 249 (164 + x3) 0) (rfl)
  · intro hP hc
    generalize hs : (L_X12_minute_50 x3 h : Int × pH) = s at kk
    change P_X12_minute_50 (L_X12_minute_50 x3 h).1 (L_X12_minute_50 x3 h).2 at hP
    change ¬ C_X12_minute_50 (L_X12_minute_50 x3 h).1 (L_X12_minute_50 x3 h).2 at hc
    intro us
    show WP 192 (50, [(14, 248), us.getD 0 pU, us.getD 1 pU, (0, (L_X12_minute_50 x3 h).1), us.getD 2 pU, us.getD 3 pU, us.getD 4 pU], [], (L_X12_minute_50 x3 h).2) Q
    rw [hs] at hP hc ⊢
    obtain ⟨x3, h⟩ := s
    change P_X12_minute_50 x3 h at hP
    change ¬ (x3 < h 249 12) at hc
    unfold P_X12_minute_50 at hP
    show WP 192 (50, [(14, 248), us.getD 0 pU, us.getD 1 pU, (0, x3), us.getD 2 pU, us.getD 3 pU, us.getD 4 pU], [], h) Q
    refine WP.iload_n rfl rfl ?_
    refine WP.i2l rfl ?_
    refine WP.aload_n rfl rfl ⟨by decide, by decide⟩ ?_
    refine WP.getRF (b := 249) rfl rfl rfl ?_
    refine WP.bipush rfl ?_
    refine WP.laload rfl ⟨by decide, by decide, by decide⟩ (by decide) ?_
    refine WP.lcmp rfl ?_
    refine WP.nl_ge rfl (fun c17 => ?_) (fun c17 => ?_)
    · exact kk [us.getD 0 pU, us.getD 1 pU, us.getD 2 pU, us.getD 3 pU, us.getD 4 pU]
    · exact absurd (show x3 < h 249 12 from c17) hc
noncomputable def s_X12_minute_6 (h : pH) : Int := (L_X12_minute_50 0 (s_X12_minute_5 h)).1
noncomputable def s_X12_minute_7 (h : pH) : pH := (L_X12_minute_50 0 (s_X12_minute_5 h)).2
noncomputable def s_X12_minute_8 (x3 : Int) (h : pH) : pH := pm_upd h 263 (h 258 x3) (if h 249 (328 + (h 258 x3)) = 0 ∧ (h 249 (200 + (h 258 x3)) = 0 ∨ ((h 249 (248 + (h 258 x3))) ≤ (h 249 15) ∧ (h 249 15) ≤ (h 249 (264 + (h 258 x3))))) then 1 else 0)
noncomputable def s_X12_minute_9 (x3 : Int) (h : pH) : pH := pm_upd (pm_upd (s_X12_minute_8 x3 h) 259 (h 258 x3) 0) 249 (344 + (h 258 x3)) (-1)
noncomputable def s_X12_minute_10 (x3 : Int) (h : pH) : pH := if (s_X12_minute_9 x3 h) 263 (h 258 x3) = 0 then s_X12_minute_9 x3 h else H_X12_place (h 258 x3) (s_X12_minute_9 x3 h)
def C_X12_minute_78 (x3 : Int) (h : pH) : Prop := x3 < h 249 13
noncomputable def B_X12_minute_78 (x3 : Int) (h : pH) : Int × pH := (x3 + 1, s_X12_minute_10 x3 h)
noncomputable def P_X12_minute_78 (x3 : Int) (h : pH) : Prop := ((x3 < h 249 13) → (0 ≤ x3 ∧ x3 < 16) ∧ (P_X12_isOpen (h 258 x3) h) ∧ (0 ≤ h 258 x3 ∧ h 258 x3 < 16) ∧ (fx_i (344 + (h 258 x3))) ∧ (0 ≤ 344 + (h 258 x3) ∧ 344 + (h 258 x3) < 620) ∧ (((¬ (s_X12_minute_9 x3 h) 263 (h 258 x3) = 0) → ((P_X12_place (h 258 x3) (s_X12_minute_9 x3 h))))) ∧ (fx_i (x3 + 1)))
noncomputable def L_X12_minute_78 (x3 : Int) (h : pH) : Int × pH := fx_wh (σ := Int × pH) (fun s => C_X12_minute_78 s.1 s.2) (fun s => B_X12_minute_78 s.1 s.2) (x3, h)
def O_X12_minute_78 (x3 : Int) (h : pH) : Prop := fx_ok (σ := Int × pH) (fun s => C_X12_minute_78 s.1 s.2) (fun s => B_X12_minute_78 s.1 s.2) (fun s => P_X12_minute_78 s.1 s.2) (x3, h)
set_option maxHeartbeats 4000000 in
theorem lp_X12_minute_78 (x3 : Int) (h : pH) {Q : Option pV → pH → Prop} (hp : O_X12_minute_78 x3 h) (kk : ∀ us : List pV, WP 192 (120, [(14, 248), us.getD 0 pU, us.getD 1 pU, (0, (L_X12_minute_78 x3 h).1), us.getD 2 pU, us.getD 3 pU, us.getD 4 pU], [], (L_X12_minute_78 x3 h).2) Q) : ∀ us : List pV, WP 192 (78, [(14, 248), us.getD 0 pU, us.getD 1 pU, (0, x3), us.getD 2 pU, us.getD 3 pU, us.getD 4 pU], [], h) Q := by
  refine WP.wh (σ := Int × pH) (fun s => C_X12_minute_78 s.1 s.2) (fun s => B_X12_minute_78 s.1 s.2) (fun s => P_X12_minute_78 s.1 s.2) (fun s us => (78, [(14, 248), us.getD 0 pU, us.getD 1 pU, (0, s.1), us.getD 2 pU, us.getD 3 pU, us.getD 4 pU], [], s.2)) (x3, h) hp ?_ ?_
  · intro s us hP hc kk
    obtain ⟨x3, h⟩ := s
    change P_X12_minute_78 x3 h at hP
    change x3 < h 249 13 at hc
    replace kk : ∀ (us' : List pV) (s' : Int × pH), s' = B_X12_minute_78 x3 h → WP 192 (78, [(14, 248), us'.getD 0 pU, us'.getD 1 pU, (0, s'.1), us'.getD 2 pU, us'.getD 3 pU, us'.getD 4 pU], [], s'.2) Q := fun us' s' e => by subst e; exact kk us'
    unfold P_X12_minute_78 at hP
    obtain ⟨o29, o30, o31, o32, o33, q39, o40⟩ := hP hc
    show WP 192 (78, [(14, 248), us.getD 0 pU, us.getD 1 pU, (0, x3), us.getD 2 pU, us.getD 3 pU, us.getD 4 pU], [], h) Q
    refine WP.iload_n rfl rfl ?_
    refine WP.i2l rfl ?_
    refine WP.aload_n rfl rfl ⟨by decide, by decide⟩ ?_
    refine WP.getRF (b := 249) rfl rfl rfl ?_
    refine WP.bipush rfl ?_
    refine WP.laload rfl ⟨by decide, by decide, by decide⟩ (by decide) ?_
    refine WP.lcmp rfl ?_
    refine WP.nl_ge rfl (fun c28 => ?_) (fun c28 => ?_)
    · exact absurd hc (Int.not_lt.mpr c28)
    · refine WP.aload_n rfl rfl ⟨by decide, by decide⟩ ?_
      refine WP.getRF (b := 258) rfl rfl rfl ?_
      refine WP.iload_n rfl rfl ?_
      refine WP.iaload rfl ⟨by decide, by decide, by decide⟩ o29 ?_
      refine WP.istore (L' := [(14, 248), us.getD 0 pU, us.getD 1 pU, (0, x3), (0, h 258 x3), us.getD 3 pU, us.getD 4 pU]) rfl rfl ?_
      refine WP.aload_n rfl rfl ⟨by decide, by decide⟩ ?_
      refine WP.getRF (b := 263) rfl rfl rfl ?_
      refine WP.iload rfl rfl ?_
      refine WP.aload_n rfl rfl ⟨by decide, by decide⟩ ?_
      refine WP.iload rfl rfl ?_
      refine WP.callF (c_X12_isOpen (h 258 x3) h o30) rfl rfl (pm_cok rfl rfl (Or.inr ⟨_, _, rfl⟩) rfl rfl) rfl rfl ?_
      show WP 192 (97, [(14, 248), us.getD 0 pU, us.getD 1 pU, (0, x3), (0, h 258 x3), us.getD 3 pU, us.getD 4 pU], [(0, if h 249 (328 + (h 258 x3)) = 0 ∧ (h 249 (200 + (h 258 x3)) = 0 ∨ ((h 249 (248 + (h 258 x3))) ≤ (h 249 15) ∧ (h 249 15) ≤ (h 249 (264 + (h 258 x3))))) then 1 else 0), (0, h 258 x3), (1066, 263)], h) Q
      refine WP.bastore rfl ⟨by decide, by decide, by decide⟩ o31 (fx_01 _) ?_
      show WP 192 (98, [(14, 248), us.getD 0 pU, us.getD 1 pU, (0, x3), (0, h 258 x3), us.getD 3 pU, us.getD 4 pU], [], s_X12_minute_8 x3 h) Q
      refine WP.aload_n rfl rfl ⟨by decide, by decide⟩ ?_
      refine WP.getRF (b := 259) rfl rfl rfl ?_
      refine WP.iload rfl rfl ?_
      refine WP.iconst rfl ?_
      refine WP.iastore rfl ⟨by decide, by decide, by decide⟩ o31 ?_
      refine WP.aload_n rfl rfl ⟨by decide, by decide⟩ ?_
      refine WP.getRF (b := 249) rfl rfl rfl ?_
      refine WP.sipush rfl ?_
      refine WP.iload rfl rfl ?_
      refine WP.iaddE rfl o32 ?_
      refine WP.ldc2_w rfl ?_
      refine WP.lastore rfl ⟨by decide, by decide, by decide⟩ o33 ?_
      show WP 192 (110, [(14, 248), us.getD 0 pU, us.getD 1 pU, (0, x3), (0, h 258 x3), us.getD 3 pU, us.getD 4 pU], [], s_X12_minute_9 x3 h) Q
      refine WP.aload_n rfl rfl ⟨by decide, by decide⟩ ?_
      refine WP.getRF (b := 263) rfl rfl rfl ?_
      refine WP.iload rfl rfl ?_
      refine WP.baload rfl ⟨by decide, by decide, by decide⟩ o31 ?_
      have k34 : ∀ Q' : Option pV → pH → Prop, (WP 192 (118, [(14, 248), us.getD 0 pU, us.getD 1 pU, (0, x3), (0, h 258 x3), us.getD 3 pU, us.getD 4 pU], [], s_X12_minute_10 x3 h) Q') → WP 192 (114, [(14, 248), us.getD 0 pU, us.getD 1 pU, (0, x3), (0, h 258 x3), us.getD 3 pU, us.getD 4 pU], [(0, (s_X12_minute_9 x3 h) 263 (h 258 x3))], s_X12_minute_9 x3 h) Q' := fun Q' kk => by
        have q37 := q39
        refine WP.nz_eq rfl (fun c35 => ?_) (fun c35 => ?_)
        · have e := kk; simp only [s_X12_minute_10, if_pos c35] at e ⊢; exact e
        · have o36 := q37 c35
          refine WP.aload_n rfl rfl ⟨by decide, by decide⟩ ?_
          refine WP.iload rfl rfl ?_
          refine WP.callF (c_X12_place (h 258 x3) (s_X12_minute_9 x3 h) o36) rfl rfl (pm_cok rfl rfl (Or.inr ⟨_, _, rfl⟩) rfl rfl) rfl rfl ?_
          show WP 192 (118, [(14, 248), us.getD 0 pU, us.getD 1 pU, (0, x3), (0, h 258 x3), us.getD 3 pU, us.getD 4 pU], [], H_X12_place (h 258 x3) (s_X12_minute_9 x3 h)) Q'
          have e := kk; simp only [s_X12_minute_10, if_neg (c35)] at e ⊢; exact e
      refine k34 _ ?_
      refine WP.iincE (L' := [(14, 248), us.getD 0 pU, if (us.getD 1 pU).1 = 1 then pU else us.getD 1 pU, (0, x3 + 1), (0, h 258 x3), us.getD 3 pU, us.getD 4 pU]) rfl rfl o40 rfl ?_
      refine WP.goto rfl ?_
      exact kk [us.getD 0 pU, if (us.getD 1 pU).1 = 1 then pU else us.getD 1 pU, (0, h 258 x3), us.getD 3 pU, us.getD 4 pU] (x3 + 1, s_X12_minute_10 x3 h) (rfl)
  · intro hP hc
    generalize hs : (L_X12_minute_78 x3 h : Int × pH) = s at kk
    change P_X12_minute_78 (L_X12_minute_78 x3 h).1 (L_X12_minute_78 x3 h).2 at hP
    change ¬ C_X12_minute_78 (L_X12_minute_78 x3 h).1 (L_X12_minute_78 x3 h).2 at hc
    intro us
    show WP 192 (78, [(14, 248), us.getD 0 pU, us.getD 1 pU, (0, (L_X12_minute_78 x3 h).1), us.getD 2 pU, us.getD 3 pU, us.getD 4 pU], [], (L_X12_minute_78 x3 h).2) Q
    rw [hs] at hP hc ⊢
    obtain ⟨x3, h⟩ := s
    change P_X12_minute_78 x3 h at hP
    change ¬ (x3 < h 249 13) at hc
    unfold P_X12_minute_78 at hP
    show WP 192 (78, [(14, 248), us.getD 0 pU, us.getD 1 pU, (0, x3), us.getD 2 pU, us.getD 3 pU, us.getD 4 pU], [], h) Q
    refine WP.iload_n rfl rfl ?_
    refine WP.i2l rfl ?_
    refine WP.aload_n rfl rfl ⟨by decide, by decide⟩ ?_
    refine WP.getRF (b := 249) rfl rfl rfl ?_
    refine WP.bipush rfl ?_
    refine WP.laload rfl ⟨by decide, by decide, by decide⟩ (by decide) ?_
    refine WP.lcmp rfl ?_
    refine WP.nl_ge rfl (fun c27 => ?_) (fun c27 => ?_)
    · exact kk [us.getD 0 pU, us.getD 1 pU, us.getD 2 pU, us.getD 3 pU, us.getD 4 pU]
    · exact absurd (show x3 < h 249 13 from c27) hc
noncomputable def s_X12_minute_11 (h : pH) : Int := (L_X12_minute_78 0 (H_X12_findLine (s_X12_minute_7 h))).1
noncomputable def s_X12_minute_12 (h : pH) : pH := (L_X12_minute_78 0 (H_X12_findLine (s_X12_minute_7 h))).2
noncomputable def s_X12_minute_13 (x3 : Int) (h : pH) : Int := if h 261 (h 249 (84 + x3)) ≤ h 249 (114 + x3) then h 249 16 else s_X12_less_1 (h 249 16) 1
noncomputable def s_X12_minute_14 (x3 : Int) (h : pH) : Int := if h 249 (200 + (h 249 (154 + x3))) = 1 then s_X12_less_1 (s_X12_minute_13 x3 h) (h 249 (232 + (h 249 (154 + x3)))) else s_X12_minute_13 x3 h
noncomputable def s_X12_minute_15 (x3 : Int) (h : pH) : Int := if (pm_upd h 249 (164 + x3) (s_X12_minute_14 x3 h)) 249 16 = 0 then 2 else 0
noncomputable def s_X12_minute_16 (x3 : Int) (h : pH) : pH := pm_upd (pm_upd h 249 (164 + x3) (s_X12_minute_14 x3 h)) 259 (h 249 (154 + x3)) (s_X12_minute_15 x3 h)
def C_X12_minute_122 (x3 : Int) (h : pH) : Prop := x3 < h 249 12
noncomputable def B_X12_minute_122 (x3 : Int) (h : pH) : Int × pH := (x3 + 1, if h 249 (154 + x3) = (-1) then h else s_X12_minute_16 x3 h)
noncomputable def P_X12_minute_122 (x3 : Int) (h : pH) : Prop := ((x3 < h 249 12) → (fx_i (154 + x3)) ∧ (P_X12_at (154 + x3) h) ∧ (((¬ h 249 (154 + x3) = (-1)) → ((fx_i (84 + x3)) ∧ (P_X12_at (84 + x3) h) ∧ (0 ≤ h 249 (84 + x3) ∧ h 249 (84 + x3) < 12) ∧ (fx_i (114 + x3)) ∧ (0 ≤ 114 + x3 ∧ 114 + x3 < 620) ∧ (fx_i (164 + x3)) ∧ (fx_i (200 + (h 249 (154 + x3)))) ∧ (0 ≤ 200 + (h 249 (154 + x3)) ∧ 200 + (h 249 (154 + x3)) < 620) ∧ (((h 249 (200 + (h 249 (154 + x3))) = 1) → ((fx_i (232 + (h 249 (154 + x3)))) ∧ (0 ≤ 232 + (h 249 (154 + x3)) ∧ 232 + (h 249 (154 + x3)) < 620)))) ∧ (0 ≤ 164 + x3 ∧ 164 + x3 < 620) ∧ (0 ≤ h 249 (154 + x3) ∧ h 249 (154 + x3) < 16)))) ∧ (fx_i (x3 + 1)))
noncomputable def L_X12_minute_122 (x3 : Int) (h : pH) : Int × pH := fx_wh (σ := Int × pH) (fun s => C_X12_minute_122 s.1 s.2) (fun s => B_X12_minute_122 s.1 s.2) (x3, h)
def O_X12_minute_122 (x3 : Int) (h : pH) : Prop := fx_ok (σ := Int × pH) (fun s => C_X12_minute_122 s.1 s.2) (fun s => B_X12_minute_122 s.1 s.2) (fun s => P_X12_minute_122 s.1 s.2) (x3, h)
set_option maxHeartbeats 4000000 in
theorem lp_X12_minute_122 (x3 : Int) (h : pH) {Q : Option pV → pH → Prop} (hp : O_X12_minute_122 x3 h) (kk : ∀ us : List pV, WP 192 (208, [(14, 248), us.getD 0 pU, us.getD 1 pU, (0, (L_X12_minute_122 x3 h).1), us.getD 2 pU, us.getD 3 pU, us.getD 4 pU], [], (L_X12_minute_122 x3 h).2) Q) : ∀ us : List pV, WP 192 (122, [(14, 248), us.getD 0 pU, us.getD 1 pU, (0, x3), us.getD 2 pU, us.getD 3 pU, us.getD 4 pU], [], h) Q := by
  refine WP.wh (σ := Int × pH) (fun s => C_X12_minute_122 s.1 s.2) (fun s => B_X12_minute_122 s.1 s.2) (fun s => P_X12_minute_122 s.1 s.2) (fun s us => (122, [(14, 248), us.getD 0 pU, us.getD 1 pU, (0, s.1), us.getD 2 pU, us.getD 3 pU, us.getD 4 pU], [], s.2)) (x3, h) hp ?_ ?_
  · intro s us hP hc kk
    obtain ⟨x3, h⟩ := s
    change P_X12_minute_122 x3 h at hP
    change x3 < h 249 12 at hc
    replace kk : ∀ (us' : List pV) (s' : Int × pH), s' = B_X12_minute_122 x3 h → WP 192 (122, [(14, 248), us'.getD 0 pU, us'.getD 1 pU, (0, s'.1), us'.getD 2 pU, us'.getD 3 pU, us'.getD 4 pU], [], s'.2) Q := fun us' s' e => by subst e; exact kk us'
    unfold P_X12_minute_122 at hP
    obtain ⟨o45, o46, q74, o75⟩ := hP hc
    show WP 192 (122, [(14, 248), us.getD 0 pU, us.getD 1 pU, (0, x3), us.getD 2 pU, us.getD 3 pU, us.getD 4 pU], [], h) Q
    refine WP.iload_n rfl rfl ?_
    refine WP.i2l rfl ?_
    refine WP.aload_n rfl rfl ⟨by decide, by decide⟩ ?_
    refine WP.getRF (b := 249) rfl rfl rfl ?_
    refine WP.bipush rfl ?_
    refine WP.laload rfl ⟨by decide, by decide, by decide⟩ (by decide) ?_
    refine WP.lcmp rfl ?_
    refine WP.nl_ge rfl (fun c44 => ?_) (fun c44 => ?_)
    · exact absurd hc (Int.not_lt.mpr c44)
    · refine WP.aload_n rfl rfl ⟨by decide, by decide⟩ ?_
      refine WP.sipush rfl ?_
      refine WP.iload_n rfl rfl ?_
      refine WP.iaddE rfl o45 ?_
      refine WP.callF (c_X12_at (154 + x3) h o46) rfl rfl (pm_cok rfl rfl (Or.inr ⟨_, _, rfl⟩) rfl rfl) rfl rfl ?_
      show WP 192 (135, [(14, 248), us.getD 0 pU, us.getD 1 pU, (0, x3), us.getD 2 pU, us.getD 3 pU, us.getD 4 pU], [(0, h 249 (154 + x3))], h) Q
      refine WP.istore (L' := [(14, 248), us.getD 0 pU, us.getD 1 pU, (0, x3), (0, h 249 (154 + x3)), us.getD 3 pU, us.getD 4 pU]) rfl rfl ?_
      refine WP.iload rfl rfl ?_
      refine WP.iconst rfl ?_
      have k47 : ∀ Q' : Option pV → pH → Prop, (∀ us73 : List pV, WP 192 (206, [(14, 248), us.getD 0 pU, us.getD 1 pU, (0, x3), (0, h 249 (154 + x3)), us73.getD 0 pU, us73.getD 1 pU], [], if h 249 (154 + x3) = (-1) then h else s_X12_minute_16 x3 h) Q') → WP 192 (138, [(14, 248), us.getD 0 pU, us.getD 1 pU, (0, x3), (0, h 249 (154 + x3)), us.getD 3 pU, us.getD 4 pU], [(0, (-1)), (0, h 249 (154 + x3))], h) Q' := fun Q' kk => by
        have q72 := q74
        refine WP.ni_eq rfl (fun c48 => ?_) (fun c48 => ?_)
        · have e := kk [us.getD 3 pU, us.getD 4 pU]; simp only [if_pos c48] at e ⊢; exact e
        · obtain ⟨o49, o50, o51, o52, o53, o57, o58, o59, q66, o67, o71⟩ := q72 c48
          refine WP.aload_n rfl rfl ⟨by decide, by decide⟩ ?_
          refine WP.getRF (b := 261) rfl rfl rfl ?_
          refine WP.aload_n rfl rfl ⟨by decide, by decide⟩ ?_
          refine WP.bipush rfl ?_
          refine WP.iload_n rfl rfl ?_
          refine WP.iaddE rfl o49 ?_
          refine WP.callF (c_X12_at (84 + x3) h o50) rfl rfl (pm_cok rfl rfl (Or.inr ⟨_, _, rfl⟩) rfl rfl) rfl rfl ?_
          show WP 192 (146, [(14, 248), us.getD 0 pU, us.getD 1 pU, (0, x3), (0, h 249 (154 + x3)), us.getD 3 pU, us.getD 4 pU], [(0, h 249 (84 + x3)), (1049, 261)], h) Q'
          refine WP.laload rfl ⟨by decide, by decide, by decide⟩ o51 ?_
          refine WP.aload_n rfl rfl ⟨by decide, by decide⟩ ?_
          refine WP.getRF (b := 249) rfl rfl rfl ?_
          refine WP.bipush rfl ?_
          refine WP.iload_n rfl rfl ?_
          refine WP.iaddE rfl o52 ?_
          refine WP.laload rfl ⟨by decide, by decide, by decide⟩ o53 ?_
          refine WP.lcmp rfl ?_
          have k54 : ∀ Q' : Option pV → pH → Prop, (WP 192 (166, [(14, 248), us.getD 0 pU, us.getD 1 pU, (0, x3), (0, h 249 (154 + x3)), us.getD 3 pU, us.getD 4 pU], [(1, s_X12_minute_13 x3 h)], h) Q') → WP 192 (154, [(14, 248), us.getD 0 pU, us.getD 1 pU, (0, x3), (0, h 249 (154 + x3)), us.getD 3 pU, us.getD 4 pU], [(0, pm_lcmp (h 261 (h 249 (84 + x3))) (h 249 (114 + x3)))], h) Q' := fun Q' kk => by
            refine WP.nl_le rfl (fun c55 => ?_) (fun c55 => ?_)
            · refine WP.aload_n rfl rfl ⟨by decide, by decide⟩ ?_
              refine WP.getRF (b := 249) rfl rfl rfl ?_
              refine WP.bipush rfl ?_
              refine WP.laload rfl ⟨by decide, by decide, by decide⟩ (by decide) ?_
              have e := kk; simp only [s_X12_minute_13, if_pos c55] at e ⊢; exact e
            · refine WP.aload_n rfl rfl ⟨by decide, by decide⟩ ?_
              refine WP.getRF (b := 249) rfl rfl rfl ?_
              refine WP.bipush rfl ?_
              refine WP.laload rfl ⟨by decide, by decide, by decide⟩ (by decide) ?_
              refine WP.lconst rfl ?_
              refine WP.callF (c_X12_less (h 249 16) 1 h) rfl rfl (pm_cok rfl rfl (Or.inl rfl) rfl rfl) rfl rfl ?_
              show WP 192 (161, [(14, 248), us.getD 0 pU, us.getD 1 pU, (0, x3), (0, h 249 (154 + x3)), us.getD 3 pU, us.getD 4 pU], [(1, s_X12_less_1 (h 249 16) 1)], h) Q'
              refine WP.goto rfl ?_
              have e := kk; simp only [s_X12_minute_13, if_neg (Int.not_le.mpr c55)] at e ⊢; exact e
          refine k54 _ ?_
          refine WP.lstore (L' := [(14, 248), us.getD 0 pU, us.getD 1 pU, (0, x3), (0, h 249 (154 + x3)), (1, s_X12_minute_13 x3 h), pU]) rfl rfl ?_
          refine WP.aload_n rfl rfl ⟨by decide, by decide⟩ ?_
          refine WP.getRF (b := 249) rfl rfl rfl ?_
          refine WP.sipush rfl ?_
          refine WP.iload_n rfl rfl ?_
          refine WP.iaddE rfl o57 ?_
          refine WP.aload_n rfl rfl ⟨by decide, by decide⟩ ?_
          refine WP.getRF (b := 249) rfl rfl rfl ?_
          refine WP.sipush rfl ?_
          refine WP.iload rfl rfl ?_
          refine WP.iaddE rfl o58 ?_
          refine WP.laload rfl ⟨by decide, by decide, by decide⟩ o59 ?_
          refine WP.lconst rfl ?_
          refine WP.lcmp rfl ?_
          have k60 : ∀ Q' : Option pV → pH → Prop, (WP 192 (191, [(14, 248), us.getD 0 pU, us.getD 1 pU, (0, x3), (0, h 249 (154 + x3)), (1, s_X12_minute_13 x3 h), pU], [(1, s_X12_minute_14 x3 h), (0, 164 + x3), (3481, 249)], h) Q') → WP 192 (180, [(14, 248), us.getD 0 pU, us.getD 1 pU, (0, x3), (0, h 249 (154 + x3)), (1, s_X12_minute_13 x3 h), pU], [(0, pm_lcmp (h 249 (200 + (h 249 (154 + x3)))) 1), (0, 164 + x3), (3481, 249)], h) Q' := fun Q' kk => by
            have q64 := q66
            refine WP.nl_ne rfl (fun c61 => ?_) (fun c61 => ?_)
            · refine WP.lload rfl rfl ?_
              have e := kk; simp only [s_X12_minute_14, if_neg (c61)] at e ⊢; exact e
            · obtain ⟨o62, o63⟩ := q64 c61
              refine WP.lload rfl rfl ?_
              refine WP.aload_n rfl rfl ⟨by decide, by decide⟩ ?_
              refine WP.getRF (b := 249) rfl rfl rfl ?_
              refine WP.sipush rfl ?_
              refine WP.iload rfl rfl ?_
              refine WP.iaddE rfl o62 ?_
              refine WP.laload rfl ⟨by decide, by decide, by decide⟩ o63 ?_
              refine WP.callF (c_X12_less (s_X12_minute_13 x3 h) (h 249 (232 + (h 249 (154 + x3)))) h) rfl rfl (pm_cok rfl rfl (Or.inl rfl) rfl rfl) rfl rfl ?_
              show WP 192 (189, [(14, 248), us.getD 0 pU, us.getD 1 pU, (0, x3), (0, h 249 (154 + x3)), (1, s_X12_minute_13 x3 h), pU], [(1, s_X12_less_1 (s_X12_minute_13 x3 h) (h 249 (232 + (h 249 (154 + x3))))), (0, 164 + x3), (3481, 249)], h) Q'
              refine WP.goto rfl ?_
              have e := kk; simp only [s_X12_minute_14, if_pos c61] at e ⊢; exact e
          refine k60 _ ?_
          refine WP.lastore rfl ⟨by decide, by decide, by decide⟩ o67 ?_
          refine WP.aload_n rfl rfl ⟨by decide, by decide⟩ ?_
          refine WP.getRF (b := 259) rfl rfl rfl ?_
          refine WP.iload rfl rfl ?_
          refine WP.aload_n rfl rfl ⟨by decide, by decide⟩ ?_
          refine WP.getRF (b := 249) rfl rfl rfl ?_
          refine WP.bipush rfl ?_
          refine WP.laload rfl ⟨by decide, by decide, by decide⟩ (by decide) ?_
          refine WP.lconst rfl ?_
          refine WP.lcmp rfl ?_
          have k68 : ∀ Q' : Option pV → pH → Prop, (WP 192 (205, [(14, 248), us.getD 0 pU, us.getD 1 pU, (0, x3), (0, h 249 (154 + x3)), (1, s_X12_minute_13 x3 h), pU], [(0, s_X12_minute_15 x3 h), (0, h 249 (154 + x3)), (1064, 259)], pm_upd h 249 (164 + x3) (s_X12_minute_14 x3 h)) Q') → WP 192 (201, [(14, 248), us.getD 0 pU, us.getD 1 pU, (0, x3), (0, h 249 (154 + x3)), (1, s_X12_minute_13 x3 h), pU], [(0, pm_lcmp ((pm_upd h 249 (164 + x3) (s_X12_minute_14 x3 h)) 249 16) 0), (0, h 249 (154 + x3)), (1064, 259)], pm_upd h 249 (164 + x3) (s_X12_minute_14 x3 h)) Q' := fun Q' kk => by
            refine WP.nl_ne rfl (fun c69 => ?_) (fun c69 => ?_)
            · refine WP.iconst rfl ?_
              have e := kk; simp only [s_X12_minute_15, if_neg (c69)] at e ⊢; exact e
            · refine WP.iconst rfl ?_
              refine WP.goto rfl ?_
              have e := kk; simp only [s_X12_minute_15, if_pos c69] at e ⊢; exact e
          refine k68 _ ?_
          refine WP.iastore rfl ⟨by decide, by decide, by decide⟩ o71 ?_
          show WP 192 (206, [(14, 248), us.getD 0 pU, us.getD 1 pU, (0, x3), (0, h 249 (154 + x3)), (1, s_X12_minute_13 x3 h), pU], [], s_X12_minute_16 x3 h) Q'
          have e := kk [(1, s_X12_minute_13 x3 h), pU]; simp only [if_neg (c48)] at e ⊢; exact e
      refine k47 _ (fun us73 => ?_)
      refine WP.iincE (L' := [(14, 248), us.getD 0 pU, if (us.getD 1 pU).1 = 1 then pU else us.getD 1 pU, (0, x3 + 1), (0, h 249 (154 + x3)), us73.getD 0 pU, us73.getD 1 pU]) rfl rfl o75 rfl ?_
      refine WP.goto rfl ?_
      exact kk [us.getD 0 pU, if (us.getD 1 pU).1 = 1 then pU else us.getD 1 pU, (0, h 249 (154 + x3)), us73.getD 0 pU, us73.getD 1 pU] (x3 + 1, if h 249 (154 + x3) = (-1) then h else s_X12_minute_16 x3 h) (rfl)
  · intro hP hc
    generalize hs : (L_X12_minute_122 x3 h : Int × pH) = s at kk
    change P_X12_minute_122 (L_X12_minute_122 x3 h).1 (L_X12_minute_122 x3 h).2 at hP
    change ¬ C_X12_minute_122 (L_X12_minute_122 x3 h).1 (L_X12_minute_122 x3 h).2 at hc
    intro us
    show WP 192 (122, [(14, 248), us.getD 0 pU, us.getD 1 pU, (0, (L_X12_minute_122 x3 h).1), us.getD 2 pU, us.getD 3 pU, us.getD 4 pU], [], (L_X12_minute_122 x3 h).2) Q
    rw [hs] at hP hc ⊢
    obtain ⟨x3, h⟩ := s
    change P_X12_minute_122 x3 h at hP
    change ¬ (x3 < h 249 12) at hc
    unfold P_X12_minute_122 at hP
    show WP 192 (122, [(14, 248), us.getD 0 pU, us.getD 1 pU, (0, x3), us.getD 2 pU, us.getD 3 pU, us.getD 4 pU], [], h) Q
    refine WP.iload_n rfl rfl ?_
    refine WP.i2l rfl ?_
    refine WP.aload_n rfl rfl ⟨by decide, by decide⟩ ?_
    refine WP.getRF (b := 249) rfl rfl rfl ?_
    refine WP.bipush rfl ?_
    refine WP.laload rfl ⟨by decide, by decide, by decide⟩ (by decide) ?_
    refine WP.lcmp rfl ?_
    refine WP.nl_ge rfl (fun c43 => ?_) (fun c43 => ?_)
    · exact kk [us.getD 0 pU, us.getD 1 pU, us.getD 2 pU, us.getD 3 pU, us.getD 4 pU]
    · exact absurd (show x3 < h 249 12 from c43) hc
noncomputable def s_X12_minute_17 (h : pH) : Int := (L_X12_minute_122 0 (s_X12_minute_12 h)).1
noncomputable def s_X12_minute_18 (h : pH) : pH := (L_X12_minute_122 0 (s_X12_minute_12 h)).2
def C_X12_minute_210 (x3 : Int) (h : pH) : Prop := x3 < 4
noncomputable def B_X12_minute_210 (x3 : Int) (h : pH) : Int × pH := (x3 + 1, H_X12_trip x3 h)
noncomputable def P_X12_minute_210 (x3 : Int) (h : pH) : Prop := ((x3 < 4) → P_X12_trip x3 h ∧ (fx_i (x3 + 1)))
noncomputable def L_X12_minute_210 (x3 : Int) (h : pH) : Int × pH := fx_wh (σ := Int × pH) (fun s => C_X12_minute_210 s.1 s.2) (fun s => B_X12_minute_210 s.1 s.2) (x3, h)
def O_X12_minute_210 (x3 : Int) (h : pH) : Prop := fx_ok (σ := Int × pH) (fun s => C_X12_minute_210 s.1 s.2) (fun s => B_X12_minute_210 s.1 s.2) (fun s => P_X12_minute_210 s.1 s.2) (x3, h)
set_option maxHeartbeats 4000000 in
theorem lp_X12_minute_210 (x3 : Int) (h : pH) {Q : Option pV → pH → Prop} (hp : O_X12_minute_210 x3 h) (kk : ∀ us : List pV, WP 192 (218, [(14, 248), us.getD 0 pU, us.getD 1 pU, (0, (L_X12_minute_210 x3 h).1), us.getD 2 pU, us.getD 3 pU, us.getD 4 pU], [], (L_X12_minute_210 x3 h).2) Q) : ∀ us : List pV, WP 192 (210, [(14, 248), us.getD 0 pU, us.getD 1 pU, (0, x3), us.getD 2 pU, us.getD 3 pU, us.getD 4 pU], [], h) Q := by
  refine WP.wh (σ := Int × pH) (fun s => C_X12_minute_210 s.1 s.2) (fun s => B_X12_minute_210 s.1 s.2) (fun s => P_X12_minute_210 s.1 s.2) (fun s us => (210, [(14, 248), us.getD 0 pU, us.getD 1 pU, (0, s.1), us.getD 2 pU, us.getD 3 pU, us.getD 4 pU], [], s.2)) (x3, h) hp ?_ ?_
  · intro s us hP hc kk
    obtain ⟨x3, h⟩ := s
    change P_X12_minute_210 x3 h at hP
    change x3 < 4 at hc
    replace kk : ∀ (us' : List pV) (s' : Int × pH), s' = B_X12_minute_210 x3 h → WP 192 (210, [(14, 248), us'.getD 0 pU, us'.getD 1 pU, (0, s'.1), us'.getD 2 pU, us'.getD 3 pU, us'.getD 4 pU], [], s'.2) Q := fun us' s' e => by subst e; exact kk us'
    unfold P_X12_minute_210 at hP
    obtain ⟨o80, o81⟩ := hP hc
    show WP 192 (210, [(14, 248), us.getD 0 pU, us.getD 1 pU, (0, x3), us.getD 2 pU, us.getD 3 pU, us.getD 4 pU], [], h) Q
    refine WP.iload_n rfl rfl ?_
    refine WP.iconst rfl ?_
    refine WP.ni_ge rfl (fun c79 => ?_) (fun c79 => ?_)
    · exact absurd hc (Int.not_lt.mpr c79)
    · refine WP.aload_n rfl rfl ⟨by decide, by decide⟩ ?_
      refine WP.iload_n rfl rfl ?_
      refine WP.callF (c_X12_trip x3 h o80) rfl rfl (pm_cok rfl rfl (Or.inr ⟨_, _, rfl⟩) rfl rfl) rfl rfl ?_
      show WP 192 (216, [(14, 248), us.getD 0 pU, us.getD 1 pU, (0, x3), us.getD 2 pU, us.getD 3 pU, us.getD 4 pU], [], H_X12_trip x3 h) Q
      refine WP.iincE (L' := [(14, 248), us.getD 0 pU, if (us.getD 1 pU).1 = 1 then pU else us.getD 1 pU, (0, x3 + 1), us.getD 2 pU, us.getD 3 pU, us.getD 4 pU]) rfl rfl o81 rfl ?_
      refine WP.goto rfl ?_
      exact kk [us.getD 0 pU, if (us.getD 1 pU).1 = 1 then pU else us.getD 1 pU, us.getD 2 pU, us.getD 3 pU, us.getD 4 pU] (x3 + 1, H_X12_trip x3 h) (rfl)
  · intro hP hc
    generalize hs : (L_X12_minute_210 x3 h : Int × pH) = s at kk
    change P_X12_minute_210 (L_X12_minute_210 x3 h).1 (L_X12_minute_210 x3 h).2 at hP
    change ¬ C_X12_minute_210 (L_X12_minute_210 x3 h).1 (L_X12_minute_210 x3 h).2 at hc
    intro us
    show WP 192 (210, [(14, 248), us.getD 0 pU, us.getD 1 pU, (0, (L_X12_minute_210 x3 h).1), us.getD 2 pU, us.getD 3 pU, us.getD 4 pU], [], (L_X12_minute_210 x3 h).2) Q
    rw [hs] at hP hc ⊢
    obtain ⟨x3, h⟩ := s
    change P_X12_minute_210 x3 h at hP
    change ¬ (x3 < 4) at hc
    unfold P_X12_minute_210 at hP
    show WP 192 (210, [(14, 248), us.getD 0 pU, us.getD 1 pU, (0, x3), us.getD 2 pU, us.getD 3 pU, us.getD 4 pU], [], h) Q
    refine WP.iload_n rfl rfl ?_
    refine WP.iconst rfl ?_
    refine WP.ni_ge rfl (fun c78 => ?_) (fun c78 => ?_)
    · exact kk [us.getD 0 pU, us.getD 1 pU, us.getD 2 pU, us.getD 3 pU, us.getD 4 pU]
    · exact absurd (show x3 < 4 from c78) hc
noncomputable def s_X12_minute_19 (h : pH) : Int := (L_X12_minute_210 0 (s_X12_minute_18 h)).1
noncomputable def s_X12_minute_20 (h : pH) : pH := (L_X12_minute_210 0 (s_X12_minute_18 h)).2
def C_X12_minute_226 (x3 : Int) (h : pH) : Prop := x3 < h 249 13
noncomputable def B_X12_minute_226 (x3 : Int) (h : pH) : Int × pH := (x3 + 1, if h 263 x3 = 0 then h else H_X12_finish x3 h)
noncomputable def P_X12_minute_226 (x3 : Int) (h : pH) : Prop := ((x3 < h 249 13) → (0 ≤ x3 ∧ x3 < 16) ∧ (((¬ h 263 x3 = 0) → P_X12_finish x3 h)) ∧ (fx_i (x3 + 1)))
noncomputable def L_X12_minute_226 (x3 : Int) (h : pH) : Int × pH := fx_wh (σ := Int × pH) (fun s => C_X12_minute_226 s.1 s.2) (fun s => B_X12_minute_226 s.1 s.2) (x3, h)
def O_X12_minute_226 (x3 : Int) (h : pH) : Prop := fx_ok (σ := Int × pH) (fun s => C_X12_minute_226 s.1 s.2) (fun s => B_X12_minute_226 s.1 s.2) (fun s => P_X12_minute_226 s.1 s.2) (x3, h)
set_option maxHeartbeats 4000000 in
theorem lp_X12_minute_226 (x3 : Int) (h : pH) {Q : Option pV → pH → Prop} (hp : O_X12_minute_226 x3 h) (kk : ∀ us : List pV, WP 192 (244, [(14, 248), us.getD 0 pU, us.getD 1 pU, (0, (L_X12_minute_226 x3 h).1), us.getD 2 pU, us.getD 3 pU, us.getD 4 pU], [], (L_X12_minute_226 x3 h).2) Q) : ∀ us : List pV, WP 192 (226, [(14, 248), us.getD 0 pU, us.getD 1 pU, (0, x3), us.getD 2 pU, us.getD 3 pU, us.getD 4 pU], [], h) Q := by
  refine WP.wh (σ := Int × pH) (fun s => C_X12_minute_226 s.1 s.2) (fun s => B_X12_minute_226 s.1 s.2) (fun s => P_X12_minute_226 s.1 s.2) (fun s us => (226, [(14, 248), us.getD 0 pU, us.getD 1 pU, (0, s.1), us.getD 2 pU, us.getD 3 pU, us.getD 4 pU], [], s.2)) (x3, h) hp ?_ ?_
  · intro s us hP hc kk
    obtain ⟨x3, h⟩ := s
    change P_X12_minute_226 x3 h at hP
    change x3 < h 249 13 at hc
    replace kk : ∀ (us' : List pV) (s' : Int × pH), s' = B_X12_minute_226 x3 h → WP 192 (226, [(14, 248), us'.getD 0 pU, us'.getD 1 pU, (0, s'.1), us'.getD 2 pU, us'.getD 3 pU, us'.getD 4 pU], [], s'.2) Q := fun us' s' e => by subst e; exact kk us'
    unfold P_X12_minute_226 at hP
    obtain ⟨o89, q95, o96⟩ := hP hc
    show WP 192 (226, [(14, 248), us.getD 0 pU, us.getD 1 pU, (0, x3), us.getD 2 pU, us.getD 3 pU, us.getD 4 pU], [], h) Q
    refine WP.iload_n rfl rfl ?_
    refine WP.i2l rfl ?_
    refine WP.aload_n rfl rfl ⟨by decide, by decide⟩ ?_
    refine WP.getRF (b := 249) rfl rfl rfl ?_
    refine WP.bipush rfl ?_
    refine WP.laload rfl ⟨by decide, by decide, by decide⟩ (by decide) ?_
    refine WP.lcmp rfl ?_
    refine WP.nl_ge rfl (fun c88 => ?_) (fun c88 => ?_)
    · exact absurd hc (Int.not_lt.mpr c88)
    · refine WP.aload_n rfl rfl ⟨by decide, by decide⟩ ?_
      refine WP.getRF (b := 263) rfl rfl rfl ?_
      refine WP.iload_n rfl rfl ?_
      refine WP.baload rfl ⟨by decide, by decide, by decide⟩ o89 ?_
      have k90 : ∀ Q' : Option pV → pH → Prop, (WP 192 (242, [(14, 248), us.getD 0 pU, us.getD 1 pU, (0, x3), us.getD 2 pU, us.getD 3 pU, us.getD 4 pU], [], if h 263 x3 = 0 then h else H_X12_finish x3 h) Q') → WP 192 (238, [(14, 248), us.getD 0 pU, us.getD 1 pU, (0, x3), us.getD 2 pU, us.getD 3 pU, us.getD 4 pU], [(0, h 263 x3)], h) Q' := fun Q' kk => by
        have q93 := q95
        refine WP.nz_eq rfl (fun c91 => ?_) (fun c91 => ?_)
        · have e := kk; simp only [if_pos c91] at e ⊢; exact e
        · have o92 := q93 c91
          refine WP.aload_n rfl rfl ⟨by decide, by decide⟩ ?_
          refine WP.iload_n rfl rfl ?_
          refine WP.callF (c_X12_finish x3 h o92) rfl rfl (pm_cok rfl rfl (Or.inr ⟨_, _, rfl⟩) rfl rfl) rfl rfl ?_
          show WP 192 (242, [(14, 248), us.getD 0 pU, us.getD 1 pU, (0, x3), us.getD 2 pU, us.getD 3 pU, us.getD 4 pU], [], H_X12_finish x3 h) Q'
          have e := kk; simp only [if_neg (c91)] at e ⊢; exact e
      refine k90 _ ?_
      refine WP.iincE (L' := [(14, 248), us.getD 0 pU, if (us.getD 1 pU).1 = 1 then pU else us.getD 1 pU, (0, x3 + 1), us.getD 2 pU, us.getD 3 pU, us.getD 4 pU]) rfl rfl o96 rfl ?_
      refine WP.goto rfl ?_
      exact kk [us.getD 0 pU, if (us.getD 1 pU).1 = 1 then pU else us.getD 1 pU, us.getD 2 pU, us.getD 3 pU, us.getD 4 pU] (x3 + 1, if h 263 x3 = 0 then h else H_X12_finish x3 h) (rfl)
  · intro hP hc
    generalize hs : (L_X12_minute_226 x3 h : Int × pH) = s at kk
    change P_X12_minute_226 (L_X12_minute_226 x3 h).1 (L_X12_minute_226 x3 h).2 at hP
    change ¬ C_X12_minute_226 (L_X12_minute_226 x3 h).1 (L_X12_minute_226 x3 h).2 at hc
    intro us
    show WP 192 (226, [(14, 248), us.getD 0 pU, us.getD 1 pU, (0, (L_X12_minute_226 x3 h).1), us.getD 2 pU, us.getD 3 pU, us.getD 4 pU], [], (L_X12_minute_226 x3 h).2) Q
    rw [hs] at hP hc ⊢
    obtain ⟨x3, h⟩ := s
    change P_X12_minute_226 x3 h at hP
    change ¬ (x3 < h 249 13) at hc
    unfold P_X12_minute_226 at hP
    show WP 192 (226, [(14, 248), us.getD 0 pU, us.getD 1 pU, (0, x3), us.getD 2 pU, us.getD 3 pU, us.getD 4 pU], [], h) Q
    refine WP.iload_n rfl rfl ?_
    refine WP.i2l rfl ?_
    refine WP.aload_n rfl rfl ⟨by decide, by decide⟩ ?_
    refine WP.getRF (b := 249) rfl rfl rfl ?_
    refine WP.bipush rfl ?_
    refine WP.laload rfl ⟨by decide, by decide, by decide⟩ (by decide) ?_
    refine WP.lcmp rfl ?_
    refine WP.nl_ge rfl (fun c87 => ?_) (fun c87 => ?_)
    · exact kk [us.getD 0 pU, us.getD 1 pU, us.getD 2 pU, us.getD 3 pU, us.getD 4 pU]
    · exact absurd (show x3 < h 249 13 from c87) hc
noncomputable def s_X12_minute_21 (h : pH) : Int := (L_X12_minute_226 0 (H_X12_fail (H_X12_warm (H_X12_supply (s_X12_minute_20 h))))).1
noncomputable def s_X12_minute_22 (h : pH) : pH := (L_X12_minute_226 0 (H_X12_fail (H_X12_warm (H_X12_supply (s_X12_minute_20 h))))).2
noncomputable def s_X12_minute_23 (x3 : Int) (h : pH) : Int := if h 249 (134 + x3) ≤ 0 then 0 else 1
noncomputable def s_X12_minute_24 (x3 : Int) (h : pH) : pH := pm_upd h 249 (134 + x3) ((h 249 (134 + x3)) - (s_X12_minute_23 x3 h))
def C_X12_minute_246 (x3 : Int) (h : pH) : Prop := x3 < h 249 12
noncomputable def B_X12_minute_246 (x3 : Int) (h : pH) : Int × pH := (x3 + 1, s_X12_minute_24 x3 h)
noncomputable def P_X12_minute_246 (x3 : Int) (h : pH) : Prop := ((x3 < h 249 12) → (fx_i (134 + x3)) ∧ (0 ≤ 134 + x3 ∧ 134 + x3 < 620) ∧ (fx_l ((h 249 (134 + x3)) - (s_X12_minute_23 x3 h))) ∧ (fx_i (x3 + 1)))
noncomputable def L_X12_minute_246 (x3 : Int) (h : pH) : Int × pH := fx_wh (σ := Int × pH) (fun s => C_X12_minute_246 s.1 s.2) (fun s => B_X12_minute_246 s.1 s.2) (x3, h)
def O_X12_minute_246 (x3 : Int) (h : pH) : Prop := fx_ok (σ := Int × pH) (fun s => C_X12_minute_246 s.1 s.2) (fun s => B_X12_minute_246 s.1 s.2) (fun s => P_X12_minute_246 s.1 s.2) (x3, h)
set_option maxHeartbeats 4000000 in
theorem lp_X12_minute_246 (x3 : Int) (h : pH) {Q : Option pV → pH → Prop} (hp : O_X12_minute_246 x3 h) (kk : ∀ us : List pV, WP 192 (277, [(14, 248), us.getD 0 pU, us.getD 1 pU, (0, (L_X12_minute_246 x3 h).1), us.getD 2 pU, us.getD 3 pU, us.getD 4 pU], [], (L_X12_minute_246 x3 h).2) Q) : ∀ us : List pV, WP 192 (246, [(14, 248), us.getD 0 pU, us.getD 1 pU, (0, x3), us.getD 2 pU, us.getD 3 pU, us.getD 4 pU], [], h) Q := by
  refine WP.wh (σ := Int × pH) (fun s => C_X12_minute_246 s.1 s.2) (fun s => B_X12_minute_246 s.1 s.2) (fun s => P_X12_minute_246 s.1 s.2) (fun s us => (246, [(14, 248), us.getD 0 pU, us.getD 1 pU, (0, s.1), us.getD 2 pU, us.getD 3 pU, us.getD 4 pU], [], s.2)) (x3, h) hp ?_ ?_
  · intro s us hP hc kk
    obtain ⟨x3, h⟩ := s
    change P_X12_minute_246 x3 h at hP
    change x3 < h 249 12 at hc
    replace kk : ∀ (us' : List pV) (s' : Int × pH), s' = B_X12_minute_246 x3 h → WP 192 (246, [(14, 248), us'.getD 0 pU, us'.getD 1 pU, (0, s'.1), us'.getD 2 pU, us'.getD 3 pU, us'.getD 4 pU], [], s'.2) Q := fun us' s' e => by subst e; exact kk us'
    unfold P_X12_minute_246 at hP
    obtain ⟨o101, o102, o106, o107⟩ := hP hc
    show WP 192 (246, [(14, 248), us.getD 0 pU, us.getD 1 pU, (0, x3), us.getD 2 pU, us.getD 3 pU, us.getD 4 pU], [], h) Q
    refine WP.iload_n rfl rfl ?_
    refine WP.i2l rfl ?_
    refine WP.aload_n rfl rfl ⟨by decide, by decide⟩ ?_
    refine WP.getRF (b := 249) rfl rfl rfl ?_
    refine WP.bipush rfl ?_
    refine WP.laload rfl ⟨by decide, by decide, by decide⟩ (by decide) ?_
    refine WP.lcmp rfl ?_
    refine WP.nl_ge rfl (fun c100 => ?_) (fun c100 => ?_)
    · exact absurd hc (Int.not_lt.mpr c100)
    · refine WP.aload_n rfl rfl ⟨by decide, by decide⟩ ?_
      refine WP.getRF (b := 249) rfl rfl rfl ?_
      refine WP.sipush rfl ?_
      refine WP.iload_n rfl rfl ?_
      refine WP.iaddE rfl o101 ?_
      refine WP.dup2 rfl (by decide) (by decide) ?_
      refine WP.laload rfl ⟨by decide, by decide, by decide⟩ o102 ?_
      refine WP.aload_n rfl rfl ⟨by decide, by decide⟩ ?_
      refine WP.getRF (b := 249) rfl rfl rfl ?_
      refine WP.sipush rfl ?_
      refine WP.iload_n rfl rfl ?_
      refine WP.iaddE rfl o101 ?_
      refine WP.laload rfl ⟨by decide, by decide, by decide⟩ o102 ?_
      refine WP.lconst rfl ?_
      refine WP.lcmp rfl ?_
      have k103 : ∀ Q' : Option pV → pH → Prop, (WP 192 (273, [(14, 248), us.getD 0 pU, us.getD 1 pU, (0, x3), us.getD 2 pU, us.getD 3 pU, us.getD 4 pU], [(1, s_X12_minute_23 x3 h), (1, h 249 (134 + x3)), (0, 134 + x3), (3481, 249)], h) Q') → WP 192 (269, [(14, 248), us.getD 0 pU, us.getD 1 pU, (0, x3), us.getD 2 pU, us.getD 3 pU, us.getD 4 pU], [(0, pm_lcmp (h 249 (134 + x3)) 0), (1, h 249 (134 + x3)), (0, 134 + x3), (3481, 249)], h) Q' := fun Q' kk => by
        refine WP.nl_le rfl (fun c104 => ?_) (fun c104 => ?_)
        · refine WP.lconst rfl ?_
          have e := kk; simp only [s_X12_minute_23, if_pos c104] at e ⊢; exact e
        · refine WP.lconst rfl ?_
          refine WP.goto rfl ?_
          have e := kk; simp only [s_X12_minute_23, if_neg (Int.not_le.mpr c104)] at e ⊢; exact e
      refine k103 _ ?_
      refine WP.lsubE rfl o106 ?_
      refine WP.lastore rfl ⟨by decide, by decide, by decide⟩ o102 ?_
      show WP 192 (275, [(14, 248), us.getD 0 pU, us.getD 1 pU, (0, x3), us.getD 2 pU, us.getD 3 pU, us.getD 4 pU], [], s_X12_minute_24 x3 h) Q
      refine WP.iincE (L' := [(14, 248), us.getD 0 pU, if (us.getD 1 pU).1 = 1 then pU else us.getD 1 pU, (0, x3 + 1), us.getD 2 pU, us.getD 3 pU, us.getD 4 pU]) rfl rfl o107 rfl ?_
      refine WP.goto rfl ?_
      exact kk [us.getD 0 pU, if (us.getD 1 pU).1 = 1 then pU else us.getD 1 pU, us.getD 2 pU, us.getD 3 pU, us.getD 4 pU] (x3 + 1, s_X12_minute_24 x3 h) (rfl)
  · intro hP hc
    generalize hs : (L_X12_minute_246 x3 h : Int × pH) = s at kk
    change P_X12_minute_246 (L_X12_minute_246 x3 h).1 (L_X12_minute_246 x3 h).2 at hP
    change ¬ C_X12_minute_246 (L_X12_minute_246 x3 h).1 (L_X12_minute_246 x3 h).2 at hc
    intro us
    show WP 192 (246, [(14, 248), us.getD 0 pU, us.getD 1 pU, (0, (L_X12_minute_246 x3 h).1), us.getD 2 pU, us.getD 3 pU, us.getD 4 pU], [], (L_X12_minute_246 x3 h).2) Q
    rw [hs] at hP hc ⊢
    obtain ⟨x3, h⟩ := s
    change P_X12_minute_246 x3 h at hP
    change ¬ (x3 < h 249 12) at hc
    unfold P_X12_minute_246 at hP
    show WP 192 (246, [(14, 248), us.getD 0 pU, us.getD 1 pU, (0, x3), us.getD 2 pU, us.getD 3 pU, us.getD 4 pU], [], h) Q
    refine WP.iload_n rfl rfl ?_
    refine WP.i2l rfl ?_
    refine WP.aload_n rfl rfl ⟨by decide, by decide⟩ ?_
    refine WP.getRF (b := 249) rfl rfl rfl ?_
    refine WP.bipush rfl ?_
    refine WP.laload rfl ⟨by decide, by decide, by decide⟩ (by decide) ?_
    refine WP.lcmp rfl ?_
    refine WP.nl_ge rfl (fun c99 => ?_) (fun c99 => ?_)
    · exact kk [us.getD 0 pU, us.getD 1 pU, us.getD 2 pU, us.getD 3 pU, us.getD 4 pU]
    · exact absurd (show x3 < h 249 12 from c99) hc
noncomputable def s_X12_minute_25 (h : pH) : Int := (L_X12_minute_246 0 (s_X12_minute_22 h)).1
noncomputable def s_X12_minute_26 (h : pH) : pH := (L_X12_minute_246 0 (s_X12_minute_22 h)).2
def C_X12_minute_279 (x3 : Int) (h : pH) : Prop := 12 ≤ x3
noncomputable def B_X12_minute_279 (x3 : Int) (h : pH) : Int × pH := (x3 + (-1), pm_upd h 249 (440 + x3) (h 249 ((440 + x3) - 12)))
noncomputable def P_X12_minute_279 (x3 : Int) (h : pH) : Prop := ((12 ≤ x3) → (fx_i (440 + x3)) ∧ (fx_i ((440 + x3) - 12)) ∧ (0 ≤ (440 + x3) - 12 ∧ (440 + x3) - 12 < 620) ∧ (0 ≤ 440 + x3 ∧ 440 + x3 < 620) ∧ (fx_i (x3 + (-1))))
noncomputable def L_X12_minute_279 (x3 : Int) (h : pH) : Int × pH := fx_wh (σ := Int × pH) (fun s => C_X12_minute_279 s.1 s.2) (fun s => B_X12_minute_279 s.1 s.2) (x3, h)
def O_X12_minute_279 (x3 : Int) (h : pH) : Prop := fx_ok (σ := Int × pH) (fun s => C_X12_minute_279 s.1 s.2) (fun s => B_X12_minute_279 s.1 s.2) (fun s => P_X12_minute_279 s.1 s.2) (x3, h)
set_option maxHeartbeats 4000000 in
theorem lp_X12_minute_279 (x3 : Int) (h : pH) {Q : Option pV → pH → Prop} (hp : O_X12_minute_279 x3 h) (kk : ∀ us : List pV, WP 192 (298, [(14, 248), us.getD 0 pU, us.getD 1 pU, (0, (L_X12_minute_279 x3 h).1), us.getD 2 pU, us.getD 3 pU, us.getD 4 pU], [], (L_X12_minute_279 x3 h).2) Q) : ∀ us : List pV, WP 192 (279, [(14, 248), us.getD 0 pU, us.getD 1 pU, (0, x3), us.getD 2 pU, us.getD 3 pU, us.getD 4 pU], [], h) Q := by
  refine WP.wh (σ := Int × pH) (fun s => C_X12_minute_279 s.1 s.2) (fun s => B_X12_minute_279 s.1 s.2) (fun s => P_X12_minute_279 s.1 s.2) (fun s us => (279, [(14, 248), us.getD 0 pU, us.getD 1 pU, (0, s.1), us.getD 2 pU, us.getD 3 pU, us.getD 4 pU], [], s.2)) (x3, h) hp ?_ ?_
  · intro s us hP hc kk
    obtain ⟨x3, h⟩ := s
    change P_X12_minute_279 x3 h at hP
    change 12 ≤ x3 at hc
    replace kk : ∀ (us' : List pV) (s' : Int × pH), s' = B_X12_minute_279 x3 h → WP 192 (279, [(14, 248), us'.getD 0 pU, us'.getD 1 pU, (0, s'.1), us'.getD 2 pU, us'.getD 3 pU, us'.getD 4 pU], [], s'.2) Q := fun us' s' e => by subst e; exact kk us'
    unfold P_X12_minute_279 at hP
    obtain ⟨o112, o113, o114, o115, o116⟩ := hP hc
    show WP 192 (279, [(14, 248), us.getD 0 pU, us.getD 1 pU, (0, x3), us.getD 2 pU, us.getD 3 pU, us.getD 4 pU], [], h) Q
    refine WP.iload_n rfl rfl ?_
    refine WP.bipush rfl ?_
    refine WP.ni_lt rfl (fun c111 => ?_) (fun c111 => ?_)
    · exact absurd hc (Int.not_le.mpr c111)
    · refine WP.aload_n rfl rfl ⟨by decide, by decide⟩ ?_
      refine WP.getRF (b := 249) rfl rfl rfl ?_
      refine WP.sipush rfl ?_
      refine WP.iload_n rfl rfl ?_
      refine WP.iaddE rfl o112 ?_
      refine WP.aload_n rfl rfl ⟨by decide, by decide⟩ ?_
      refine WP.getRF (b := 249) rfl rfl rfl ?_
      refine WP.sipush rfl ?_
      refine WP.iload_n rfl rfl ?_
      refine WP.iaddE rfl o112 ?_
      refine WP.bipush rfl ?_
      refine WP.isubE rfl o113 ?_
      refine WP.laload rfl ⟨by decide, by decide, by decide⟩ o114 ?_
      refine WP.lastore rfl ⟨by decide, by decide, by decide⟩ o115 ?_
      refine WP.iincE (L' := [(14, 248), us.getD 0 pU, if (us.getD 1 pU).1 = 1 then pU else us.getD 1 pU, (0, x3 + (-1)), us.getD 2 pU, us.getD 3 pU, us.getD 4 pU]) rfl rfl o116 rfl ?_
      refine WP.goto rfl ?_
      exact kk [us.getD 0 pU, if (us.getD 1 pU).1 = 1 then pU else us.getD 1 pU, us.getD 2 pU, us.getD 3 pU, us.getD 4 pU] (x3 + (-1), pm_upd h 249 (440 + x3) (h 249 ((440 + x3) - 12))) (rfl)
  · intro hP hc
    generalize hs : (L_X12_minute_279 x3 h : Int × pH) = s at kk
    change P_X12_minute_279 (L_X12_minute_279 x3 h).1 (L_X12_minute_279 x3 h).2 at hP
    change ¬ C_X12_minute_279 (L_X12_minute_279 x3 h).1 (L_X12_minute_279 x3 h).2 at hc
    intro us
    show WP 192 (279, [(14, 248), us.getD 0 pU, us.getD 1 pU, (0, (L_X12_minute_279 x3 h).1), us.getD 2 pU, us.getD 3 pU, us.getD 4 pU], [], (L_X12_minute_279 x3 h).2) Q
    rw [hs] at hP hc ⊢
    obtain ⟨x3, h⟩ := s
    change P_X12_minute_279 x3 h at hP
    change ¬ (12 ≤ x3) at hc
    unfold P_X12_minute_279 at hP
    show WP 192 (279, [(14, 248), us.getD 0 pU, us.getD 1 pU, (0, x3), us.getD 2 pU, us.getD 3 pU, us.getD 4 pU], [], h) Q
    refine WP.iload_n rfl rfl ?_
    refine WP.bipush rfl ?_
    refine WP.ni_lt rfl (fun c110 => ?_) (fun c110 => ?_)
    · exact kk [us.getD 0 pU, us.getD 1 pU, us.getD 2 pU, us.getD 3 pU, us.getD 4 pU]
    · exact absurd (show 12 ≤ x3 from c110) hc
noncomputable def s_X12_minute_27 (h : pH) : Int := (L_X12_minute_279 59 (s_X12_minute_26 h)).1
noncomputable def s_X12_minute_28 (h : pH) : pH := (L_X12_minute_279 59 (s_X12_minute_26 h)).2
def C_X12_minute_300 (x3 : Int) (h : pH) : Prop := x3 < 12
noncomputable def B_X12_minute_300 (x3 : Int) (h : pH) : Int × pH := (x3 + 1, pm_upd h 249 (440 + x3) (h 260 x3))
noncomputable def P_X12_minute_300 (x3 : Int) (h : pH) : Prop := ((x3 < 12) → (fx_i (440 + x3)) ∧ (0 ≤ x3 ∧ x3 < 12) ∧ (0 ≤ 440 + x3 ∧ 440 + x3 < 620) ∧ (fx_i (x3 + 1)))
noncomputable def L_X12_minute_300 (x3 : Int) (h : pH) : Int × pH := fx_wh (σ := Int × pH) (fun s => C_X12_minute_300 s.1 s.2) (fun s => B_X12_minute_300 s.1 s.2) (x3, h)
def O_X12_minute_300 (x3 : Int) (h : pH) : Prop := fx_ok (σ := Int × pH) (fun s => C_X12_minute_300 s.1 s.2) (fun s => B_X12_minute_300 s.1 s.2) (fun s => P_X12_minute_300 s.1 s.2) (x3, h)
set_option maxHeartbeats 4000000 in
theorem lp_X12_minute_300 (x3 : Int) (h : pH) {Q : Option pV → pH → Prop} (hp : O_X12_minute_300 x3 h) (kk : ∀ us : List pV, WP 192 (315, [(14, 248), us.getD 0 pU, us.getD 1 pU, (0, (L_X12_minute_300 x3 h).1), us.getD 2 pU, us.getD 3 pU, us.getD 4 pU], [], (L_X12_minute_300 x3 h).2) Q) : ∀ us : List pV, WP 192 (300, [(14, 248), us.getD 0 pU, us.getD 1 pU, (0, x3), us.getD 2 pU, us.getD 3 pU, us.getD 4 pU], [], h) Q := by
  refine WP.wh (σ := Int × pH) (fun s => C_X12_minute_300 s.1 s.2) (fun s => B_X12_minute_300 s.1 s.2) (fun s => P_X12_minute_300 s.1 s.2) (fun s us => (300, [(14, 248), us.getD 0 pU, us.getD 1 pU, (0, s.1), us.getD 2 pU, us.getD 3 pU, us.getD 4 pU], [], s.2)) (x3, h) hp ?_ ?_
  · intro s us hP hc kk
    obtain ⟨x3, h⟩ := s
    change P_X12_minute_300 x3 h at hP
    change x3 < 12 at hc
    replace kk : ∀ (us' : List pV) (s' : Int × pH), s' = B_X12_minute_300 x3 h → WP 192 (300, [(14, 248), us'.getD 0 pU, us'.getD 1 pU, (0, s'.1), us'.getD 2 pU, us'.getD 3 pU, us'.getD 4 pU], [], s'.2) Q := fun us' s' e => by subst e; exact kk us'
    unfold P_X12_minute_300 at hP
    obtain ⟨o121, o122, o123, o124⟩ := hP hc
    show WP 192 (300, [(14, 248), us.getD 0 pU, us.getD 1 pU, (0, x3), us.getD 2 pU, us.getD 3 pU, us.getD 4 pU], [], h) Q
    refine WP.iload_n rfl rfl ?_
    refine WP.bipush rfl ?_
    refine WP.ni_ge rfl (fun c120 => ?_) (fun c120 => ?_)
    · exact absurd hc (Int.not_lt.mpr c120)
    · refine WP.aload_n rfl rfl ⟨by decide, by decide⟩ ?_
      refine WP.getRF (b := 249) rfl rfl rfl ?_
      refine WP.sipush rfl ?_
      refine WP.iload_n rfl rfl ?_
      refine WP.iaddE rfl o121 ?_
      refine WP.aload_n rfl rfl ⟨by decide, by decide⟩ ?_
      refine WP.getRF (b := 260) rfl rfl rfl ?_
      refine WP.iload_n rfl rfl ?_
      refine WP.laload rfl ⟨by decide, by decide, by decide⟩ o122 ?_
      refine WP.lastore rfl ⟨by decide, by decide, by decide⟩ o123 ?_
      refine WP.iincE (L' := [(14, 248), us.getD 0 pU, if (us.getD 1 pU).1 = 1 then pU else us.getD 1 pU, (0, x3 + 1), us.getD 2 pU, us.getD 3 pU, us.getD 4 pU]) rfl rfl o124 rfl ?_
      refine WP.goto rfl ?_
      exact kk [us.getD 0 pU, if (us.getD 1 pU).1 = 1 then pU else us.getD 1 pU, us.getD 2 pU, us.getD 3 pU, us.getD 4 pU] (x3 + 1, pm_upd h 249 (440 + x3) (h 260 x3)) (rfl)
  · intro hP hc
    generalize hs : (L_X12_minute_300 x3 h : Int × pH) = s at kk
    change P_X12_minute_300 (L_X12_minute_300 x3 h).1 (L_X12_minute_300 x3 h).2 at hP
    change ¬ C_X12_minute_300 (L_X12_minute_300 x3 h).1 (L_X12_minute_300 x3 h).2 at hc
    intro us
    show WP 192 (300, [(14, 248), us.getD 0 pU, us.getD 1 pU, (0, (L_X12_minute_300 x3 h).1), us.getD 2 pU, us.getD 3 pU, us.getD 4 pU], [], (L_X12_minute_300 x3 h).2) Q
    rw [hs] at hP hc ⊢
    obtain ⟨x3, h⟩ := s
    change P_X12_minute_300 x3 h at hP
    change ¬ (x3 < 12) at hc
    unfold P_X12_minute_300 at hP
    show WP 192 (300, [(14, 248), us.getD 0 pU, us.getD 1 pU, (0, x3), us.getD 2 pU, us.getD 3 pU, us.getD 4 pU], [], h) Q
    refine WP.iload_n rfl rfl ?_
    refine WP.bipush rfl ?_
    refine WP.ni_ge rfl (fun c119 => ?_) (fun c119 => ?_)
    · exact kk [us.getD 0 pU, us.getD 1 pU, us.getD 2 pU, us.getD 3 pU, us.getD 4 pU]
    · exact absurd (show x3 < 12 from c119) hc
noncomputable def s_X12_minute_29 (h : pH) : Int := (L_X12_minute_300 0 (s_X12_minute_28 h)).1
noncomputable def s_X12_minute_30 (h : pH) : pH := (L_X12_minute_300 0 (s_X12_minute_28 h)).2
noncomputable def s_X12_minute_31 (h : pH) : pH := pm_upd (s_X12_minute_30 h) 249 15 (((s_X12_minute_30 h) 249 15) + 1)
noncomputable def H_X12_minute (h : pH) : pH := s_X12_minute_31 h
noncomputable def P_X12_minute (h : pH) : Prop := P_X12_workRules h ∧ (O_X12_minute_26 0 (pm_upd (H_X12_workRules h) 249 16 (s_X12_minute_2 h))) ∧ (O_X12_minute_50 0 (s_X12_minute_5 h)) ∧ (P_X12_findLine (s_X12_minute_7 h)) ∧ (O_X12_minute_78 0 (H_X12_findLine (s_X12_minute_7 h))) ∧ (O_X12_minute_122 0 (s_X12_minute_12 h)) ∧ (O_X12_minute_210 0 (s_X12_minute_18 h)) ∧ (P_X12_supply (s_X12_minute_20 h)) ∧ (P_X12_warm (H_X12_supply (s_X12_minute_20 h))) ∧ (P_X12_fail (H_X12_warm (H_X12_supply (s_X12_minute_20 h)))) ∧ (O_X12_minute_226 0 (H_X12_fail (H_X12_warm (H_X12_supply (s_X12_minute_20 h))))) ∧ (O_X12_minute_246 0 (s_X12_minute_22 h)) ∧ (O_X12_minute_279 59 (s_X12_minute_26 h)) ∧ (O_X12_minute_300 0 (s_X12_minute_28 h)) ∧ (fx_l (((s_X12_minute_30 h) 249 15) + 1))
set_option maxHeartbeats 4000000 in
theorem w_X12_minute (h : pH) {Q : Option pV → pH → Prop} (hp : P_X12_minute h) (kk : Q (none) (H_X12_minute h)) : WP 192 (0, [(14, 248), pU, pU, pU, pU, pU, pU], [], h) Q := by
  unfold P_X12_minute at hp
  obtain ⟨o1, o15, o24, o26, o41, o76, o82, o84, o85, o86, o97, o108, o117, o125, o127⟩ := hp
  refine WP.aload_n rfl rfl ⟨by decide, by decide⟩ ?_
  refine WP.callF (c_X12_workRules h o1) rfl rfl (pm_cok rfl rfl (Or.inr ⟨_, _, rfl⟩) rfl rfl) rfl rfl ?_
  show WP 192 (2, [(14, 248), pU, pU, pU, pU, pU, pU], [], H_X12_workRules h) Q
  refine WP.aload_n rfl rfl ⟨by decide, by decide⟩ ?_
  refine WP.getI rfl rfl ?_
  refine WP.iconst rfl ?_
  have k2 : ∀ Q' : Option pV → pH → Prop, (WP 192 (10, [(14, 248), pU, pU, pU, pU, pU, pU], [(1, s_X12_minute_1 h)], H_X12_workRules h) Q') → WP 192 (5, [(14, 248), pU, pU, pU, pU, pU, pU], [(0, (-1)), (0, (H_X12_workRules h) 248 12)], H_X12_workRules h) Q' := fun Q' kk => by
    refine WP.ni_ne rfl (fun c3 => ?_) (fun c3 => ?_)
    · refine WP.ldc2_w rfl ?_
      have e := kk; simp only [s_X12_minute_1, if_neg (c3)] at e ⊢; exact e
    · refine WP.aload_n rfl rfl ⟨by decide, by decide⟩ ?_
      refine WP.getJ rfl rfl ?_
      refine WP.goto rfl ?_
      have e := kk; simp only [s_X12_minute_1, if_pos c3] at e ⊢; exact e
  refine k2 _ ?_
  refine WP.lstore_n (L' := [(14, 248), (1, s_X12_minute_1 h), pU, pU, pU, pU, pU]) rfl rfl ?_
  refine WP.aload_n rfl rfl ⟨by decide, by decide⟩ ?_
  refine WP.getRF (b := 249) rfl rfl rfl ?_
  refine WP.bipush rfl ?_
  refine WP.lload_n rfl rfl ?_
  refine WP.lconst rfl ?_
  refine WP.lcmp rfl ?_
  have k5 : ∀ Q' : Option pV → pH → Prop, (WP 192 (23, [(14, 248), (1, s_X12_minute_1 h), pU, pU, pU, pU, pU], [(1, s_X12_minute_2 h), (0, 16), (3481, 249)], H_X12_workRules h) Q') → WP 192 (17, [(14, 248), (1, s_X12_minute_1 h), pU, pU, pU, pU, pU], [(0, pm_lcmp (s_X12_minute_1 h) 0), (0, 16), (3481, 249)], H_X12_workRules h) Q' := fun Q' kk => by
    refine WP.nl_ge rfl (fun c6 => ?_) (fun c6 => ?_)
    · refine WP.lload_n rfl rfl ?_
      refine WP.ldc2_w rfl ?_
      refine WP.callF (c_X12_less (s_X12_minute_1 h) 3 (H_X12_workRules h)) rfl rfl (pm_cok rfl rfl (Or.inl rfl) rfl rfl) rfl rfl ?_
      show WP 192 (23, [(14, 248), (1, s_X12_minute_1 h), pU, pU, pU, pU, pU], [(1, s_X12_less_1 (s_X12_minute_1 h) 3), (0, 16), (3481, 249)], H_X12_workRules h) Q'
      have e := kk; simp only [s_X12_minute_2, if_pos c6] at e ⊢; exact e
    · refine WP.lconst rfl ?_
      refine WP.goto rfl ?_
      have e := kk; simp only [s_X12_minute_2, if_neg (Int.not_le.mpr c6)] at e ⊢; exact e
  refine k5 _ ?_
  refine WP.lastore rfl ⟨by decide, by decide, by decide⟩ (by decide) ?_
  refine WP.iconst rfl ?_
  refine WP.istore_n (L' := [(14, 248), (1, s_X12_minute_1 h), pU, (0, 0), pU, pU, pU]) rfl rfl ?_
  refine lp_X12_minute_26 0 (pm_upd (H_X12_workRules h) 249 16 (s_X12_minute_2 h)) o15 (fun us16 => ?_) [(1, s_X12_minute_1 h), pU, pU, pU, pU]
  show WP 192 (48, [(14, 248), us16.getD 0 pU, us16.getD 1 pU, (0, s_X12_minute_4 h), us16.getD 2 pU, us16.getD 3 pU, us16.getD 4 pU], [], s_X12_minute_5 h) Q
  refine WP.iconst rfl ?_
  refine WP.istore_n (L' := [(14, 248), us16.getD 0 pU, if (us16.getD 1 pU).1 = 1 then pU else us16.getD 1 pU, (0, 0), us16.getD 2 pU, us16.getD 3 pU, us16.getD 4 pU]) rfl rfl ?_
  refine lp_X12_minute_50 0 (s_X12_minute_5 h) o24 (fun us25 => ?_) [us16.getD 0 pU, if (us16.getD 1 pU).1 = 1 then pU else us16.getD 1 pU, us16.getD 2 pU, us16.getD 3 pU, us16.getD 4 pU]
  show WP 192 (74, [(14, 248), us25.getD 0 pU, us25.getD 1 pU, (0, s_X12_minute_6 h), us25.getD 2 pU, us25.getD 3 pU, us25.getD 4 pU], [], s_X12_minute_7 h) Q
  refine WP.aload_n rfl rfl ⟨by decide, by decide⟩ ?_
  refine WP.callF (c_X12_findLine (s_X12_minute_7 h) o26) rfl rfl (pm_cok rfl rfl (Or.inr ⟨_, _, rfl⟩) rfl rfl) rfl rfl ?_
  show WP 192 (76, [(14, 248), us25.getD 0 pU, us25.getD 1 pU, (0, s_X12_minute_6 h), us25.getD 2 pU, us25.getD 3 pU, us25.getD 4 pU], [], H_X12_findLine (s_X12_minute_7 h)) Q
  refine WP.iconst rfl ?_
  refine WP.istore_n (L' := [(14, 248), us25.getD 0 pU, if (us25.getD 1 pU).1 = 1 then pU else us25.getD 1 pU, (0, 0), us25.getD 2 pU, us25.getD 3 pU, us25.getD 4 pU]) rfl rfl ?_
  refine lp_X12_minute_78 0 (H_X12_findLine (s_X12_minute_7 h)) o41 (fun us42 => ?_) [us25.getD 0 pU, if (us25.getD 1 pU).1 = 1 then pU else us25.getD 1 pU, us25.getD 2 pU, us25.getD 3 pU, us25.getD 4 pU]
  show WP 192 (120, [(14, 248), us42.getD 0 pU, us42.getD 1 pU, (0, s_X12_minute_11 h), us42.getD 2 pU, us42.getD 3 pU, us42.getD 4 pU], [], s_X12_minute_12 h) Q
  refine WP.iconst rfl ?_
  refine WP.istore_n (L' := [(14, 248), us42.getD 0 pU, if (us42.getD 1 pU).1 = 1 then pU else us42.getD 1 pU, (0, 0), us42.getD 2 pU, us42.getD 3 pU, us42.getD 4 pU]) rfl rfl ?_
  refine lp_X12_minute_122 0 (s_X12_minute_12 h) o76 (fun us77 => ?_) [us42.getD 0 pU, if (us42.getD 1 pU).1 = 1 then pU else us42.getD 1 pU, us42.getD 2 pU, us42.getD 3 pU, us42.getD 4 pU]
  show WP 192 (208, [(14, 248), us77.getD 0 pU, us77.getD 1 pU, (0, s_X12_minute_17 h), us77.getD 2 pU, us77.getD 3 pU, us77.getD 4 pU], [], s_X12_minute_18 h) Q
  refine WP.iconst rfl ?_
  refine WP.istore_n (L' := [(14, 248), us77.getD 0 pU, if (us77.getD 1 pU).1 = 1 then pU else us77.getD 1 pU, (0, 0), us77.getD 2 pU, us77.getD 3 pU, us77.getD 4 pU]) rfl rfl ?_
  refine lp_X12_minute_210 0 (s_X12_minute_18 h) o82 (fun us83 => ?_) [us77.getD 0 pU, if (us77.getD 1 pU).1 = 1 then pU else us77.getD 1 pU, us77.getD 2 pU, us77.getD 3 pU, us77.getD 4 pU]
  show WP 192 (218, [(14, 248), us83.getD 0 pU, us83.getD 1 pU, (0, s_X12_minute_19 h), us83.getD 2 pU, us83.getD 3 pU, us83.getD 4 pU], [], s_X12_minute_20 h) Q
  refine WP.aload_n rfl rfl ⟨by decide, by decide⟩ ?_
  refine WP.callF (c_X12_supply (s_X12_minute_20 h) o84) rfl rfl (pm_cok rfl rfl (Or.inr ⟨_, _, rfl⟩) rfl rfl) rfl rfl ?_
  show WP 192 (220, [(14, 248), us83.getD 0 pU, us83.getD 1 pU, (0, s_X12_minute_19 h), us83.getD 2 pU, us83.getD 3 pU, us83.getD 4 pU], [], H_X12_supply (s_X12_minute_20 h)) Q
  refine WP.aload_n rfl rfl ⟨by decide, by decide⟩ ?_
  refine WP.callF (c_X12_warm (H_X12_supply (s_X12_minute_20 h)) o85) rfl rfl (pm_cok rfl rfl (Or.inr ⟨_, _, rfl⟩) rfl rfl) rfl rfl ?_
  show WP 192 (222, [(14, 248), us83.getD 0 pU, us83.getD 1 pU, (0, s_X12_minute_19 h), us83.getD 2 pU, us83.getD 3 pU, us83.getD 4 pU], [], H_X12_warm (H_X12_supply (s_X12_minute_20 h))) Q
  refine WP.aload_n rfl rfl ⟨by decide, by decide⟩ ?_
  refine WP.callF (c_X12_fail (H_X12_warm (H_X12_supply (s_X12_minute_20 h))) o86) rfl rfl (pm_cok rfl rfl (Or.inr ⟨_, _, rfl⟩) rfl rfl) rfl rfl ?_
  show WP 192 (224, [(14, 248), us83.getD 0 pU, us83.getD 1 pU, (0, s_X12_minute_19 h), us83.getD 2 pU, us83.getD 3 pU, us83.getD 4 pU], [], H_X12_fail (H_X12_warm (H_X12_supply (s_X12_minute_20 h)))) Q
  refine WP.iconst rfl ?_
  refine WP.istore_n (L' := [(14, 248), us83.getD 0 pU, if (us83.getD 1 pU).1 = 1 then pU else us83.getD 1 pU, (0, 0), us83.getD 2 pU, us83.getD 3 pU, us83.getD 4 pU]) rfl rfl ?_
  refine lp_X12_minute_226 0 (H_X12_fail (H_X12_warm (H_X12_supply (s_X12_minute_20 h)))) o97 (fun us98 => ?_) [us83.getD 0 pU, if (us83.getD 1 pU).1 = 1 then pU else us83.getD 1 pU, us83.getD 2 pU, us83.getD 3 pU, us83.getD 4 pU]
  show WP 192 (244, [(14, 248), us98.getD 0 pU, us98.getD 1 pU, (0, s_X12_minute_21 h), us98.getD 2 pU, us98.getD 3 pU, us98.getD 4 pU], [], s_X12_minute_22 h) Q
  refine WP.iconst rfl ?_
  refine WP.istore_n (L' := [(14, 248), us98.getD 0 pU, if (us98.getD 1 pU).1 = 1 then pU else us98.getD 1 pU, (0, 0), us98.getD 2 pU, us98.getD 3 pU, us98.getD 4 pU]) rfl rfl ?_
  refine lp_X12_minute_246 0 (s_X12_minute_22 h) o108 (fun us109 => ?_) [us98.getD 0 pU, if (us98.getD 1 pU).1 = 1 then pU else us98.getD 1 pU, us98.getD 2 pU, us98.getD 3 pU, us98.getD 4 pU]
  show WP 192 (277, [(14, 248), us109.getD 0 pU, us109.getD 1 pU, (0, s_X12_minute_25 h), us109.getD 2 pU, us109.getD 3 pU, us109.getD 4 pU], [], s_X12_minute_26 h) Q
  refine WP.bipush rfl ?_
  refine WP.istore_n (L' := [(14, 248), us109.getD 0 pU, if (us109.getD 1 pU).1 = 1 then pU else us109.getD 1 pU, (0, 59), us109.getD 2 pU, us109.getD 3 pU, us109.getD 4 pU]) rfl rfl ?_
  refine lp_X12_minute_279 59 (s_X12_minute_26 h) o117 (fun us118 => ?_) [us109.getD 0 pU, if (us109.getD 1 pU).1 = 1 then pU else us109.getD 1 pU, us109.getD 2 pU, us109.getD 3 pU, us109.getD 4 pU]
  show WP 192 (298, [(14, 248), us118.getD 0 pU, us118.getD 1 pU, (0, s_X12_minute_27 h), us118.getD 2 pU, us118.getD 3 pU, us118.getD 4 pU], [], s_X12_minute_28 h) Q
  refine WP.iconst rfl ?_
  refine WP.istore_n (L' := [(14, 248), us118.getD 0 pU, if (us118.getD 1 pU).1 = 1 then pU else us118.getD 1 pU, (0, 0), us118.getD 2 pU, us118.getD 3 pU, us118.getD 4 pU]) rfl rfl ?_
  refine lp_X12_minute_300 0 (s_X12_minute_28 h) o125 (fun us126 => ?_) [us118.getD 0 pU, if (us118.getD 1 pU).1 = 1 then pU else us118.getD 1 pU, us118.getD 2 pU, us118.getD 3 pU, us118.getD 4 pU]
  show WP 192 (315, [(14, 248), us126.getD 0 pU, us126.getD 1 pU, (0, s_X12_minute_29 h), us126.getD 2 pU, us126.getD 3 pU, us126.getD 4 pU], [], s_X12_minute_30 h) Q
  refine WP.aload_n rfl rfl ⟨by decide, by decide⟩ ?_
  refine WP.getRF (b := 249) rfl rfl rfl ?_
  refine WP.bipush rfl ?_
  refine WP.dup2 rfl (by decide) (by decide) ?_
  refine WP.laload rfl ⟨by decide, by decide, by decide⟩ (by decide) ?_
  refine WP.lconst rfl ?_
  refine WP.laddE rfl o127 ?_
  refine WP.lastore rfl ⟨by decide, by decide, by decide⟩ (by decide) ?_
  show WP 192 (323, [(14, 248), us126.getD 0 pU, us126.getD 1 pU, (0, s_X12_minute_29 h), us126.getD 2 pU, us126.getD 3 pU, us126.getD 4 pU], [], s_X12_minute_31 h) Q
  refine WP.retv rfl ?_; exact kk
theorem c_X12_minute (h : pH) (hp : P_X12_minute h) : CP 192 [(14, 248)] h (fun r h1 => r = none ∧ h1 = H_X12_minute h) := w_X12_minute h hp ⟨rfl, rfl⟩
noncomputable def s_X9_readUnit_1 (a0 : Int) (h : pH) : pH := pm_upd (pm_upd h a0 8 ((h a0 8) + 1)) a0 9 (pm_and ((pm_upd h a0 8 ((h a0 8) + 1)) a0 9) (pm_xor (pm_shl 1 ((pm_upd h a0 8 ((h a0 8) + 1)) a0 8)) (-1)))
noncomputable def s_X9_readUnit_2 (a0 : Int) (a1 : Int) (a2 : Int) (h : pH) : pH := if pm_ix (pm_i2c a2) < 0 then if a2 = 33 then H_X9_await a0 33 h else if a2 = 45 then H_X9_await a0 126 h else if a2 = 40 then if h a0 8 = 8 then H_X9_refuse a0 a1 3 h else H_X9_await a0 40 (s_X9_readUnit_1 a0 h) else H_X9_refuse a0 a1 1 h else H_X9_putUnit a0 ((-1) - (pm_ix (pm_i2c a2))) h
noncomputable def H_X9_readUnit (a0 : Int) (a1 : Int) (a2 : Int) (h : pH) : pH := s_X9_readUnit_2 a0 a1 a2 h
noncomputable def P_X9_readUnit (a0 : Int) (a1 : Int) (a2 : Int) (h : pH) : Prop := ((((pm_ix (pm_i2c a2) < 0) → ((((a2 = 33) → P_X9_await a0 33 h) ∧ ((¬ a2 = 33) → ((((a2 = 45) → P_X9_await a0 126 h) ∧ ((¬ a2 = 45) → ((((a2 = 40) → ((((h a0 8 = 8) → P_X9_refuse a0 a1 3 h) ∧ ((¬ h a0 8 = 8) → ((fx_i ((h a0 8) + 1)) ∧ (P_X9_await a0 40 (s_X9_readUnit_1 a0 h))))))) ∧ ((¬ a2 = 40) → P_X9_refuse a0 a1 1 h)))))))))) ∧ ((0 ≤ pm_ix (pm_i2c a2)) → ((fx_i ((-1) - (pm_ix (pm_i2c a2)))) ∧ (P_X9_putUnit a0 ((-1) - (pm_ix (pm_i2c a2))) h)))))
set_option maxHeartbeats 4000000 in
theorem w_X9_readUnit (a0 : Int) (a1 : Int) (a2 : Int) (h : pH) {Q : Option pV → pH → Prop} (hp : P_X9_readUnit a0 a1 a2 h) (kk : Q (none) (H_X9_readUnit a0 a1 a2 h)) : WP 65 (0, [(11, a0), (0, a1), (0, a2), pU], [], h) Q := by
  unfold P_X9_readUnit at hp
  have q21 := hp
  refine WP.ldcS rfl ?_
  refine WP.iload_n rfl rfl ?_
  refine WP.i2c rfl ?_
  refine WP.ixOf rfl rfl ?_
  refine WP.istore_n (L' := [(11, a0), (0, a1), (0, a2), (0, pm_ix (pm_i2c a2))]) rfl rfl ?_
  refine WP.iload_n rfl rfl ?_
  have k1 : ∀ Q' : Option pV → pH → Prop, (WP 65 (64, [(11, a0), (0, a1), (0, a2), (0, pm_ix (pm_i2c a2))], [], s_X9_readUnit_2 a0 a1 a2 h) Q') → WP 65 (6, [(11, a0), (0, a1), (0, a2), (0, pm_ix (pm_i2c a2))], [(0, pm_ix (pm_i2c a2))], h) Q' := fun Q' kk => by
    have q19 := q21
    refine WP.nz_lt rfl (fun c2 => ?_) (fun c2 => ?_)
    · have q16 := q19.1 c2
      refine WP.iload_n rfl rfl ?_
      refine WP.bipush rfl ?_
      refine WP.ni_ne rfl (fun c3 => ?_) (fun c3 => ?_)
      · have q15 := q16.2 c3
        refine WP.iload_n rfl rfl ?_
        refine WP.bipush rfl ?_
        refine WP.ni_ne rfl (fun c5 => ?_) (fun c5 => ?_)
        · have q14 := q15.2 c5
          refine WP.iload_n rfl rfl ?_
          refine WP.bipush rfl ?_
          refine WP.ni_eq rfl (fun c7 => ?_) (fun c7 => ?_)
          · have q12 := q14.1 c7
            refine WP.aload_n rfl rfl ⟨by decide, by decide⟩ ?_
            refine WP.getI rfl rfl ?_
            refine WP.bipush rfl ?_
            refine WP.ni_ne rfl (fun c8 => ?_) (fun c8 => ?_)
            · obtain ⟨o10, o11⟩ := q12.2 c8
              refine WP.aload_n rfl rfl ⟨by decide, by decide⟩ ?_
              refine WP.dup rfl (by decide) ?_
              refine WP.getI rfl rfl ?_
              refine WP.iconst rfl ?_
              refine WP.iaddE rfl o10 ?_
              refine WP.putI rfl rfl ?_
              refine WP.aload_n rfl rfl ⟨by decide, by decide⟩ ?_
              refine WP.dup rfl (by decide) ?_
              refine WP.getI rfl rfl ?_
              refine WP.iconst rfl ?_
              refine WP.aload_n rfl rfl ⟨by decide, by decide⟩ ?_
              refine WP.getI rfl rfl ?_
              refine WP.ishl rfl ?_
              refine WP.iconst rfl ?_
              refine WP.ixor rfl ?_
              refine WP.iand rfl ?_
              refine WP.putI rfl rfl ?_
              show WP 65 (61, [(11, a0), (0, a1), (0, a2), (0, pm_ix (pm_i2c a2))], [], s_X9_readUnit_1 a0 h) Q'
              refine WP.aload_n rfl rfl ⟨by decide, by decide⟩ ?_
              refine WP.bipush rfl ?_
              refine WP.callF (c_X9_await a0 40 (s_X9_readUnit_1 a0 h) o11) rfl rfl (pm_cok rfl rfl (Or.inr ⟨_, _, rfl⟩) rfl rfl) rfl rfl ?_
              show WP 65 (64, [(11, a0), (0, a1), (0, a2), (0, pm_ix (pm_i2c a2))], [], H_X9_await a0 40 (s_X9_readUnit_1 a0 h)) Q'
              have e := kk; simp only [s_X9_readUnit_2, if_pos c2, if_neg (c3), if_neg (c5), if_pos c7, if_neg (c8)] at e ⊢; exact e
            · have o9 := q12.1 c8
              refine WP.aload_n rfl rfl ⟨by decide, by decide⟩ ?_
              refine WP.iload_n rfl rfl ?_
              refine WP.iconst rfl ?_
              refine WP.callF (c_X9_refuse a0 a1 3 h o9) rfl rfl (pm_cok rfl rfl (Or.inr ⟨_, _, rfl⟩) rfl rfl) rfl rfl ?_
              show WP 65 (43, [(11, a0), (0, a1), (0, a2), (0, pm_ix (pm_i2c a2))], [], H_X9_refuse a0 a1 3 h) Q'
              refine WP.goto rfl ?_
              have e := kk; simp only [s_X9_readUnit_2, if_pos c2, if_neg (c3), if_neg (c5), if_pos c7, if_pos c8] at e ⊢; exact e
          · have o13 := q14.2 c7
            refine WP.aload_n rfl rfl ⟨by decide, by decide⟩ ?_
            refine WP.iload_n rfl rfl ?_
            refine WP.iconst rfl ?_
            refine WP.callF (c_X9_refuse a0 a1 1 h o13) rfl rfl (pm_cok rfl rfl (Or.inr ⟨_, _, rfl⟩) rfl rfl) rfl rfl ?_
            show WP 65 (34, [(11, a0), (0, a1), (0, a2), (0, pm_ix (pm_i2c a2))], [], H_X9_refuse a0 a1 1 h) Q'
            refine WP.goto rfl ?_
            have e := kk; simp only [s_X9_readUnit_2, if_pos c2, if_neg (c3), if_neg (c5), if_neg (c7)] at e ⊢; exact e
        · have o6 := q15.1 c5
          refine WP.aload_n rfl rfl ⟨by decide, by decide⟩ ?_
          refine WP.bipush rfl ?_
          refine WP.callF (c_X9_await a0 126 h o6) rfl rfl (pm_cok rfl rfl (Or.inr ⟨_, _, rfl⟩) rfl rfl) rfl rfl ?_
          show WP 65 (26, [(11, a0), (0, a1), (0, a2), (0, pm_ix (pm_i2c a2))], [], H_X9_await a0 126 h) Q'
          refine WP.goto rfl ?_
          have e := kk; simp only [s_X9_readUnit_2, if_pos c2, if_neg (c3), if_pos c5] at e ⊢; exact e
      · have o4 := q16.1 c3
        refine WP.aload_n rfl rfl ⟨by decide, by decide⟩ ?_
        refine WP.bipush rfl ?_
        refine WP.callF (c_X9_await a0 33 h o4) rfl rfl (pm_cok rfl rfl (Or.inr ⟨_, _, rfl⟩) rfl rfl) rfl rfl ?_
        show WP 65 (19, [(11, a0), (0, a1), (0, a2), (0, pm_ix (pm_i2c a2))], [], H_X9_await a0 33 h) Q'
        refine WP.goto rfl ?_
        have e := kk; simp only [s_X9_readUnit_2, if_pos c2, if_pos c3] at e ⊢; exact e
    · obtain ⟨o17, o18⟩ := q19.2 c2
      refine WP.aload_n rfl rfl ⟨by decide, by decide⟩ ?_
      refine WP.iconst rfl ?_
      refine WP.iload_n rfl rfl ?_
      refine WP.isubE rfl o17 ?_
      refine WP.callF (c_X9_putUnit a0 ((-1) - (pm_ix (pm_i2c a2))) h o18) rfl rfl (pm_cok rfl rfl (Or.inr ⟨_, _, rfl⟩) rfl rfl) rfl rfl ?_
      show WP 65 (12, [(11, a0), (0, a1), (0, a2), (0, pm_ix (pm_i2c a2))], [], H_X9_putUnit a0 ((-1) - (pm_ix (pm_i2c a2))) h) Q'
      refine WP.goto rfl ?_
      have e := kk; simp only [s_X9_readUnit_2, if_neg (Int.not_lt.mpr c2)] at e ⊢; exact e
  refine k1 _ ?_
  refine WP.retv rfl ?_; exact kk
theorem c_X9_readUnit (a0 : Int) (a1 : Int) (a2 : Int) (h : pH) (hp : P_X9_readUnit a0 a1 a2 h) : CP 65 [(11, a0), (0, a1), (0, a2)] h (fun r h1 => r = none ∧ h1 = H_X9_readUnit a0 a1 a2 h) := w_X9_readUnit a0 a1 a2 h hp ⟨rfl, rfl⟩
noncomputable def s_X11_worst_1 (x4 : Int) (h : pH) : Int := if h 96 x4 ≤ 0 then (-1) else F_X11_brokenInDrill x4 h
noncomputable def s_X11_worst_2 (x2 : Int) (x3 : Int) (x4 : Int) (h : pH) : Int := if s_X11_worst_1 x4 h ≤ x3 then x2 else x4
noncomputable def s_X11_worst_3 (x3 : Int) (x4 : Int) (h : pH) : Int := if s_X11_worst_1 x4 h ≤ x3 then x3 else s_X11_worst_1 x4 h
def C_X11_worst_13 (a1 : Int) (x2 : Int) (x3 : Int) (x4 : Int) (h : pH) : Prop := x4 < 4
noncomputable def B_X11_worst_13 (a1 : Int) (x2 : Int) (x3 : Int) (x4 : Int) (h : pH) : Int × Int × Int × pH := (s_X11_worst_2 x2 x3 x4 h, s_X11_worst_3 x3 x4 h, x4 + 1, if h 96 x4 ≤ 0 then h else H_X11_brokenInDrill x4 h)
noncomputable def P_X11_worst_13 (a1 : Int) (x2 : Int) (x3 : Int) (x4 : Int) (h : pH) : Prop := ((x4 < 4) → (0 ≤ x4 ∧ x4 < 4) ∧ (((0 < h 96 x4) → P_X11_brokenInDrill x4 h)) ∧ (fx_i (x4 + 1)))
noncomputable def L_X11_worst_13 (a1 : Int) (x2 : Int) (x3 : Int) (x4 : Int) (h : pH) : Int × Int × Int × pH := fx_wh (σ := Int × Int × Int × pH) (fun s => C_X11_worst_13 a1 s.1 s.2.1 s.2.2.1 s.2.2.2) (fun s => B_X11_worst_13 a1 s.1 s.2.1 s.2.2.1 s.2.2.2) (x2, x3, x4, h)
def O_X11_worst_13 (a1 : Int) (x2 : Int) (x3 : Int) (x4 : Int) (h : pH) : Prop := fx_ok (σ := Int × Int × Int × pH) (fun s => C_X11_worst_13 a1 s.1 s.2.1 s.2.2.1 s.2.2.2) (fun s => B_X11_worst_13 a1 s.1 s.2.1 s.2.2.1 s.2.2.2) (fun s => P_X11_worst_13 a1 s.1 s.2.1 s.2.2.1 s.2.2.2) (x2, x3, x4, h)
set_option maxHeartbeats 4000000 in
theorem lp_X11_worst_13 (a1 : Int) (x2 : Int) (x3 : Int) (x4 : Int) (h : pH) {Q : Option pV → pH → Prop} (hp : O_X11_worst_13 a1 x2 x3 x4 h) (kk : ∀ us : List pV, WP 124 (37, [(13, 0), (0, a1), (0, (L_X11_worst_13 a1 x2 x3 x4 h).1), (0, (L_X11_worst_13 a1 x2 x3 x4 h).2.1), (0, (L_X11_worst_13 a1 x2 x3 x4 h).2.2.1), us.getD 0 pU], [], (L_X11_worst_13 a1 x2 x3 x4 h).2.2.2) Q) : ∀ us : List pV, WP 124 (13, [(13, 0), (0, a1), (0, x2), (0, x3), (0, x4), us.getD 0 pU], [], h) Q := by
  refine WP.wh (σ := Int × Int × Int × pH) (fun s => C_X11_worst_13 a1 s.1 s.2.1 s.2.2.1 s.2.2.2) (fun s => B_X11_worst_13 a1 s.1 s.2.1 s.2.2.1 s.2.2.2) (fun s => P_X11_worst_13 a1 s.1 s.2.1 s.2.2.1 s.2.2.2) (fun s us => (13, [(13, 0), (0, a1), (0, s.1), (0, s.2.1), (0, s.2.2.1), us.getD 0 pU], [], s.2.2.2)) (x2, x3, x4, h) hp ?_ ?_
  · intro s us hP hc kk
    obtain ⟨x2, x3, x4, h⟩ := s
    change P_X11_worst_13 a1 x2 x3 x4 h at hP
    change x4 < 4 at hc
    replace kk : ∀ (us' : List pV) (s' : Int × Int × Int × pH), s' = B_X11_worst_13 a1 x2 x3 x4 h → WP 124 (13, [(13, 0), (0, a1), (0, s'.1), (0, s'.2.1), (0, s'.2.2.1), us'.getD 0 pU], [], s'.2.2.2) Q := fun us' s' e => by subst e; exact kk us'
    unfold P_X11_worst_13 at hP
    obtain ⟨o4, q10, o14⟩ := hP hc
    show WP 124 (13, [(13, 0), (0, a1), (0, x2), (0, x3), (0, x4), us.getD 0 pU], [], h) Q
    refine WP.iload rfl rfl ?_
    refine WP.iconst rfl ?_
    refine WP.ni_ge rfl (fun c3 => ?_) (fun c3 => ?_)
    · exact absurd hc (Int.not_lt.mpr c3)
    · refine WP.aload_n rfl rfl ⟨by decide, by decide⟩ ?_
      refine WP.getRF (b := 95) rfl rfl rfl ?_
      refine WP.getRF (b := 96) rfl rfl rfl ?_
      refine WP.iload rfl rfl ?_
      refine WP.iaload rfl ⟨by decide, by decide, by decide⟩ o4 ?_
      have k5 : ∀ Q' : Option pV → pH → Prop, (WP 124 (27, [(13, 0), (0, a1), (0, x2), (0, x3), (0, x4), us.getD 0 pU], [(0, s_X11_worst_1 x4 h)], if h 96 x4 ≤ 0 then h else H_X11_brokenInDrill x4 h) Q') → WP 124 (21, [(13, 0), (0, a1), (0, x2), (0, x3), (0, x4), us.getD 0 pU], [(0, h 96 x4)], h) Q' := fun Q' kk => by
        have q8 := q10
        refine WP.nz_le rfl (fun c6 => ?_) (fun c6 => ?_)
        · refine WP.iconst rfl ?_
          have e := kk; simp only [s_X11_worst_1, if_pos c6] at e ⊢; exact e
        · have o7 := q8 c6
          refine WP.aload_n rfl rfl ⟨by decide, by decide⟩ ?_
          refine WP.iload rfl rfl ?_
          refine WP.callF (c_X11_brokenInDrill x4 h o7) rfl rfl (pm_cok rfl rfl (Or.inr ⟨_, _, rfl⟩) rfl rfl) rfl rfl ?_
          show WP 124 (25, [(13, 0), (0, a1), (0, x2), (0, x3), (0, x4), us.getD 0 pU], [(0, F_X11_brokenInDrill x4 h)], H_X11_brokenInDrill x4 h) Q'
          refine WP.goto rfl ?_
          have e := kk; simp only [s_X11_worst_1, if_neg (Int.not_le.mpr c6)] at e ⊢; exact e
      refine k5 _ ?_
      refine WP.istore (L' := [(13, 0), (0, a1), (0, x2), (0, x3), (0, x4), (0, s_X11_worst_1 x4 h)]) rfl rfl ?_
      refine WP.iload rfl rfl ?_
      refine WP.iload_n rfl rfl ?_
      have k11 : ∀ Q' : Option pV → pH → Prop, (WP 124 (35, [(13, 0), (0, a1), (0, s_X11_worst_2 x2 x3 x4 h), (0, s_X11_worst_3 x3 x4 h), (0, x4), (0, s_X11_worst_1 x4 h)], [], if h 96 x4 ≤ 0 then h else H_X11_brokenInDrill x4 h) Q') → WP 124 (30, [(13, 0), (0, a1), (0, x2), (0, x3), (0, x4), (0, s_X11_worst_1 x4 h)], [(0, x3), (0, s_X11_worst_1 x4 h)], if h 96 x4 ≤ 0 then h else H_X11_brokenInDrill x4 h) Q' := fun Q' kk => by
        refine WP.ni_le rfl (fun c12 => ?_) (fun c12 => ?_)
        · have e := kk; simp only [s_X11_worst_2, s_X11_worst_3, if_pos c12] at e ⊢; exact e
        · refine WP.iload rfl rfl ?_
          refine WP.istore_n (L' := [(13, 0), (0, a1), (0, x2), (0, s_X11_worst_1 x4 h), (0, x4), (0, s_X11_worst_1 x4 h)]) rfl rfl ?_
          refine WP.iload rfl rfl ?_
          refine WP.istore_n (L' := [(13, 0), (0, a1), (0, x4), (0, s_X11_worst_1 x4 h), (0, x4), (0, s_X11_worst_1 x4 h)]) rfl rfl ?_
          have e := kk; simp only [s_X11_worst_2, s_X11_worst_3, if_neg (Int.not_le.mpr c12)] at e ⊢; exact e
      refine k11 _ ?_
      refine WP.iincE (L' := [(13, 0), (0, a1), (0, s_X11_worst_2 x2 x3 x4 h), (0, s_X11_worst_3 x3 x4 h), (0, x4 + 1), (0, s_X11_worst_1 x4 h)]) rfl rfl o14 rfl ?_
      refine WP.goto rfl ?_
      exact kk [(0, s_X11_worst_1 x4 h)] (s_X11_worst_2 x2 x3 x4 h, s_X11_worst_3 x3 x4 h, x4 + 1, if h 96 x4 ≤ 0 then h else H_X11_brokenInDrill x4 h) (rfl)
  · intro hP hc
    generalize hs : (L_X11_worst_13 a1 x2 x3 x4 h : Int × Int × Int × pH) = s at kk
    change P_X11_worst_13 a1 (L_X11_worst_13 a1 x2 x3 x4 h).1 (L_X11_worst_13 a1 x2 x3 x4 h).2.1 (L_X11_worst_13 a1 x2 x3 x4 h).2.2.1 (L_X11_worst_13 a1 x2 x3 x4 h).2.2.2 at hP
    change ¬ C_X11_worst_13 a1 (L_X11_worst_13 a1 x2 x3 x4 h).1 (L_X11_worst_13 a1 x2 x3 x4 h).2.1 (L_X11_worst_13 a1 x2 x3 x4 h).2.2.1 (L_X11_worst_13 a1 x2 x3 x4 h).2.2.2 at hc
    intro us
    show WP 124 (13, [(13, 0), (0, a1), (0, (L_X11_worst_13 a1 x2 x3 x4 h).1), (0, (L_X11_worst_13 a1 x2 x3 x4 h).2.1), (0, (L_X11_worst_13 a1 x2 x3 x4 h).2.2.1), us.getD 0 pU], [], (L_X11_worst_13 a1 x2 x3 x4 h).2.2.2) Q
    rw [hs] at hP hc ⊢
    obtain ⟨x2, x3, x4, h⟩ := s
    change P_X11_worst_13 a1 x2 x3 x4 h at hP
    change ¬ (x4 < 4) at hc
    unfold P_X11_worst_13 at hP
    show WP 124 (13, [(13, 0), (0, a1), (0, x2), (0, x3), (0, x4), us.getD 0 pU], [], h) Q
    refine WP.iload rfl rfl ?_
    refine WP.iconst rfl ?_
    refine WP.ni_ge rfl (fun c2 => ?_) (fun c2 => ?_)
    · exact kk [us.getD 0 pU]
    · exact absurd (show x4 < 4 from c2) hc
noncomputable def s_X11_worst_4 (a1 : Int) (h : pH) : Int := (L_X11_worst_13 a1 (-1) (-1) 0 h).1
noncomputable def s_X11_worst_5 (a1 : Int) (h : pH) : Int := (L_X11_worst_13 a1 (-1) (-1) 0 h).2.1
noncomputable def s_X11_worst_6 (a1 : Int) (h : pH) : Int := (L_X11_worst_13 a1 (-1) (-1) 0 h).2.2.1
noncomputable def s_X11_worst_7 (a1 : Int) (h : pH) : pH := (L_X11_worst_13 a1 (-1) (-1) 0 h).2.2.2
noncomputable def s_X11_worst_8 (a1 : Int) (h : pH) : Int := if a1 = 0 then s_X11_worst_4 a1 h else s_X11_worst_5 a1 h
noncomputable def F_X11_worst (a1 : Int) (h : pH) : Int := if 0 ≤ a1 ∧ a1 ≤ 1 then s_X11_worst_8 a1 h else (-2)
noncomputable def H_X11_worst (a1 : Int) (h : pH) : pH := if 0 ≤ a1 ∧ a1 ≤ 1 then s_X11_worst_7 a1 h else h
noncomputable def P_X11_worst (a1 : Int) (h : pH) : Prop := ((0 ≤ a1 ∧ a1 ≤ 1) → ((O_X11_worst_13 a1 (-1) (-1) 0 h)))
set_option maxHeartbeats 4000000 in
theorem w_X11_worst (a1 : Int) (h : pH) {Q : Option pV → pH → Prop} (hp : P_X11_worst a1 h) (kk : Q (some (0, F_X11_worst a1 h)) (H_X11_worst a1 h)) : WP 124 (0, [(13, 0), (0, a1), pU, pU, pU, pU], [], h) Q := by
  unfold P_X11_worst at hp
  have q20 := hp
  refine WP.iload_n rfl rfl ?_
  refine WP.iconst rfl ?_
  refine WP.iconst rfl ?_
  refine WP.callF (c_X11_within a1 0 1 h) rfl rfl (pm_cok rfl rfl (Or.inl rfl) rfl rfl) rfl rfl ?_
  show WP 124 (4, [(13, 0), (0, a1), pU, pU, pU, pU], [(0, if 0 ≤ a1 ∧ a1 ≤ 1 then 1 else 0)], h) Q
  refine WP.nb_ne rfl (fun c1 => ?_) (fun c1 => ?_)
  · have o15 := q20 c1
    refine WP.iconst rfl ?_
    refine WP.istore_n (L' := [(13, 0), (0, a1), (0, (-1)), pU, pU, pU]) rfl rfl ?_
    refine WP.iconst rfl ?_
    refine WP.istore_n (L' := [(13, 0), (0, a1), (0, (-1)), (0, (-1)), pU, pU]) rfl rfl ?_
    refine WP.iconst rfl ?_
    refine WP.istore (L' := [(13, 0), (0, a1), (0, (-1)), (0, (-1)), (0, 0), pU]) rfl rfl ?_
    refine lp_X11_worst_13 a1 (-1) (-1) 0 h o15 (fun us16 => ?_) [pU]
    show WP 124 (37, [(13, 0), (0, a1), (0, s_X11_worst_4 a1 h), (0, s_X11_worst_5 a1 h), (0, s_X11_worst_6 a1 h), us16.getD 0 pU], [], s_X11_worst_7 a1 h) Q
    refine WP.iload_n rfl rfl ?_
    have k17 : ∀ Q' : Option pV → pH → Prop, (WP 124 (42, [(13, 0), (0, a1), (0, s_X11_worst_4 a1 h), (0, s_X11_worst_5 a1 h), (0, s_X11_worst_6 a1 h), us16.getD 0 pU], [(0, s_X11_worst_8 a1 h)], s_X11_worst_7 a1 h) Q') → WP 124 (38, [(13, 0), (0, a1), (0, s_X11_worst_4 a1 h), (0, s_X11_worst_5 a1 h), (0, s_X11_worst_6 a1 h), us16.getD 0 pU], [(0, a1)], s_X11_worst_7 a1 h) Q' := fun Q' kk => by
      refine WP.nz_ne rfl (fun c18 => ?_) (fun c18 => ?_)
      · refine WP.iload_n rfl rfl ?_
        have e := kk; simp only [s_X11_worst_8, if_neg (c18)] at e ⊢; exact e
      · refine WP.iload_n rfl rfl ?_
        refine WP.goto rfl ?_
        have e := kk; simp only [s_X11_worst_8, if_pos c18] at e ⊢; exact e
    refine k17 _ ?_
    refine WP.reti rfl ?_; have e := kk; simp only [F_X11_worst, H_X11_worst, if_pos c1] at e ⊢; exact e
  · refine WP.bipush rfl ?_
    refine WP.reti rfl ?_; have e := kk; simp only [F_X11_worst, H_X11_worst, if_neg (c1)] at e ⊢; exact e
theorem c_X11_worst (a1 : Int) (h : pH) (hp : P_X11_worst a1 h) : CP 124 [(13, 0), (0, a1)] h (fun r h1 => r = some (0, F_X11_worst a1 h) ∧ h1 = H_X11_worst a1 h) := w_X11_worst a1 h hp ⟨rfl, rfl⟩
noncomputable def s_X12_minutes_1 (h : pH) : pH := pm_upd (H_X12_minute h) 264 ((H_X12_minute h) 248 20) (F_X12_allHeat (H_X12_minute h))
noncomputable def s_X12_minutes_2 (h : pH) : pH := pm_upd (s_X12_minutes_1 h) 248 20 (((s_X12_minutes_1 h) 248 20) + 1)
noncomputable def s_X12_minutes_3 (h : pH) : pH := if (H_X12_minute h) 248 21 = 0 then H_X12_minute h else if 40 ≤ (H_X12_minute h) 248 20 then H_X12_minute h else s_X12_minutes_2 h
def C_X12_minutes_23 (a1 : Int) (y2 : Int) (x3 : Int) (h : pH) : Prop := x3 < a1
noncomputable def B_X12_minutes_23 (a1 : Int) (y2 : Int) (x3 : Int) (h : pH) : Int × pH := (x3 + 1, s_X12_minutes_3 h)
noncomputable def P_X12_minutes_23 (a1 : Int) (y2 : Int) (x3 : Int) (h : pH) : Prop := ((x3 < a1) → P_X12_minute h ∧ (((¬ (H_X12_minute h) 248 21 = 0) → ((((H_X12_minute h) 248 20 < 40) → ((P_X12_allHeat (H_X12_minute h)) ∧ (0 ≤ (H_X12_minute h) 248 20 ∧ (H_X12_minute h) 248 20 < 40) ∧ (fx_i (((s_X12_minutes_1 h) 248 20) + 1))))))) ∧ (fx_i (x3 + 1)))
noncomputable def L_X12_minutes_23 (a1 : Int) (y2 : Int) (x3 : Int) (h : pH) : Int × pH := fx_wh (σ := Int × pH) (fun s => C_X12_minutes_23 a1 y2 s.1 s.2) (fun s => B_X12_minutes_23 a1 y2 s.1 s.2) (x3, h)
def O_X12_minutes_23 (a1 : Int) (y2 : Int) (x3 : Int) (h : pH) : Prop := fx_ok (σ := Int × pH) (fun s => C_X12_minutes_23 a1 y2 s.1 s.2) (fun s => B_X12_minutes_23 a1 y2 s.1 s.2) (fun s => P_X12_minutes_23 a1 y2 s.1 s.2) (x3, h)
set_option maxHeartbeats 4000000 in
theorem lp_X12_minutes_23 (a1 : Int) (y2 : Int) (x3 : Int) (h : pH) {Q : Option pV → pH → Prop} (hp : O_X12_minutes_23 a1 y2 x3 h) (kk : ∀ us : List pV, WP 195 (50, [(14, 248), (0, a1), (0, y2), (0, (L_X12_minutes_23 a1 y2 x3 h).1)], [], (L_X12_minutes_23 a1 y2 x3 h).2) Q) : ∀ us : List pV, WP 195 (23, [(14, 248), (0, a1), (0, y2), (0, x3)], [], h) Q := by
  refine WP.wh (σ := Int × pH) (fun s => C_X12_minutes_23 a1 y2 s.1 s.2) (fun s => B_X12_minutes_23 a1 y2 s.1 s.2) (fun s => P_X12_minutes_23 a1 y2 s.1 s.2) (fun s us => (23, [(14, 248), (0, a1), (0, y2), (0, s.1)], [], s.2)) (x3, h) hp ?_ ?_
  · intro s us hP hc kk
    obtain ⟨x3, h⟩ := s
    change P_X12_minutes_23 a1 y2 x3 h at hP
    change x3 < a1 at hc
    replace kk : ∀ (us' : List pV) (s' : Int × pH), s' = B_X12_minutes_23 a1 y2 x3 h → WP 195 (23, [(14, 248), (0, a1), (0, y2), (0, s'.1)], [], s'.2) Q := fun us' s' e => by subst e; exact kk us'
    unfold P_X12_minutes_23 at hP
    obtain ⟨o7, q17, o18⟩ := hP hc
    show WP 195 (23, [(14, 248), (0, a1), (0, y2), (0, x3)], [], h) Q
    refine WP.iload_n rfl rfl ?_
    refine WP.iload_n rfl rfl ?_
    refine WP.ni_ge rfl (fun c6 => ?_) (fun c6 => ?_)
    · exact absurd hc (Int.not_lt.mpr c6)
    · refine WP.aload_n rfl rfl ⟨by decide, by decide⟩ ?_
      refine WP.callF (c_X12_minute h o7) rfl rfl (pm_cok rfl rfl (Or.inr ⟨_, _, rfl⟩) rfl rfl) rfl rfl ?_
      show WP 195 (28, [(14, 248), (0, a1), (0, y2), (0, x3)], [], H_X12_minute h) Q
      refine WP.aload_n rfl rfl ⟨by decide, by decide⟩ ?_
      refine WP.getZ rfl rfl ?_
      have k8 : ∀ Q' : Option pV → pH → Prop, (WP 195 (48, [(14, 248), (0, a1), (0, y2), (0, x3)], [], s_X12_minutes_3 h) Q') → WP 195 (30, [(14, 248), (0, a1), (0, y2), (0, x3)], [(0, (H_X12_minute h) 248 21)], H_X12_minute h) Q' := fun Q' kk => by
        have q15 := q17
        refine WP.nz_eq rfl (fun c9 => ?_) (fun c9 => ?_)
        · have e := kk; simp only [s_X12_minutes_3, if_pos c9] at e ⊢; exact e
        · have q14 := q15 c9
          refine WP.aload_n rfl rfl ⟨by decide, by decide⟩ ?_
          refine WP.getI rfl rfl ?_
          refine WP.bipush rfl ?_
          refine WP.ni_ge rfl (fun c10 => ?_) (fun c10 => ?_)
          · have e := kk; simp only [s_X12_minutes_3, if_neg (c9), if_pos c10] at e ⊢; exact e
          · obtain ⟨o11, o12, o13⟩ := q14 c10
            refine WP.aload_n rfl rfl ⟨by decide, by decide⟩ ?_
            refine WP.getRF (b := 264) rfl rfl rfl ?_
            refine WP.aload_n rfl rfl ⟨by decide, by decide⟩ ?_
            refine WP.getI rfl rfl ?_
            refine WP.aload_n rfl rfl ⟨by decide, by decide⟩ ?_
            refine WP.callF (c_X12_allHeat (H_X12_minute h) o11) rfl rfl (pm_cok rfl rfl (Or.inr ⟨_, _, rfl⟩) rfl rfl) rfl rfl ?_
            show WP 195 (41, [(14, 248), (0, a1), (0, y2), (0, x3)], [(1, F_X12_allHeat (H_X12_minute h)), (0, (H_X12_minute h) 248 20), (1161, 264)], H_X12_minute h) Q'
            refine WP.lastore rfl ⟨by decide, by decide, by decide⟩ o12 ?_
            show WP 195 (42, [(14, 248), (0, a1), (0, y2), (0, x3)], [], s_X12_minutes_1 h) Q'
            refine WP.aload_n rfl rfl ⟨by decide, by decide⟩ ?_
            refine WP.dup rfl (by decide) ?_
            refine WP.getI rfl rfl ?_
            refine WP.iconst rfl ?_
            refine WP.iaddE rfl o13 ?_
            refine WP.putI rfl rfl ?_
            show WP 195 (48, [(14, 248), (0, a1), (0, y2), (0, x3)], [], s_X12_minutes_2 h) Q'
            have e := kk; simp only [s_X12_minutes_3, if_neg (c9), if_neg (Int.not_le.mpr c10)] at e ⊢; exact e
      refine k8 _ ?_
      refine WP.iincE (L' := [(14, 248), (0, a1), (0, y2), (0, x3 + 1)]) rfl rfl o18 rfl ?_
      refine WP.goto rfl ?_
      exact kk [] (x3 + 1, s_X12_minutes_3 h) (rfl)
  · intro hP hc
    generalize hs : (L_X12_minutes_23 a1 y2 x3 h : Int × pH) = s at kk
    change P_X12_minutes_23 a1 y2 (L_X12_minutes_23 a1 y2 x3 h).1 (L_X12_minutes_23 a1 y2 x3 h).2 at hP
    change ¬ C_X12_minutes_23 a1 y2 (L_X12_minutes_23 a1 y2 x3 h).1 (L_X12_minutes_23 a1 y2 x3 h).2 at hc
    intro us
    show WP 195 (23, [(14, 248), (0, a1), (0, y2), (0, (L_X12_minutes_23 a1 y2 x3 h).1)], [], (L_X12_minutes_23 a1 y2 x3 h).2) Q
    rw [hs] at hP hc ⊢
    obtain ⟨x3, h⟩ := s
    change P_X12_minutes_23 a1 y2 x3 h at hP
    change ¬ (x3 < a1) at hc
    unfold P_X12_minutes_23 at hP
    show WP 195 (23, [(14, 248), (0, a1), (0, y2), (0, x3)], [], h) Q
    refine WP.iload_n rfl rfl ?_
    refine WP.iload_n rfl rfl ?_
    refine WP.ni_ge rfl (fun c5 => ?_) (fun c5 => ?_)
    · exact kk []
    · exact absurd (show x3 < a1 from c5) hc
noncomputable def s_X12_minutes_4 (a1 : Int) (h : pH) : Int := (L_X12_minutes_23 a1 (F_X12_broken h) 0 h).1
noncomputable def s_X12_minutes_5 (a1 : Int) (h : pH) : pH := (L_X12_minutes_23 a1 (F_X12_broken h) 0 h).2
noncomputable def F_X12_minutes (a1 : Int) (h : pH) : Int := if 1 ≤ a1 ∧ a1 ≤ 60 then if (h 249 15) + a1 ≤ 9999 then (F_X12_broken (s_X12_minutes_5 a1 h)) - (F_X12_broken h) else (-2) else (-2)
noncomputable def H_X12_minutes (a1 : Int) (h : pH) : pH := if 1 ≤ a1 ∧ a1 ≤ 60 then if (h 249 15) + a1 ≤ 9999 then s_X12_minutes_5 a1 h else h else h
noncomputable def P_X12_minutes (a1 : Int) (h : pH) : Prop := ((1 ≤ a1 ∧ a1 ≤ 60) → ((fx_l ((h 249 15) + a1)) ∧ (((h 249 15) + a1 ≤ 9999) → (P_X12_broken h ∧ (O_X12_minutes_23 a1 (F_X12_broken h) 0 h) ∧ (P_X12_broken (s_X12_minutes_5 a1 h)) ∧ (fx_i ((F_X12_broken (s_X12_minutes_5 a1 h)) - (F_X12_broken h)))))))
set_option maxHeartbeats 4000000 in
theorem w_X12_minutes (a1 : Int) (h : pH) {Q : Option pV → pH → Prop} (hp : P_X12_minutes a1 h) (kk : Q (some (0, F_X12_minutes a1 h)) (H_X12_minutes a1 h)) : WP 195 (0, [(14, 248), (0, a1), pU, pU], [], h) Q := by
  unfold P_X12_minutes at hp
  have q24 := hp
  refine WP.iload_n rfl rfl ?_
  refine WP.i2l rfl ?_
  refine WP.lconst rfl ?_
  refine WP.ldc2_w rfl ?_
  refine WP.callF (c_X12_in a1 1 60 h) rfl rfl (pm_cok rfl rfl (Or.inl rfl) rfl rfl) rfl rfl ?_
  show WP 195 (5, [(14, 248), (0, a1), pU, pU], [(0, if 1 ≤ a1 ∧ a1 ≤ 60 then 1 else 0)], h) Q
  refine WP.nb_eq rfl (fun c1 => ?_) (fun c1 => ?_)
  · refine WP.bipush rfl ?_
    refine WP.reti rfl ?_; have e := kk; simp only [F_X12_minutes, H_X12_minutes, if_neg (c1)] at e ⊢; exact e
  · obtain ⟨o2, q23⟩ := q24 c1
    refine WP.aload_n rfl rfl ⟨by decide, by decide⟩ ?_
    refine WP.getRF (b := 249) rfl rfl rfl ?_
    refine WP.bipush rfl ?_
    refine WP.laload rfl ⟨by decide, by decide, by decide⟩ (by decide) ?_
    refine WP.iload_n rfl rfl ?_
    refine WP.i2l rfl ?_
    refine WP.laddE rfl o2 ?_
    refine WP.ldc2_w rfl ?_
    refine WP.lcmp rfl ?_
    refine WP.nl_le rfl (fun c3 => ?_) (fun c3 => ?_)
    · obtain ⟨o4, o19, o21, o22⟩ := q23 c3
      refine WP.aload_n rfl rfl ⟨by decide, by decide⟩ ?_
      refine WP.callF (c_X12_broken h o4) rfl rfl (pm_cok rfl rfl (Or.inr ⟨_, _, rfl⟩) rfl rfl) rfl rfl ?_
      show WP 195 (20, [(14, 248), (0, a1), pU, pU], [(0, F_X12_broken h)], h) Q
      refine WP.istore_n (L' := [(14, 248), (0, a1), (0, F_X12_broken h), pU]) rfl rfl ?_
      refine WP.iconst rfl ?_
      refine WP.istore_n (L' := [(14, 248), (0, a1), (0, F_X12_broken h), (0, 0)]) rfl rfl ?_
      refine lp_X12_minutes_23 a1 (F_X12_broken h) 0 h o19 (fun us20 => ?_) []
      show WP 195 (50, [(14, 248), (0, a1), (0, F_X12_broken h), (0, s_X12_minutes_4 a1 h)], [], s_X12_minutes_5 a1 h) Q
      refine WP.aload_n rfl rfl ⟨by decide, by decide⟩ ?_
      refine WP.callF (c_X12_broken (s_X12_minutes_5 a1 h) o21) rfl rfl (pm_cok rfl rfl (Or.inr ⟨_, _, rfl⟩) rfl rfl) rfl rfl ?_
      show WP 195 (52, [(14, 248), (0, a1), (0, F_X12_broken h), (0, s_X12_minutes_4 a1 h)], [(0, F_X12_broken (s_X12_minutes_5 a1 h))], s_X12_minutes_5 a1 h) Q
      refine WP.iload_n rfl rfl ?_
      refine WP.isubE rfl o22 ?_
      refine WP.reti rfl ?_; have e := kk; simp only [F_X12_minutes, H_X12_minutes, if_pos c1, if_pos c3] at e ⊢; exact e
    · refine WP.bipush rfl ?_
      refine WP.reti rfl ?_; have e := kk; simp only [F_X12_minutes, H_X12_minutes, if_pos c1, if_neg (Int.not_le.mpr c3)] at e ⊢; exact e
theorem c_X12_minutes (a1 : Int) (h : pH) (hp : P_X12_minutes a1 h) : CP 195 [(14, 248), (0, a1)] h (fun r h1 => r = some (0, F_X12_minutes a1 h) ∧ h1 = H_X12_minutes a1 h) := w_X12_minutes a1 h hp ⟨rfl, rfl⟩
