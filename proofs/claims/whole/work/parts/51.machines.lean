/-! The class's steps worked; the model's reducing and putting. -/
theorem snoc_of : ∀ B : List Int, B ≠ [] → ∃ B' x, B = B' ++ [x]
  | [], h => absurd rfl h
  | [x], _ => ⟨[], x, rfl⟩
  | x :: y :: B, _ => by
    obtain ⟨B', z, e⟩ := snoc_of (y :: B) (List.cons_ne_nil _ _)
    exact ⟨x :: B', z, by rw [e]; rfl⟩
theorem pj_tr (a l r : Int) (h : pH) : P_X9_joined a l r h ↔ True := by
  refine ⟨fun _ => trivial, fun _ => ?_⟩
  unfold P_X9_joined
  intro _ _ _ _ _ z
  exact z
theorem pk_tr (a l r : Int) (h : pH) : P_X12_worked a l r h ↔ True := by
  refine ⟨fun _ => trivial, fun _ => ?_⟩
  unfold P_X12_worked
  intro _ _ _ _ _ _ _ _ z
  exact z
theorem aps_m33 {sn : Int → Int} {x : Int} (S : List Int) (c1 : ¬ -6 ≤ x) (c2 : x = -33) : aps sn x S = (match S with | v :: S' => (if v = 0 then 1 else 0) :: S' | [] => []) := by
  unfold aps
  rw [if_neg c1, if_pos c2]
  cases S <;> rfl
theorem aps_m126 {sn : Int → Int} {x : Int} (S : List Int) (c1 : ¬ -6 ≤ x) (c2 : ¬ x = -33) (c3 : x = -126) : aps sn x S = (match S with | v :: S' => pm_wl (-v) :: S' | [] => []) := by
  unfold aps
  rw [if_neg c1, if_neg c2, if_pos c3]
  cases S <;> rfl
theorem aps_mj {sn : Int → Int} {x : Int} (S : List Int) (c1 : ¬ -6 ≤ x) (c2 : ¬ x = -33) (c3 : ¬ x = -126) : aps sn x S = (match S with | r :: l :: S' => jn (-x) l r :: S' | S => S) := by
  unfold aps
  rw [if_neg c1, if_neg c2, if_neg c3]
  rcases S with _ | ⟨r, _ | ⟨l, S⟩⟩ <;> rfl
theorem value_step {sn : Int → Int} {c d i : Int} {hh : pH} {x : Int} {S : List Int} {t : Int} (ex : hh (c + 2) i = x) (ht : t = S.length - 1) (hS : stk (hh (c + 4)) S) (hl : S.length ≤ 59) (hd : ∀ j : Int, 0 ≤ j → j < 6 → hh d j = sn j) :
    s_X9_value_5 c t i hh = ((aps sn x S).length : Int) - 1 ∧ stk (s_X9_value_4 c d t i hh (c + 4)) (aps sn x S) ∧ ∀ a, a ≠ c + 4 → s_X9_value_4 c d t i hh a = hh a := by
  unfold s_X9_value_5 s_X9_value_4 s_X9_value_3 s_X9_value_2 s_X9_value_1
  rw [ex]
  by_cases c1 : -6 ≤ x
  · have ea : aps sn x S = (if x < 0 then sn (-1 - x) else x) :: S := if_pos c1
    rw [ea, if_neg (show ¬ x < -6 by omega), if_neg (show ¬ x < -6 by omega), if_neg (show ¬ 59 ≤ t by omega), if_neg (show ¬ 59 ≤ t by omega)]
    have ev0 : (if x < 0 then hh d (-1 - x) else x) = (if x < 0 then sn (-1 - x) else x) := by
      by_cases c2 : x < 0
      · rw [if_pos c2, if_pos c2, hd _ (by omega) (by omega)]
      · rw [if_neg c2, if_neg c2]
    rw [ev0]
    refine ⟨by simp only [List.length_cons]; omega, stk_push _ _ (by omega) hS, fun a e => up_cell _ e⟩
  · rw [if_pos (show x < -6 by omega), if_pos (show x < -6 by omega)]
    by_cases c2 : x = -33
    · rw [aps_m33 S c1 c2, if_pos c2, if_pos c2]
      rcases S with _ | ⟨v, S'⟩
      · simp only [List.length_nil] at ht
        rw [if_pos (show t < 0 by omega), if_pos (show t < 0 by omega), if_pos (show t < 1 by omega), if_pos (show t < 1 by omega)]
        exact ⟨by simp only [List.length_nil]; omega, trivial, fun a _ => rfl⟩
      · simp only [List.length_cons] at ht
        rw [if_neg (show ¬ t < 0 by omega), if_neg (show ¬ t < 0 by omega)]
        have e1 : hh (c + 4) t = v := by rw [show t = (S'.length : Int) by omega]; exact hS.1
        rw [e1]
        exact ⟨by simp only [List.length_cons]; omega, stk_push _ _ (by omega) hS.2, fun a e => up_cell _ e⟩
    · rw [if_neg c2, if_neg c2]
      by_cases c3 : x = -126
      · rw [aps_m126 S c1 c2 c3, if_pos c3, if_pos c3]
        rcases S with _ | ⟨v, S'⟩
        · simp only [List.length_nil] at ht
          rw [if_pos (show t < 0 by omega), if_pos (show t < 0 by omega), if_pos (show t < 1 by omega), if_pos (show t < 1 by omega)]
          exact ⟨by simp only [List.length_nil]; omega, trivial, fun a _ => rfl⟩
        · simp only [List.length_cons] at ht
          rw [if_neg (show ¬ t < 0 by omega), if_neg (show ¬ t < 0 by omega)]
          have e1 : hh (c + 4) t = v := by rw [show t = (S'.length : Int) by omega]; exact hS.1
          rw [e1]
          exact ⟨by simp only [List.length_cons]; omega, stk_push _ _ (by omega) hS.2, fun a e => up_cell _ e⟩
      · rw [aps_mj S c1 c2 c3, if_neg c3, if_neg c3]
        rcases S with _ | ⟨r, _ | ⟨l, S'⟩⟩
        · simp only [List.length_nil] at ht
          rw [if_pos (show t < 1 by omega), if_pos (show t < 1 by omega)]
          exact ⟨by simp only [List.length_nil]; omega, hS, fun a _ => rfl⟩
        · simp only [List.length_cons, List.length_nil] at ht
          rw [if_pos (show t < 1 by omega), if_pos (show t < 1 by omega)]
          exact ⟨by simp only [List.length_cons, List.length_nil]; omega, hS, fun a _ => rfl⟩
        · simp only [List.length_cons] at ht
          rw [if_neg (show ¬ t < 1 by omega), if_neg (show ¬ t < 1 by omega)]
          have e1 : hh (c + 4) (t + -1) = l := by rw [show t + -1 = (S'.length : Int) by omega]; exact hS.2.1
          have e2 : hh (c + 4) (t + -1 + 1) = r := by rw [show t + -1 + 1 = ((l :: S').length : Int) by simp only [List.length_cons]; omega]; exact hS.1
          rw [e1, e2]
          exact ⟨by simp only [List.length_cons]; omega, stk_push _ _ (by omega) hS.2.2, fun a e => up_cell _ e⟩
theorem val_X {sn : Int → Int} {c d : Int} {h : pH} {P : List Int} (hP : stk (h (c + 2)) P) (h6 : h c 6 = P.length) (hl : P.length ≤ 60) (hb : ∀ x, x ∈ P → -126 ≤ x) (hd : ∀ j : Int, 0 ≤ j → j < 6 → h d j = sn j) (hne : d ≠ c + 4) :
    P_X9_value c d h ∧ (∀ a, a ≠ c + 4 → H_X9_value c d h a = h a) ∧ (∀ v S, ev sn P = v :: S → F_X9_value c d h = v) := by
  have W := fx_rule (σ := Int × Int × pH) (c := fun s => C_X9_value_4 c d s.1 s.2.1 s.2.2) (f := fun s => B_X9_value_4 c d s.1 s.2.1 s.2.2) (P := fun s => P_X9_value_4 c d s.1 s.2.1 s.2.2) (s0 := (-1, 0, h)) P.length
    (fun i s => ∃ A B, P = B ++ A ∧ A.length = i ∧ s.2.1 = (i : Int) ∧ s.1 = ((ev sn A).length : Int) - 1 ∧ stk (s.2.2 (c + 4)) (ev sn A) ∧ ∀ a, a ≠ c + 4 → s.2.2 a = h a)
    ⟨[], P, (List.append_nil P).symm, rfl, rfl, rfl, trivial, fun a _ => rfl⟩
    (by
      rintro i ⟨t, j, hh⟩ hi ⟨A, B, e1, e2, e3, e4, e5, e6⟩
      dsimp only at e3 e4 e5 e6
      subst e3
      have hB : B ≠ [] := by
        intro q
        rw [q] at e1
        rw [e1] at hi
        simp only [List.nil_append] at hi
        omega
      obtain ⟨B', x, eB⟩ := snoc_of B hB
      rw [eB, List.append_assoc] at e1
      have e1' : P = B' ++ x :: A := e1
      have ex : hh (c + 2) (i : Int) = x := by
        rw [e6 _ (by omega), ← e2]
        rw [e1'] at hP
        exact stk_app B' hP
      have hx : -126 ≤ x := hb x (by rw [e1']; exact List.mem_append_right _ (List.mem_cons_self ..))
      have hAl := ev_len sn A
      have h6' : hh c 6 = P.length := by rw [e6 _ (by omega)]; exact h6
      have st := value_step (sn := sn) (c := c) (d := d) (i := (i : Int)) (hh := hh) (x := x) (S := ev sn A) (t := t) ex e4 e5 (by omega) (fun j h1 h2 => by rw [e6 _ hne]; exact hd j h1 h2)
      refine ⟨?_, ?_, ⟨x :: A, B', e1', by simp only [List.length_cons]; omega, ?_, ?_, ?_, ?_⟩⟩
      · show P_X9_value_4 c d t (i : Int) hh
        unfold P_X9_value_4 fx_i
        rw [ex]
        simp only [pj_tr, and_true]
        omega
      · show (i : Int) < hh c 6
        omega
      · show (i : Int) + 1 = _
        omega
      · exact st.1
      · exact st.2.1
      · intro a e
        show s_X9_value_4 c d t (i : Int) hh a = _
        rw [st.2.2 a e]; exact e6 a e)
    (by
      rintro ⟨t, j, hh⟩ ⟨A, B, e1, e2, e3, e4, e5, e6⟩
      dsimp only at e3 e4 e5 e6
      have h6' : hh c 6 = P.length := by rw [e6 _ (by omega)]; exact h6
      refine ⟨?_, ?_⟩
      · show P_X9_value_4 c d t j hh
        unfold P_X9_value_4
        intro q
        omega
      · show ¬ (j < hh c 6)
        omega)
  obtain ⟨W1, A, B, e1, e2, e3, e4, e5, e6⟩ := W
  have hB : B = [] := by
    rcases B with _ | ⟨b, B⟩
    · rfl
    · exfalso
      have := congrArg List.length e1
      simp only [List.cons_append, List.length_cons, List.length_append] at this
      omega
  rw [hB, List.nil_append] at e1
  subst e1
  have hAl := ev_len sn P
  refine ⟨⟨W1, fun q => ⟨q, ?_⟩⟩, fun a e => e6 a e, fun v S e => ?_⟩
  · show (L_X9_value_4 c d (-1) 0 h).1 < 60
    rw [show (L_X9_value_4 c d (-1) 0 h).1 = ((ev sn P).length : Int) - 1 from e4]
    omega
  · have t1 : s_X9_value_6 c d h = ((ev sn P).length : Int) - 1 := e4
    have t2 : stk (s_X9_value_8 c d h (c + 4)) (ev sn P) := e5
    unfold F_X9_value s_X9_value_9
    rw [t1]
    rw [e] at t2 ⊢
    rw [if_pos (by simp only [List.length_cons]; omega), show (((v :: S).length : Nat) : Int) - 1 = (S.length : Int) by simp only [List.length_cons]; omega]
    exact t2.1
/-- the model's rows -/
noncomputable def MS (g : pH) (V T : List Int) : Prop := stk (g 255) V ∧ g 248 8 = V.length ∧ stk (g 256) (T.map md) ∧ g 248 9 = T.length
theorem MS_fld {g : pH} {V T : List Int} (a k v : Int) (e1 : a ≠ 255) (e2 : a ≠ 256) (e3 : ¬ (a = 248 ∧ (k = 8 ∨ k = 9))) (q : MS g V T) : MS (pm_upd g a k v) V T := by
  obtain ⟨q1, q2, q3, q4⟩ := q
  refine ⟨?_, ?_, ?_, ?_⟩
  · rw [up_cell _ (fun z => e1 z.symm)]; exact q1
  · rw [up_app, if_neg (fun z => e3 ⟨z.1.symm, Or.inl z.2.symm⟩)]; exact q2
  · rw [up_cell _ (fun z => e2 z.symm)]; exact q3
  · rw [up_app, if_neg (fun z => e3 ⟨z.1.symm, Or.inr z.2.symm⟩)]; exact q4
theorem MS_sign {g : pH} {V T : List Int} (x : Int) (q : MS g V T) : MS (pm_upd (pm_upd g 256 (g 248 9) (md x)) 248 9 (g 248 9 + 1)) V (x :: T) := by
  obtain ⟨q1, q2, q3, q4⟩ := q
  refine ⟨?_, ?_, ?_, ?_⟩
  · rw [up_cell _ (by omega), up_cell _ (by omega)]; exact q1
  · rw [up_pl _ (by omega), up_cell _ (by omega)]; exact q2
  · rw [up_cell _ (by omega)]
    exact stk_push _ _ (by rw [q4, List.length_map]) q3
  · rw [up_eq, q4]; simp only [List.length_cons]; omega
theorem MS_red {s : Int} (hs : 1 ≤ s) : ∀ (T V : List Int) (g : pH), MS g V T → (∀ x, x ∈ T → tok x) → (V.length : Int) = nb T + 1 → V.length ≤ 129 → T.length ≤ 129 →
    P_X12_reduce s g ∧ MS (H_X12_reduce s g) (rd s T V).1 (rd s T V).2 ∧ (∀ a, a ≠ 248 → a ≠ 255 → H_X12_reduce s g a = g a) ∧ (∀ k : Int, k ≠ 8 → k ≠ 9 → H_X12_reduce s g 248 k = g 248 k)
  | [], V, g, q, _, _, _, _ => by
    have q4 := q.2.2.2
    have F := fx_un_f (c := fun t => C_X12_reduce_0 s t) (f := fun t => B_X12_reduce_0 s t) (P := fun t => P_X12_reduce_0 s t) (s := g)
      (by
        show P_X12_reduce_0 s g
        unfold P_X12_reduce_0
        simp only [List.length_nil] at q4
        exact ⟨fun z => by omega, fun z => by omega⟩)
      (by
        show ¬ C_X12_reduce_0 s g
        unfold C_X12_reduce_0
        simp only [List.length_nil] at q4
        omega)
    have e : H_X12_reduce s g = g := F.2
    refine ⟨F.1, ?_, ?_, ?_⟩
    · rw [e]; exact q
    · intro a _ _; rw [e]
    · intro k _ _; rw [e]
  | x :: T, V, g, q, ht, hv, hl, hl2 => by
    have q0 := q
    obtain ⟨q1, q2, q3, q4⟩ := q
    simp only [List.length_cons] at q4 hl2
    have ex : g 256 (g 248 9 - 1) = md x := by
      have : g 256 ((T.map md).length : Int) = md x := q3.1
      rw [List.length_map] at this
      rw [show g 248 9 - 1 = (T.length : Int) by omega]; exact this
    have r8 : s_X12_reduce_1 g 248 8 = g 248 8 - 1 := by
      unfold s_X12_reduce_1
      rw [up_eq, up_pl _ (by omega)]
    have r9 : s_X12_reduce_1 g 248 9 = g 248 9 - 1 := by
      unfold s_X12_reduce_1
      rw [up_pl _ (by omega), up_eq]
    have ra : ∀ a, a ≠ 248 → s_X12_reduce_1 g a = g a := fun a e => by
      unfold s_X12_reduce_1
      rw [up_cell _ e, up_cell _ e]
    have rk : ∀ k : Int, k ≠ 8 → k ≠ 9 → s_X12_reduce_1 g 248 k = g 248 k := fun k e1 e2 => by
      unfold s_X12_reduce_1
      rw [up_pl _ e1, up_pl _ e2]
    have hnb := nb_nn T
    have hP : P_X12_reduce_0 s g := by
      unfold P_X12_reduce_0
      rw [ex, sd_h]
      simp only [pk_tr, and_true]
      rw [r8, r9, up_pl _ (show (8 : Int) ≠ 9 by omega)]
      refine ⟨fun _ => ⟨by unfold fx_i; omega, by omega, by omega⟩, fun z => ?_⟩
      have hop : opr x := by
        rcases ht x (List.mem_cons_self ..) with w | w | w
        · rw [sd_un w] at z; omega
        · rw [w, sd_40] at z; omega
        · exact w
      rw [nb_op hop] at hv
      unfold fx_i
      omega
    by_cases cc : s ≤ F_X12_strength (md x) (fun _ _ => 0)
    · have hop : opr x := by
        rcases ht x (List.mem_cons_self ..) with w | w | w
        · rw [sd_un w] at cc; omega
        · rw [w, sd_40] at cc; omega
        · exact w
      rw [nb_op hop] at hv
      obtain ⟨r, l, V', eV⟩ : ∃ r l V', V = r :: l :: V' := by
        rcases V with _ | ⟨r, _ | ⟨l, V'⟩⟩
        · simp only [List.length_nil] at hv; omega
        · simp only [List.length_cons, List.length_nil] at hv; omega
        · exact ⟨r, l, V', rfl⟩
      subst eV
      simp only [List.length_cons] at hv hl q2
      have v1 : g 255 (g 248 8 - 1 - 1) = l := by rw [show g 248 8 - 1 - 1 = (V'.length : Int) by omega]; exact q1.2.1
      have v2 : g 255 (g 248 8 - 1) = r := by rw [show g 248 8 - 1 = ((l :: V').length : Int) by simp only [List.length_cons]; omega]; exact q1.1
      have eB : B_X12_reduce_0 s g = pm_upd (s_X12_reduce_1 g) 255 (g 248 8 - 1 - 1) (jn x l r) := by
        unfold B_X12_reduce_0 s_X12_reduce_3 s_X12_reduce_2
        rw [r8, r9, ra 256 (by omega), ra 255 (by omega), ex, v1, v2, (md_op hop).1, wk_op hop]
      have qn : MS (pm_upd (s_X12_reduce_1 g) 255 (g 248 8 - 1 - 1) (jn x l r)) (jn x l r :: V') T := by
        refine ⟨stk_push _ _ (by omega) (by rw [ra 255 (by omega)]; exact q1.2.2), ?_, ?_, ?_⟩
        · rw [up_cell _ (by omega), r8]; simp only [List.length_cons]; omega
        · rw [up_cell _ (by omega), ra 256 (by omega)]; exact q3.2
        · rw [up_cell _ (by omega), r9]; omega
      have ih := MS_red (s := s) hs T (jn x l r :: V') _ qn (fun y hy => ht y (List.mem_cons_of_mem _ hy)) (by simp only [List.length_cons]; omega) (by simp only [List.length_cons]; omega) (by omega)
      have F := fx_un_t (c := fun t => C_X12_reduce_0 s t) (f := fun t => B_X12_reduce_0 s t) (P := fun t => P_X12_reduce_0 s t) (s := g) hP
        (by
          show C_X12_reduce_0 s g
          unfold C_X12_reduce_0
          rw [ex, sd_h]
          exact ⟨by omega, cc⟩)
        (by rw [eB]; exact ih.1)
      have e : H_X12_reduce s g = H_X12_reduce s (pm_upd (s_X12_reduce_1 g) 255 (g 248 8 - 1 - 1) (jn x l r)) := by
        have := F.2
        rw [eB] at this
        exact this
      refine ⟨F.1, ?_, ?_, ?_⟩
      · rw [e, show rd s (x :: T) (r :: l :: V') = rd s T (jn x l r :: V') from if_pos cc]; exact ih.2.1
      · intro a e1 e2; rw [e, ih.2.2.1 a e1 e2, up_cell _ e2, ra a e1]
      · intro k e1 e2; rw [e, ih.2.2.2 k e1 e2, up_cell _ (by omega), rk k e1 e2]
    · have F := fx_un_f (c := fun t => C_X12_reduce_0 s t) (f := fun t => B_X12_reduce_0 s t) (P := fun t => P_X12_reduce_0 s t) (s := g) hP
        (by
          show ¬ C_X12_reduce_0 s g
          unfold C_X12_reduce_0
          rw [ex, sd_h]
          exact fun z => cc z.2)
      have e : H_X12_reduce s g = g := F.2
      refine ⟨F.1, ?_, ?_, ?_⟩
      · rw [e, show rd s (x :: T) V = (V, x :: T) from if_neg cc]; exact q0
      · intro a _ _; rw [e]
      · intro k _ _; rw [e]
theorem MS_unary {sn : Int → Int} : ∀ (T V : List Int) (g : pH) (v : Int), MS g V T → (∀ x, x ∈ T → tok x) → T.length ≤ 129 →
    O_X12_put_2 v g ∧ ∃ U T', T = U ++ T' ∧ (∀ x, x ∈ U → unr x) ∧ ntu T' ∧ MS (L_X12_put_2 v g).2 V T' ∧ (∀ a, a ≠ 248 → (L_X12_put_2 v g).2 a = g a) ∧ (∀ k : Int, k ≠ 9 → (L_X12_put_2 v g).2 248 k = g 248 k) ∧
      ∀ P S, ev sn P = v :: S → ev sn (auP U P) = (L_X12_put_2 v g).1 :: S
  | [], V, g, v, q, _, _ => by
    have q4 := q.2.2.2
    simp only [List.length_nil] at q4
    have F := fx_un_f (σ := Int × pH) (c := fun s => C_X12_put_2 s.1 s.2) (f := fun s => B_X12_put_2 s.1 s.2) (P := fun s => P_X12_put_2 s.1 s.2) (s := (v, g))
      (by
        show P_X12_put_2 v g
        unfold P_X12_put_2
        exact ⟨fun z => by omega, fun z => by omega⟩)
      (by
        show ¬ C_X12_put_2 v g
        unfold C_X12_put_2
        omega)
    have e : L_X12_put_2 v g = (v, g) := F.2
    rw [e]
    exact ⟨F.1, [], [], rfl, fun x hx => absurd hx (List.not_mem_nil), trivial, q, fun a _ => rfl, fun k _ => rfl, fun P S h => h⟩
  | x :: T, V, g, v, q, ht, hl => by
    have q0 := q
    obtain ⟨q1, q2, q3, q4⟩ := q
    simp only [List.length_cons] at q4 hl
    have ex : g 256 (g 248 9 - 1) = md x := by
      have : g 256 ((T.map md).length : Int) = md x := q3.1
      rw [List.length_map] at this
      rw [show g 248 9 - 1 = (T.length : Int) by omega]; exact this
    have hP : P_X12_put_2 v g := by
      unfold P_X12_put_2 fx_i
      rw [up_eq]
      omega
    by_cases cc : unr x
    · have cm : md x = 6 ∨ md x = 7 := by rcases cc with rfl | rfl <;> decide
      have eB : B_X12_put_2 v g = (if md x = 7 then pm_wl (-v) else if v = 0 then 1 else 0, pm_upd g 248 9 (g 248 9 - 1)) := by
        unfold B_X12_put_2 s_X12_put_1
        rw [up_eq, up_cell _ (by omega), ex]
      have qn : MS (pm_upd g 248 9 (g 248 9 - 1)) V T := by
        refine ⟨?_, ?_, ?_, ?_⟩
        · rw [up_cell _ (by omega)]; exact q1
        · rw [up_pl _ (by omega)]; exact q2
        · rw [up_cell _ (by omega)]; exact q3.2
        · rw [up_eq]; omega
      obtain ⟨i1, U, T', i2, i3, i4, i5, i6, i7, i8⟩ := MS_unary (sn := sn) T V _ (if md x = 7 then pm_wl (-v) else if v = 0 then 1 else 0) qn (fun y hy => ht y (List.mem_cons_of_mem _ hy)) (by omega)
      have F := fx_un_t (σ := Int × pH) (c := fun s => C_X12_put_2 s.1 s.2) (f := fun s => B_X12_put_2 s.1 s.2) (P := fun s => P_X12_put_2 s.1 s.2) (s := (v, g)) hP
        (by
          show C_X12_put_2 v g
          unfold C_X12_put_2
          rw [ex]
          exact ⟨by omega, cm⟩)
        (by
          show fx_ok _ _ _ (B_X12_put_2 v g)
          rw [eB]; exact i1)
      have e : L_X12_put_2 v g = L_X12_put_2 (if md x = 7 then pm_wl (-v) else if v = 0 then 1 else 0) (pm_upd g 248 9 (g 248 9 - 1)) := by
        have := F.2
        dsimp only at this
        rw [eB] at this
        exact this
      rw [e]
      refine ⟨F.1, x :: U, T', by rw [i2]; rfl, fun y hy => ?_, i4, i5, fun a e1 => by rw [i6 a e1, up_cell _ e1], fun k e1 => by rw [i7 k e1, up_pl _ e1], fun P S hv => ?_⟩
      · rcases List.mem_cons.mp hy with w | w
        · rw [w]; exact cc
        · exact i3 y w
      · show ev sn (auP U (-x :: P)) = _
        refine i8 (-x :: P) S ?_
        show aps sn (-x) (ev sn P) = _
        rw [hv]
        rcases cc with rfl | rfl
        · exact aps_33
        · exact aps_126
    · have nm : ¬ (md x = 6 ∨ md x = 7) := by
        rcases ht x (List.mem_cons_self ..) with w | w | w
        · exact absurd w cc
        · rw [w]; decide
        · have := md_op w
          rw [this.1]; omega
      have F := fx_un_f (σ := Int × pH) (c := fun s => C_X12_put_2 s.1 s.2) (f := fun s => B_X12_put_2 s.1 s.2) (P := fun s => P_X12_put_2 s.1 s.2) (s := (v, g)) hP
        (by
          show ¬ C_X12_put_2 v g
          unfold C_X12_put_2
          rw [ex]
          exact fun z => nm z.2)
      have e : L_X12_put_2 v g = (v, g) := F.2
      rw [e]
      exact ⟨F.1, [], x :: T, rfl, fun y hy => absurd hy (List.not_mem_nil), cc, q0, fun a _ => rfl, fun k _ => rfl, fun P S h => h⟩
theorem MS_put {sn : Int → Int} {T V : List Int} {g : pH} {v : Int} (q : MS g V T) (ht : ∀ x, x ∈ T → tok x) (hl : T.length ≤ 129) (hv : V.length ≤ 129) :
    P_X12_put v g ∧ (∀ a, a ≠ 248 → a ≠ 255 → H_X12_put v g a = g a) ∧ (∀ k : Int, k ≠ 8 → k ≠ 9 → H_X12_put v g 248 k = g 248 k) ∧
    ∃ U T' v', T = U ++ T' ∧ (∀ x, x ∈ U → unr x) ∧ ntu T' ∧ MS (H_X12_put v g) (v' :: V) T' ∧ ∀ P S, ev sn P = v :: S → ev sn (auP U P) = v' :: S := by
  obtain ⟨i1, U, T', i2, i3, i4, i5, i6, i7, i8⟩ := MS_unary (sn := sn) T V g v q ht hl
  obtain ⟨j1, j2, j3, j4⟩ := i5
  have e2 : s_X12_put_2 v g 248 8 = (L_X12_put_2 v g).2 248 8 := by
    unfold s_X12_put_2
    rw [up_cell _ (by omega)]
  have eH : H_X12_put v g = pm_upd (pm_upd (L_X12_put_2 v g).2 255 ((L_X12_put_2 v g).2 248 8) (L_X12_put_2 v g).1) 248 8 ((L_X12_put_2 v g).2 248 8 + 1) := by
    unfold H_X12_put s_X12_put_3
    rw [e2]
    rfl
  refine ⟨⟨i1, ⟨by omega, by omega⟩, by rw [e2]; unfold fx_i; omega⟩, ?_, ?_, U, T', (L_X12_put_2 v g).1, i2, i3, i4, ⟨?_, ?_, ?_, ?_⟩, i8⟩
  · intro a e1 e2; rw [eH, up_cell _ e1, up_cell _ e2, i6 a e1]
  · intro k e1 e2; rw [eH, up_pl _ e1, up_cell _ (by omega), i7 k e2]
  · rw [eH, up_cell _ (by omega)]; exact stk_push _ _ j2 j1
  · rw [eH, up_eq, j2]; simp only [List.length_cons]; omega
  · rw [eH, up_cell _ (by omega), up_cell _ (by omega)]; exact j3
  · rw [eH, up_pl _ (by omega), up_cell _ (by omega)]; exact j4
