/-! One character read by both. -/
noncomputable def OUT (sn : Int → Int) (c : Int) (tx : Int → Int) (n : Int) (h0 g0 h g : pH) (op nd k : Int) : Prop :=
  (∃ h' g' op' nd' k', CL c k h k' h' ∧ ML n op nd k g op' nd' k' g' ∧ k < k' ∧ k' ≤ n ∧ RR sn c tx n h0 g0 h' g' op' nd' k') ∨
  (∃ h' g' op' nd' k' k2, CL c k h k2 h' ∧ ML n op nd k g op' nd' k' g' ∧ FF c n h0 g0 h' g')
noncomputable def TX (c : Int) (tx : Int → Int) (n : Int) (h0 g0 : pH) : Prop := (0 ≤ n ∧ n ≤ 60) ∧ (∀ k : Int, 0 ≤ k → k < n → 0 ≤ tx k ∧ tx k ≤ 127) ∧ (∀ k : Int, 0 ≤ k → k < n → h0 (c + 1) k = tx k) ∧ (∀ k : Int, 0 ≤ k → k < n → g0 249 (376 + k) = tx k)
theorem at_X {c : Int} {tx : Int → Int} {n : Int} {h0 g0 h g : pH} {k : Int} (t : TX c tx n h0 g0) (f : FR c n h0 g0 h g) (h1 : 0 ≤ k) (h2 : k < n) : h (c + 1) k = tx k := by
  rw [f.1 _ (by omega) (by omega) (by omega)]; exact t.2.2.1 k h1 h2
theorem at_M {c : Int} {tx : Int → Int} {n : Int} {h0 g0 h g : pH} {k : Int} (t : TX c tx n h0 g0) (f : FR c n h0 g0 h g) (h1 : 0 ≤ k) (h2 : k < n) : g 249 (376 + k) = tx k := by
  rw [f.2.2.1 _ (by omega) (by omega) (by omega) (by omega)]; exact t.2.2.2 k h1 h2
theorem ix_nn (ch : Int) : (0 ≤ pm_ix ch → (ch = 103 ∨ (ch = 112 ∨ (ch = 115 ∨ (ch = 119 ∨ (ch = 109 ∨ ch = 102)))))) ∧ (pm_ix ch < 0 → ¬ (ch = 103 ∨ (ch = 112 ∨ (ch = 115 ∨ (ch = 119 ∨ (ch = 109 ∨ ch = 102)))))) ∧ pm_ix ch ≤ 5 := by
  refine ⟨?_, ?_, ?_⟩ <;> unfold pm_ix <;> (repeat' split) <;> omega
theorem unr1 {y : Int} (hy : unr y) : ∀ x, x ∈ [y] → unr x := fun x hx => by
  rw [List.mem_singleton.mp hx]; exact hy
section CH
variable {sn : Int → Int} {c : Int} {tx : Int → Int} {n : Int} {h0 g0 h g : pH} {op nd k : Int}
theorem o_blank (t : TX c tx n h0 g0) (r : RR sn c tx n h0 g0 h g op nd k) (k0 : 0 ≤ k) (kn : k < n) (ch : tx k = 32) : OUT sn c tx n h0 g0 h g op nd k := by
  obtain ⟨t1, t2, t3, t4⟩ := id t
  obtain ⟨r1, r2, r3, r4, r5, r6, P, U, T, q1, q2, q3, q4, q5, q6, q7, q8, q9, q10, q11⟩ := r
  have ex := at_X t r1 k0 kn
  have em := at_M t r1 k0 kn
  rw [ch] at ex em
  have A := rAt_blank ex
  refine Or.inl ⟨pm_upd h c 10 0, g, op, nd, k + 1, ?_, ?_, by omega, by omega, FR_fld _ _ (by omega) r1, ?_, r3, ?_, ?_, ?_, P, U, T, CS_fld _ _ (by omega) (by omega) q1, q2, q3, q4, q5, q6, q7, q8, q9, by omega, q11⟩
  · have := cl1 (c := c) (k := k) (h := h) (by rw [r1.2.1]; exact kn) r2 (by omega) (A.2 (by omega))
    rw [A.1] at this
    exact this
  · refine ml1 kn r3 ?_ ?_ ?_ ?_ ?_
    · unfold P_X12_workRules_24 P_X12_at
      rw [em]
      exact fun _ => ⟨by unfold fx_i; omega, ⟨by omega, by unfold fx_i; omega⟩, by unfold fx_i; omega, fun z => absurd rfl z⟩
    · unfold s_X12_workRules_24; rw [em, if_pos rfl]
    · unfold s_X12_workRules_25; rw [em, if_pos rfl]
    · unfold s_X12_workRules_26; rw [em, if_pos rfl]
    · unfold s_X12_workRules_23; rw [em, if_pos rfl]
  · rw [up_pl _ (by omega)]; exact r2
  · rw [up_pl _ (by omega), up_pl _ (by omega)]; exact r4
  · unfold CB
    rw [up_pl _ (by omega)]; exact r5
  · intro _ _ _
    exact up_eq _ _ _ _
/-- no unit can stand here -/
theorem o_nounit (t : TX c tx n h0 g0) (r : RR sn c tx n h0 g0 h g op nd k) (k0 : 0 ≤ k) (kn : k < n) (c1 : tx k ≠ 32) (c2 : nd = 1) (c3 : ¬ (48 ≤ tx k ∧ tx k ≤ 57)) (c4 : pm_ix (tx k) < 0) (c5 : tx k ≠ 33) (c6 : tx k ≠ 45) (c7 : tx k ≠ 40) : OUT sn c tx n h0 g0 h g op nd k := by
  obtain ⟨t1, t2, t3, t4⟩ := id t
  have f := FF_of (v := 10 * k + 1) r (by omega) (by omega)
  obtain ⟨r1, r2, r3, r4, r5, r6, -⟩ := r
  have ex := at_X t r1 k0 kn
  have em := at_M t r1 k0 kn
  have tr := t2 k k0 kn
  obtain ⟨ch, ech⟩ : ∃ ch, ch = tx k := ⟨_, rfl⟩
  rw [← ech] at ex em c1 c3 c4 c5 c6 c7 tr
  have A := (rAt_else ex c3 c1).1 (by omega)
  have nn : ¬ (ch = 103 ∨ (ch = 112 ∨ (ch = 115 ∨ (ch = 119 ∨ (ch = 109 ∨ ch = 102))))) := by
    exact (ix_nn ch).2.1 c4
  refine Or.inr ⟨pm_upd (pm_upd h c 10 0) c 5 (10 * k + 1), pm_upd g 248 12 (10 * k + 1), op, nd, k + 1, k + 1, ?_, ?_, f⟩
  · have eU : H_X9_readUnit c k ch (pm_upd h c 10 0) = pm_upd (pm_upd h c 10 0) c 5 (10 * k + 1) := by
      unfold H_X9_readUnit s_X9_readUnit_2
      rw [i2c_id tr, if_pos c4, if_neg c5, if_neg c6, if_neg c7]
      rfl
    have pU : P_X9_readUnit c k ch (pm_upd h c 10 0) := by
      unfold P_X9_readUnit P_X9_refuse
      rw [i2c_id tr]
      exact ⟨fun _ => ⟨fun z => absurd z c5, fun _ => ⟨fun z => absurd z c6, fun _ => ⟨fun z => absurd z c7, fun _ => ⟨by unfold fx_i; omega, by unfold fx_i; omega⟩⟩⟩⟩, fun z => by omega⟩
    have := cl1 (c := c) (k := k) (h := h) (by rw [r1.2.1]; exact kn) r2 (by omega) (A.2 (by omega) pU)
    rw [A.1, eU] at this
    exact this
  · refine ml1 kn r3 ?_ ?_ ?_ ?_ ?_
    · unfold P_X12_workRules_24 P_X12_at
      rw [em]
      exact fun _ => ⟨by unfold fx_i; omega, ⟨by omega, by unfold fx_i; omega⟩, by unfold fx_i; omega, fun _ => ⟨fun z => by omega, fun _ => ⟨fun z => absurd z c3, fun _ => ⟨fun z => absurd z nn, fun _ => ⟨fun z => absurd z c5, fun _ => ⟨fun z => absurd z c6, fun _ => ⟨fun z => absurd z c7, fun _ => ⟨by unfold fx_i; omega, by unfold fx_i; omega⟩⟩⟩⟩⟩⟩⟩⟩
    · unfold s_X12_workRules_24; rw [em, if_neg c1, if_neg (by omega), if_neg c3, if_neg nn, if_neg c5, if_neg c6, if_neg c7]
    · unfold s_X12_workRules_25; rw [em, if_neg c1, if_neg (by omega), if_neg c3, if_neg nn]
    · unfold s_X12_workRules_26; rw [em, if_neg c1, if_neg (by omega), if_neg c3]
    · unfold s_X12_workRules_23; rw [em, if_neg c1, if_neg (by omega), if_neg c3, if_neg nn, if_neg c5, if_neg c6, if_neg c7]
/-- a name -/
theorem o_name (t : TX c tx n h0 g0) (hN : ∀ g, g 249 = g0 249 → ∀ ch, 0 ≤ pm_ix ch → P_X12_named ch g ∧ F_X12_named ch g = sn (pm_ix ch)) (r : RR sn c tx n h0 g0 h g op nd k) (k0 : 0 ≤ k) (kn : k < n) (c1 : tx k ≠ 32) (c2 : nd = 1) (c3 : ¬ (48 ≤ tx k ∧ tx k ≤ 57)) (c4 : 0 ≤ pm_ix (tx k)) : OUT sn c tx n h0 g0 h g op nd k := by
  obtain ⟨t1, t2, t3, t4⟩ := id t
  obtain ⟨r1, r2, r3, r4, r5, r6, P, U, T, q1, q2, q3, q4, q5, q6, q7, q8, q9, q10, q11⟩ := r
  have ex := at_X t r1 k0 kn
  have em := at_M t r1 k0 kn
  have tr := t2 k k0 kn
  obtain ⟨ch, ech⟩ : ∃ ch, ch = tx k := ⟨_, rfl⟩
  rw [← ech] at ex em c1 c3 c4 tr
  have A := (rAt_else ex c3 c1).1 (by omega)
  have nn : ch = 103 ∨ (ch = 112 ∨ (ch = 115 ∨ (ch = 119 ∨ (ch = 109 ∨ ch = 102)))) := by
    exact (ix_nn ch).1 c4
  have ix5 : pm_ix ch ≤ 5 := (ix_nn ch).2.2
  have eU0 := q6 c2
  subst eU0
  have hNk := hN g (r1.2.2.1 249 (by omega) (by omega) (by omega) (by omega)) ch c4
  simp only [List.nil_append, List.length_nil] at q1 q10
  have q1' : CS c (pm_upd h c 10 0) P T := CS_fld _ _ (by omega) (by omega) q1
  have pt := CS_put (x := -1 - pm_ix ch) q1' (by omega)
  have hvv : ev sn ((-1 - pm_ix ch) :: P) = sn (pm_ix ch) :: ev sn P := by
    show aps sn (-1 - pm_ix ch) (ev sn P) = _
    unfold aps
    rw [if_pos (by omega), if_pos (by omega), show -1 - (-1 - pm_ix ch) = pm_ix ch by omega]
  obtain ⟨p0, p1, p2, p3⟩ := pt
  have RU := RL_unit (sn := sn) (c := c) (h := pm_upd (H_X9_put c (-1 - pm_ix ch) (pm_upd h c 10 0)) c 12 0) (g := g) (op := op) (k := k) (k' := k + 1) (x := -1 - pm_ix ch) (v := sn (pm_ix ch)) (P := P) (T := T) (by omega) (by omega) (by omega) (by omega) (CS_fld _ _ (by omega) (by omega) p1) q2 q4 q5 (by rw [if_pos c2] at q8; rw [show auP [] P = P from rfl] at q8; omega) q9 q11 hvv
  obtain ⟨u1, u2, u3, u4⟩ := RU
  have f9 : ∀ k : Int, k ≠ 6 → k ≠ 10 → k ≠ 12 → (pm_upd (H_X9_put c (-1 - pm_ix ch) (pm_upd h c 10 0)) c 12 0) c k = h c k := fun k e1 e2 e3 => by rw [up_pl _ e3, p3 k e1, up_pl _ e2]
  refine Or.inl ⟨pm_upd (H_X9_put c (-1 - pm_ix ch) (pm_upd h c 10 0)) c 12 0, H_X12_put (sn (pm_ix ch)) g, op, 0, k + 1, ?_, ?_, by omega, by omega, ?_, ?_, ?_, ?_, ?_, ?_, u2⟩
  · have eU : H_X9_readUnit c k ch (pm_upd h c 10 0) = pm_upd (H_X9_put c (-1 - pm_ix ch) (pm_upd h c 10 0)) c 12 0 := by
      unfold H_X9_readUnit s_X9_readUnit_2
      rw [i2c_id tr, if_neg (by omega)]
      rfl
    have pU : P_X9_readUnit c k ch (pm_upd h c 10 0) := by
      unfold P_X9_readUnit P_X9_putUnit
      rw [i2c_id tr]
      exact ⟨fun z => by omega, fun _ => ⟨by unfold fx_i; omega, p0⟩⟩
    have := cl1 (c := c) (k := k) (h := h) (by rw [r1.2.1]; exact kn) r2 (by omega) (A.2 (by omega) pU)
    rw [A.1, eU] at this
    exact this
  · rw [← hNk.2] at u1 ⊢
    refine ml1 kn r3 ?_ ?_ ?_ ?_ ?_
    · unfold P_X12_workRules_24 P_X12_at
      rw [em]
      exact fun _ => ⟨by unfold fx_i; omega, ⟨by omega, by unfold fx_i; omega⟩, by unfold fx_i; omega, fun _ => ⟨fun z => by omega, fun _ => ⟨fun z => absurd z c3, fun _ => ⟨fun _ => ⟨hNk.1, u1⟩, fun z => absurd nn z⟩⟩⟩⟩
    · unfold s_X12_workRules_24; rw [em, if_neg c1, if_neg (by omega), if_neg c3, if_pos nn]
    · unfold s_X12_workRules_25; rw [em, if_neg c1, if_neg (by omega), if_neg c3, if_pos nn]
    · unfold s_X12_workRules_26; rw [em, if_neg c1, if_neg (by omega), if_neg c3]
    · unfold s_X12_workRules_23; rw [em, if_neg c1, if_neg (by omega), if_neg c3, if_pos nn]
  · refine FR_M (FR_X r1 (fun a e1 e2 e3 => ?_) ?_) (fun a e1 e2 e3 e4 => u3 a e1 e2) (fun k e1 e2 e3 e4 => u4 k e1 e2)
    · rw [up_cell _ e1, p2 a e1 e2, up_cell _ e1]
    · exact f9 4 (by omega) (by omega) (by omega)
  · rw [f9 5 (by omega) (by omega) (by omega)]; exact r2
  · rw [u4 12 (by omega) (by omega)]; exact r3
  · refine ⟨r4.1, r4.2.1, by rw [f9 8 (by omega) (by omega) (by omega)]; exact r4.2.2.1, up_eq _ _ _ _, Or.inl rfl⟩
  · unfold CB
    rw [f9 9 (by omega) (by omega) (by omega), u3 257 (by omega) (by omega)]; exact r5
  · intro _ _ _
    rw [up_pl _ (by omega), p3 10 (by omega)]; exact up_eq _ _ _ _
/-- an unary one -/
theorem o_una (t : TX c tx n h0 g0) (r : RR sn c tx n h0 g0 h g op nd k) (k0 : 0 ≤ k) (kn : k < n) (c2 : nd = 1) (y : Int) (c3 : (tx k = 33 ∧ y = 33) ∨ (tx k = 45 ∧ y = 126)) : OUT sn c tx n h0 g0 h g op nd k := by
  obtain ⟨t1, t2, t3, t4⟩ := id t
  obtain ⟨r1, r2, r3, r4, r5, r6, P, U, T, q1, q2, q3, q4, q5, q6, q7, q8, q9, q10, q11⟩ := r
  have ex := at_X t r1 k0 kn
  have em := at_M t r1 k0 kn
  obtain ⟨ch, ech⟩ : ∃ ch, ch = tx k := ⟨_, rfl⟩
  rw [← ech] at ex em c3
  have c1 : ch ≠ 32 := by omega
  have c4 : ¬ (48 ≤ ch ∧ ch ≤ 57) := by omega
  have A := (rAt_else ex c4 c1).1 (by omega)
  have nn : ¬ (ch = 103 ∨ (ch = 112 ∨ (ch = 115 ∨ (ch = 119 ∨ (ch = 109 ∨ ch = 102))))) := by omega
  have ix : pm_ix (pm_i2c ch) < 0 := by rcases c3 with ⟨rfl, _⟩ | ⟨rfl, _⟩ <;> decide
  have hy : unr y := c3.elim (fun w => Or.inl w.2) (fun w => Or.inr w.2)
  have eU0 := q6 c2
  subst eU0
  simp only [List.nil_append, List.length_nil] at q1 q10
  have q1' : CS c (pm_upd h c 10 0) P T := CS_fld _ _ (by omega) (by omega) q1
  obtain ⟨p0, p1, p2, p3⟩ := CS_await (x := y) q1' (by omega)
  have q24 := q2.2.2.2
  refine Or.inl ⟨H_X9_await c y (pm_upd h c 10 0), pm_upd (pm_upd g 256 (g 248 9) (md y)) 248 9 (g 248 9 + 1), op, nd, k + 1, ?_, ?_, by omega, by omega, ?_, ?_, ?_, ?_, ?_, ?_, P, [], y :: T, p1, MS_sign y q2, q3, ?_, ?_, q6, ?_, ?_, ?_, ?_, q11⟩
  · have eU : H_X9_readUnit c k ch (pm_upd h c 10 0) = H_X9_await c y (pm_upd h c 10 0) := by
      unfold H_X9_readUnit s_X9_readUnit_2
      rw [if_pos ix]
      rcases c3 with ⟨z1, z2⟩ | ⟨z1, z2⟩
      · rw [if_pos z1, z2]
      · rw [if_neg (by omega), if_pos z1, z2]
    have pU : P_X9_readUnit c k ch (pm_upd h c 10 0) := by
      unfold P_X9_readUnit
      refine ⟨fun _ => ?_, fun z => by omega⟩
      rcases c3 with ⟨z1, z2⟩ | ⟨z1, z2⟩
      · rw [z2] at p0
        exact ⟨fun _ => p0, fun z => absurd z1 z⟩
      · rw [z2] at p0
        exact ⟨fun z => by omega, fun _ => ⟨fun _ => p0, fun z => absurd z1 z⟩⟩
    have := cl1 (c := c) (k := k) (h := h) (by rw [r1.2.1]; exact kn) r2 (by omega) (A.2 (by omega) pU)
    rw [A.1, eU] at this
    exact this
  · refine ml1 kn r3 ?_ ?_ ?_ ?_ ?_
    · unfold P_X12_workRules_24 P_X12_at
      rw [em]
      refine fun _ => ⟨by unfold fx_i; omega, ⟨by omega, by unfold fx_i; omega⟩, by unfold fx_i; omega, fun _ => ⟨fun z => by omega, fun _ => ⟨fun z => absurd z c4, fun _ => ⟨fun z => absurd z nn, fun _ => ⟨fun _ => ⟨by omega, ?_⟩, fun _ => ⟨fun _ => ⟨by omega, ?_⟩, fun z => by omega⟩⟩⟩⟩⟩⟩
      · rw [up_cell _ (by omega)]; unfold fx_i; omega
      · rw [up_cell _ (by omega)]; unfold fx_i; omega
    · unfold s_X12_workRules_24; rw [em, if_neg c1, if_neg (by omega), if_neg c4, if_neg nn]
      rcases c3 with ⟨z1, z2⟩ | ⟨z1, z2⟩
      · rw [if_pos z1]
      · rw [if_neg (by omega), if_pos z1]
    · unfold s_X12_workRules_25; rw [em, if_neg c1, if_neg (by omega), if_neg c4, if_neg nn]
    · unfold s_X12_workRules_26; rw [em, if_neg c1, if_neg (by omega), if_neg c4]
    · unfold s_X12_workRules_23 s_X12_workRules_16 s_X12_workRules_17
      rw [em, if_neg c1, if_neg (by omega), if_neg c4, if_neg nn, up_cell g (show (248 : Int) ≠ 256 by omega), up_cell g (show (248 : Int) ≠ 256 by omega)]
      rcases c3 with ⟨z1, z2⟩ | ⟨z1, z2⟩
      · rw [if_pos z1, z2]; rfl
      · rw [if_neg (by omega), if_pos z1, z2]; rfl
  · refine FR_M (FR_X r1 (fun a e1 e2 e3 => ?_) ?_) (fun a e1 e2 e3 e4 => ?_) (fun k e1 e2 e3 e4 => ?_)
    · rw [p2 a e1 e3, up_cell _ e1]
    · rw [p3 4 (by omega), up_pl _ (by omega)]
    · rw [up_cell _ e1, up_cell _ e3]
    · rw [up_pl _ e2, up_cell _ (by omega)]
  · rw [p3 5 (by omega), up_pl _ (by omega)]; exact r2
  · rw [up_pl _ (by omega), up_cell _ (by omega)]; exact r3
  · rw [p3 8 (by omega), p3 12 (by omega), up_pl _ (by omega), up_pl _ (by omega)]; exact r4
  · unfold CB
    rw [p3 9 (by omega), up_pl _ (by omega), up_cell _ (by omega), up_cell _ (by omega)]; exact r5
  · intro _ _ _
    rw [p3 10 (by omega)]; exact up_eq _ _ _ _
  · intro x hx
    rcases List.mem_cons.mp hx with w | w
    · rw [w]; exact Or.inl hy
    · exact q4 x w
  · exact ⟨fun w => absurd hy (md_op w).2.2.2.1, q5⟩
  · exact fun z => by omega
  · rw [show nb (y :: T) = nb T from (nb_un [y] T (unr1 hy)).1]
    exact q8
  · rw [show o4 (y :: T) = o4 T from (nb_un [y] T (unr1 hy)).2]
    exact q9
  · simp only [List.length_cons, List.length_nil]; omega
/-- ( -/
theorem o_open (t : TX c tx n h0 g0) (r : RR sn c tx n h0 g0 h g op nd k) (k0 : 0 ≤ k) (kn : k < n) (c2 : nd = 1) (c3 : tx k = 40) (c5 : op ≠ 8) : OUT sn c tx n h0 g0 h g op nd k := by
  obtain ⟨t1, t2, t3, t4⟩ := id t
  obtain ⟨r1, r2, r3, r4, r5, r6, P, U, T, q1, q2, q3, q4, q5, q6, q7, q8, q9, q10, q11⟩ := r
  have ex := at_X t r1 k0 kn
  have em := at_M t r1 k0 kn
  rw [c3] at ex em
  have c4 : ¬ ((48 : Int) ≤ 40 ∧ (40 : Int) ≤ 57) := by omega
  have A := (rAt_else ex c4 (by omega)).1 (by omega)
  have nn : ¬ ((40 : Int) = 103 ∨ ((40 : Int) = 112 ∨ ((40 : Int) = 115 ∨ ((40 : Int) = 119 ∨ ((40 : Int) = 109 ∨ (40 : Int) = 102))))) := by omega
  have eU0 := q6 c2
  subst eU0
  simp only [List.nil_append, List.length_nil] at q1 q10
  obtain ⟨b1, b2, b3⟩ := r5
  have BA := bits_and (b := h c 9) (d := op + 1) ⟨b1, b2⟩ (by omega)
  obtain ⟨h1, eh1⟩ : ∃ q, q = pm_upd (pm_upd (pm_upd h c 10 0) c 8 (op + 1)) c 9 (pm_and (h c 9) (pm_xor (pm_shl 1 (op + 1)) (-1))) := ⟨_, rfl⟩
  have e1 : s_X9_readUnit_1 c (pm_upd h c 10 0) = h1 := by
    unfold s_X9_readUnit_1
    rw [eh1, up_eq, up_pl _ (show (8 : Int) ≠ 10 by omega), up_pl _ (show (9 : Int) ≠ 8 by omega), up_pl _ (show (9 : Int) ≠ 10 by omega), r4.2.2.1]
  have q1' : CS c h1 P T := by rw [eh1]; exact CS_fld _ _ (by omega) (by omega) (CS_fld _ _ (by omega) (by omega) (CS_fld _ _ (by omega) (by omega) q1))
  obtain ⟨p0, p1, p2, p3⟩ := CS_await (x := 40) q1' (by omega)
  have q24 := q2.2.2.2
  have h1k : ∀ k : Int, k ≠ 8 → k ≠ 9 → k ≠ 10 → h1 c k = h c k := fun k e1 e2 e3 => by rw [eh1, up_pl _ e2, up_pl _ e1, up_pl _ e3]
  obtain ⟨g1, eg1⟩ : ∃ q, q = pm_upd (pm_upd g 248 12 (-1)) 257 (op + 1) 0 := ⟨_, rfl⟩
  have g1a : ∀ a, a ≠ 248 → a ≠ 257 → g1 a = g a := fun a e1 e2 => by rw [eg1, up_cell _ e2, up_cell _ e1]
  have g1k : ∀ k : Int, g1 248 k = g 248 k := fun k => by
    rw [eg1, up_cell _ (by omega), up_app]
    by_cases z : k = 12
    · rw [if_pos ⟨rfl, z⟩, z]; exact r3.symm
    · rw [if_neg (fun w => z w.2)]
  have q2' : MS g1 (ev sn (auP [] P)) T := by
    rw [eg1]
    exact MS_fld 257 (op + 1) 0 (by omega) (by omega) (fun z => by omega) (MS_fld 248 12 (-1) (by omega) (by omega) (fun z => by omega) q2)
  refine Or.inl ⟨H_X9_await c 40 h1, pm_upd (pm_upd g1 256 (g1 248 9) (md 40)) 248 9 (g1 248 9 + 1), op + 1, nd, k + 1, ?_, ?_, by omega, by omega, ?_, ?_, ?_, ?_, ?_, ?_, P, [], 40 :: T, p1, MS_sign 40 q2', q3, ?_, ?_, q6, ?_, ?_, ?_, ?_, q11⟩
  · have eU : H_X9_readUnit c k 40 (pm_upd h c 10 0) = H_X9_await c 40 h1 := by
      unfold H_X9_readUnit s_X9_readUnit_2
      rw [if_pos (by decide), if_neg (by omega), if_neg (by omega), if_pos rfl, e1, if_neg (by rw [up_pl _ (by omega)]; omega)]
    have pU : P_X9_readUnit c k 40 (pm_upd h c 10 0) := by
      unfold P_X9_readUnit
      rw [e1, up_pl _ (show (8 : Int) ≠ 10 by omega)]
      refine ⟨fun _ => ⟨fun z => by omega, fun _ => ⟨fun z => by omega, fun _ => ⟨fun _ => ⟨fun z => by omega, fun _ => ⟨by unfold fx_i; omega, p0⟩⟩, fun z => absurd rfl z⟩⟩⟩, fun z => absurd z (by decide)⟩
    have := cl1 (c := c) (k := k) (h := h) (by rw [r1.2.1]; exact kn) r2 (by omega) (A.2 (by omega) pU)
    rw [A.1, eU] at this
    exact this
  · have s19 : s_X12_workRules_19 op = op + 1 := by
      unfold s_X12_workRules_19
      rw [if_pos c5]
    have s18 : s_X12_workRules_18 op k = -1 := by
      unfold s_X12_workRules_18
      rw [if_neg c5]
    have s20 : s_X12_workRules_20 op k g = g1 := by
      unfold s_X12_workRules_20
      rw [s19, s18, eg1]
    refine ml1 kn r3 ?_ ?_ ?_ ?_ ?_
    · unfold P_X12_workRules_24 P_X12_at
      rw [em]
      refine fun _ => ⟨by unfold fx_i; omega, ⟨by omega, by unfold fx_i; omega⟩, by unfold fx_i; omega, fun _ => ⟨fun z => by omega, fun _ => ⟨fun z => absurd z c4, fun _ => ⟨fun z => absurd z nn, fun _ => ⟨fun z => by omega, fun _ => ⟨fun z => by omega, fun _ => ⟨fun _ => ⟨fun z => absurd z c5, ?_, ?_, ?_, ?_⟩, fun z => absurd rfl z⟩⟩⟩⟩⟩⟩⟩
      · rw [if_pos c5]; unfold fx_i; omega
      · rw [s19]; omega
      · rw [s20, g1k]; omega
      · unfold s_X12_workRules_21
        rw [s20, up_cell _ (by omega), g1k]; unfold fx_i; omega
    · unfold s_X12_workRules_24; rw [em, if_neg (by omega), if_neg (by omega), if_neg c4, if_neg nn, if_neg (by omega), if_neg (by omega), if_pos rfl]; exact s19
    · unfold s_X12_workRules_25; rw [em, if_neg (by omega), if_neg (by omega), if_neg c4, if_neg nn]
    · unfold s_X12_workRules_26; rw [em, if_neg (by omega), if_neg (by omega), if_neg c4]
    · unfold s_X12_workRules_23 s_X12_workRules_22 s_X12_workRules_21
      rw [em, if_neg (by omega), if_neg (by omega), if_neg c4, if_neg nn, if_neg (by omega), if_neg (by omega), if_pos rfl, s20, up_cell g1 (show (248 : Int) ≠ 256 by omega)]
      rfl
  · refine FR_M (FR_X r1 (fun a e1 e2 e3 => ?_) ?_) (fun a e1 e2 e3 e4 => ?_) (fun k e1 e2 e3 e4 => ?_)
    · rw [p2 a e1 e3, eh1, up_cell _ e1, up_cell _ e1, up_cell _ e1]
    · rw [p3 4 (by omega), h1k 4 (by omega) (by omega) (by omega)]
    · rw [up_cell _ e1, up_cell _ e3, g1a a e1 e4]
    · rw [up_pl _ e2, up_cell _ (by omega), g1k]
  · rw [p3 5 (by omega), h1k 5 (by omega) (by omega) (by omega)]; exact r2
  · rw [up_pl _ (by omega), up_cell _ (by omega), g1k]; exact r3
  · refine ⟨by omega, by omega, ?_, ?_, r4.2.2.2.2⟩
    · rw [p3 8 (by omega), eh1, up_pl _ (by omega), up_eq]
    · rw [p3 12 (by omega), h1k 12 (by omega) (by omega) (by omega)]; exact r4.2.2.2.1
  · unfold CB
    rw [p3 9 (by omega), show h1 c 9 = pm_and (h c 9) (pm_xor (pm_shl 1 (op + 1)) (-1)) by rw [eh1, up_eq], up_cell _ (by omega), up_cell _ (by omega)]
    refine ⟨BA.1.1, BA.1.2, fun j j1 j2 => ?_⟩
    rw [BA.2 j j1 (by omega), eg1, up_app]
    by_cases z : j = op + 1
    · rw [if_pos ⟨rfl, z⟩]
      exact ⟨fun w => absurd z w.1, fun w => absurd rfl w⟩
    · rw [if_neg (fun w => z w.2), up_cell _ (by omega), ← b3 j j1 (by omega)]
      exact ⟨fun w => w.2, fun w => ⟨z, w⟩⟩
  · intro _ _ _
    rw [p3 10 (by omega), eh1, up_pl _ (by omega), up_pl _ (by omega)]; exact up_eq _ _ _ _
  · intro x hx
    rcases List.mem_cons.mp hx with w | w
    · rw [w]; exact Or.inr (Or.inl rfl)
    · exact q4 x w
  · exact ⟨fun w => absurd rfl (md_op w).2.2.2.2, q5⟩
  · exact fun z => by omega
  · rw [q8]
    show _ = nb T + (if (40 : Int) = 33 ∨ (40 : Int) = 126 ∨ (40 : Int) = 40 then 0 else 1) + _
    rw [if_pos (by omega)]; omega
  · show op + 1 = o4 T + (if (40 : Int) = 40 then 1 else 0)
    rw [if_pos rfl]; omega
  · simp only [List.length_cons, List.length_nil]; omega
/-- the ninth ( -/
theorem o_deep (t : TX c tx n h0 g0) (r : RR sn c tx n h0 g0 h g op nd k) (k0 : 0 ≤ k) (kn : k < n) (c2 : nd = 1) (c3 : tx k = 40) (c5 : op = 8) : OUT sn c tx n h0 g0 h g op nd k := by
  obtain ⟨t1, t2, t3, t4⟩ := id t
  have f := FF_of (v := 10 * k + 3) r (by omega) (by omega)
  obtain ⟨r1, r2, r3, r4, r5, r6, P, U, T, q1, q2, q3, q4, q5, q6, q7, q8, q9, q10, q11⟩ := r
  have ex := at_X t r1 k0 kn
  have em := at_M t r1 k0 kn
  rw [c3] at ex em
  have c4 : ¬ ((48 : Int) ≤ 40 ∧ (40 : Int) ≤ 57) := by omega
  have A := (rAt_else ex c4 (by omega)).1 (by omega)
  have nn : ¬ ((40 : Int) = 103 ∨ ((40 : Int) = 112 ∨ ((40 : Int) = 115 ∨ ((40 : Int) = 119 ∨ ((40 : Int) = 109 ∨ (40 : Int) = 102))))) := by omega
  have q24 := q2.2.2.2
  have s19 : s_X12_workRules_19 op = 8 := by
    unfold s_X12_workRules_19
    rw [if_neg (fun z => z c5)]; omega
  have s20 : s_X12_workRules_20 op k g = pm_upd (pm_upd g 248 12 (10 * k + 3)) 257 8 0 := by
    unfold s_X12_workRules_20 s_X12_workRules_18
    rw [s19, if_pos c5]
  have s209 : s_X12_workRules_20 op k g 248 9 = g 248 9 := by rw [s20, up_cell _ (by omega), up_pl _ (by omega)]
  have s21 : s_X12_workRules_21 op k g = pm_upd (pm_upd (pm_upd g 248 12 (10 * k + 3)) 257 8 0) 256 (g 248 9) 0 := by
    unfold s_X12_workRules_21
    rw [s209, s20]
  have s219 : s_X12_workRules_21 op k g 248 9 = g 248 9 := by rw [s21, up_cell _ (by omega), up_cell _ (by omega), up_pl _ (by omega)]
  obtain ⟨f1, f2, f3, f4⟩ := f
  refine Or.inr ⟨pm_upd (pm_upd h c 10 0) c 5 (10 * k + 3), pm_upd (pm_upd (pm_upd (pm_upd g 248 12 (10 * k + 3)) 257 8 0) 256 (g 248 9) 0) 248 9 (g 248 9 + 1), op, nd, k + 1, k + 1, ?_, ?_, ?_, f2, ?_, f4⟩
  · have eU : H_X9_readUnit c k 40 (pm_upd h c 10 0) = pm_upd (pm_upd h c 10 0) c 5 (10 * k + 3) := by
      unfold H_X9_readUnit s_X9_readUnit_2
      rw [if_pos (by decide), if_neg (by omega), if_neg (by omega), if_pos rfl, if_pos (by rw [up_pl _ (by omega)]; omega)]
      rfl
    have pU : P_X9_readUnit c k 40 (pm_upd h c 10 0) := by
      unfold P_X9_readUnit P_X9_refuse
      rw [up_pl _ (show (8 : Int) ≠ 10 by omega)]
      refine ⟨fun _ => ⟨fun z => by omega, fun _ => ⟨fun z => by omega, fun _ => ⟨fun _ => ⟨fun _ => ⟨by unfold fx_i; omega, by unfold fx_i; omega⟩, fun z => by omega⟩, fun z => absurd rfl z⟩⟩⟩, fun z => absurd z (by decide)⟩
    have := cl1 (c := c) (k := k) (h := h) (by rw [r1.2.1]; exact kn) r2 (by omega) (A.2 (by omega) pU)
    rw [A.1, eU] at this
    exact this
  · refine ml1 kn r3 ?_ ?_ ?_ ?_ ?_
    · unfold P_X12_workRules_24 P_X12_at
      rw [em]
      refine fun _ => ⟨by unfold fx_i; omega, ⟨by omega, by unfold fx_i; omega⟩, by unfold fx_i; omega, fun _ => ⟨fun z => by omega, fun _ => ⟨fun z => absurd z c4, fun _ => ⟨fun z => absurd z nn, fun _ => ⟨fun z => by omega, fun _ => ⟨fun z => by omega, fun _ => ⟨fun _ => ⟨fun _ => ⟨by unfold fx_i; omega, by unfold fx_i; omega⟩, ?_, ?_, ?_, ?_⟩, fun z => absurd rfl z⟩⟩⟩⟩⟩⟩⟩
      · rw [if_neg (fun z => z c5)]; unfold fx_i; omega
      · rw [s19]; omega
      · rw [s209]; omega
      · rw [s219]; unfold fx_i; omega
    · unfold s_X12_workRules_24; rw [em, if_neg (by omega), if_neg (by omega), if_neg c4, if_neg nn, if_neg (by omega), if_neg (by omega), if_pos rfl, s19]; exact c5.symm
    · unfold s_X12_workRules_25; rw [em, if_neg (by omega), if_neg (by omega), if_neg c4, if_neg nn]
    · unfold s_X12_workRules_26; rw [em, if_neg (by omega), if_neg (by omega), if_neg c4]
    · unfold s_X12_workRules_23 s_X12_workRules_22
      rw [em, if_neg (by omega), if_neg (by omega), if_neg c4, if_neg nn, if_neg (by omega), if_neg (by omega), if_pos rfl, s219, s21]
  · refine FR_M f1 (fun a e1 e2 e3 e4 => ?_) (fun k e1 e2 e3 e4 => ?_)
    · rw [up_cell _ e1, up_cell _ e3, up_cell _ e4]
    · rw [up_pl _ e2, up_cell _ (by omega), up_cell _ (by omega)]
  · rw [f3, up_eq, up_pl _ (by omega), up_cell _ (by omega), up_cell _ (by omega), up_eq]
end CH
