/-! Joins, closings and numbers. -/
section CH2
variable {sn : Int → Int} {c : Int} {tx : Int → Int} {n : Int} {h0 g0 h g : pH} {op nd k : Int}
theorem m_bad {ch : Int} (em : g 249 (376 + k) = ch) (k0 : 0 ≤ k) (kn : k < n) (hn : n ≤ 60) (tr : 0 ≤ ch ∧ ch ≤ 127) (ho : 0 ≤ op ∧ op ≤ 8) (r3 : g 248 12 = -1) (c1 : ch ≠ 32) (c2 : nd = 0) (c3 : ch = 41 → op ≤ 0) (c4 : F_X12_strength ch (fun _ _ => 0) = 0 ∨ (F_X12_strength ch (fun _ _ => 0) = 3 ∧ ¬ g 257 op = 0)) :
    ML n op nd k g op nd (k + 1) (pm_upd g 248 12 (10 * k + 1)) := by
  refine ml1 kn r3 ?_ ?_ ?_ ?_ ?_
  · unfold P_X12_workRules_24 P_X12_at
    rw [em, sd_h]
    refine fun _ => ⟨by unfold fx_i; omega, ⟨by omega, by unfold fx_i; omega⟩, by unfold fx_i; omega, fun _ => ⟨fun _ => ⟨fun z41 => ⟨fun _ => ⟨fun _ => ⟨by unfold fx_i; omega, by unfold fx_i; omega⟩, fun z => ⟨fun z3 => ⟨by omega, fun z0 => ?_, fun _ => ⟨by unfold fx_i; omega, by unfold fx_i; omega⟩⟩, fun z3 => ?_⟩⟩, fun z => ?_⟩, fun _ => ⟨fun _ => ⟨by unfold fx_i; omega, by unfold fx_i; omega⟩, fun z => ⟨fun z3 => ⟨by omega, fun z0 => ?_, fun _ => ⟨by unfold fx_i; omega, by unfold fx_i; omega⟩⟩, fun z3 => ?_⟩⟩⟩, fun z => absurd c2 z⟩⟩
    · exact absurd c4 (fun q => q.elim (fun q => z q) (fun q => q.2 z0))
    · exact absurd c4 (fun q => q.elim (fun q => z q) (fun q => z3 q.1))
    · have := c3 z41; omega
    · exact absurd c4 (fun q => q.elim (fun q => z q) (fun q => q.2 z0))
    · exact absurd c4 (fun q => q.elim (fun q => z q) (fun q => z3 q.1))
  · unfold s_X12_workRules_24; rw [em, if_neg c1, if_pos c2]
    by_cases z : ch = 41
    · rw [if_pos z, if_pos (c3 z)]
    · rw [if_neg z]
  · unfold s_X12_workRules_25; rw [em, if_neg c1, if_pos c2, sd_h]
    have e : (if F_X12_strength ch (fun _ _ => 0) = 0 then nd else if F_X12_strength ch (fun _ _ => 0) = 3 then if g 257 op = 0 then 1 else nd else 1) = nd := by
      rcases c4 with q | q
      · rw [if_pos q]
      · rw [if_neg (by omega), if_pos q.1, if_neg q.2]
    rw [e]
    by_cases z : ch = 41
    · rw [if_pos z, if_pos (c3 z)]
    · rw [if_neg z]
  · unfold s_X12_workRules_26; rw [em, if_neg c1, if_pos c2]
  · unfold s_X12_workRules_23; rw [em, if_neg c1, if_pos c2, sd_h]
    have e : ∀ A B : pH, (if F_X12_strength ch (fun _ _ => 0) = 0 then pm_upd g 248 12 (10 * k + 1) else if F_X12_strength ch (fun _ _ => 0) = 3 then if g 257 op = 0 then A else pm_upd g 248 12 (10 * k + 1) else B) = pm_upd g 248 12 (10 * k + 1) := by
      intro A B
      rcases c4 with q | q
      · rw [if_pos q]
      · rw [if_neg (by omega), if_pos q.1, if_neg q.2]
    rw [e]
    by_cases z : ch = 41
    · rw [if_pos z, if_pos (c3 z)]
    · rw [if_neg z]
theorem st_nop {ch : Int} (q : ¬ opr ch) : F_X12_strength ch (fun _ _ => 0) = 0 ∧ (bd ch = 0 ∨ bd ch = 6) := by
  unfold opr at q
  unfold bd F_X12_strength F_X9_binding
  by_cases z33 : ch = 33
  · subst z33; decide
  · by_cases z126 : ch = 126
    · subst z126; decide
    · rw [if_neg (by omega), if_neg (by omega), if_neg (by omega), if_neg (by omega), if_neg (by omega), if_neg (by omega), if_neg (by omega), if_neg (by omega), if_neg (by omega)]
      refine ⟨rfl, Or.inl ?_⟩
      rw [if_neg z33, if_neg (by omega), if_neg (by omega), if_neg (by omega), if_neg (by omega), if_neg (by omega), if_neg (by omega), if_neg (by omega), if_neg (by omega), if_neg (by omega), if_neg z126]
/-- nothing joins here -/
theorem o_nojoin (t : TX c tx n h0 g0) (r : RR sn c tx n h0 g0 h g op nd k) (k0 : 0 ≤ k) (kn : k < n) (c1 : tx k ≠ 32) (c2 : nd = 0) (c3 : tx k = 41 → op ≤ 0) (c4 : ¬ opr (tx k) ∨ (opr (tx k) ∧ bd (tx k) = 3 ∧ ¬ g 257 op = 0)) : OUT sn c tx n h0 g0 h g op nd k := by
  obtain ⟨t1, t2, t3, t4⟩ := id t
  have f := FF_of (v := 10 * k + 1) r (by omega) (by omega)
  have f2 := FF_of2 (v := 10 * k + 1) r (by omega) (by omega)
  obtain ⟨r1, r2, r3, r4, r5, r6, -⟩ := r
  have ex := at_X t r1 k0 kn
  have em := at_M t r1 k0 kn
  have tr := t2 k k0 kn
  obtain ⟨ch, ech⟩ : ∃ ch, ch = tx k := ⟨_, rfl⟩
  rw [← ech] at ex em c1 c3 c4 tr
  have ML1 := m_bad (g := g) (nd := nd) em k0 kn t1.2 tr ⟨r4.1, r4.2.1⟩ r3 c1 c2 c3 (by
    rcases c4 with q | q
    · exact Or.inl (st_nop q).1
    · exact Or.inr ⟨by rw [(bd_op q.1).2.2]; exact q.2.1, q.2.2⟩)
  by_cases dg : 48 ≤ ch ∧ ch ≤ 57
  · refine Or.inr ⟨pm_upd h c 5 (10 * k + 1), pm_upd g 248 12 (10 * k + 1), op, nd, k + 1, k + 1, ?_, ML1, f2⟩
    have A := rAt_digit ex dg
    have h10 := r6 kn (by rw [← ech]; exact dg.1) (by rw [← ech]; exact dg.2)
    have eD : H_X9_readDigit c k (ch - 48) h = pm_upd h c 5 (10 * k + 1) := by
      unfold H_X9_readDigit s_X9_readDigit_2
      rw [if_pos h10, if_pos (by omega)]
      rfl
    have pD : P_X9_readDigit c k (ch - 48) h := by
      unfold P_X9_readDigit P_X9_refuse
      exact ⟨fun _ => ⟨fun _ => ⟨by unfold fx_i; omega, by unfold fx_i; omega⟩, fun z => by omega⟩, fun z => absurd h10 z⟩
    have := cl1 (c := c) (k := k) (h := h) (by rw [r1.2.1]; exact kn) r2 (by omega) (A.2 (by omega) pD)
    rw [A.1, eD] at this
    exact this
  · refine Or.inr ⟨pm_upd (pm_upd h c 10 0) c 5 (10 * k + 1), pm_upd g 248 12 (10 * k + 1), op, nd, k + 1, k + 1, ?_, ML1, f⟩
    have A := rAt_else ex dg c1
    by_cases z41 : ch = 41
    · have A := A.2.1 (by omega) z41
      have eD : H_X9_readClosing c k (pm_upd h c 10 0) = pm_upd (pm_upd h c 10 0) c 5 (10 * k + 1) := by
        unfold H_X9_readClosing
        have := c3 z41
        rw [if_pos (by rw [up_pl _ (by omega)]; omega)]
        rfl
      have pD : P_X9_readClosing c k (pm_upd h c 10 0) := by
        unfold P_X9_readClosing P_X9_refuse
        have := c3 z41
        rw [up_pl _ (show (8 : Int) ≠ 10 by omega)]
        exact ⟨fun _ => ⟨by unfold fx_i; omega, by unfold fx_i; omega⟩, fun z => by omega⟩
      have := cl1 (c := c) (k := k) (h := h) (by rw [r1.2.1]; exact kn) r2 (by omega) (A.2 (by omega) pD)
      rw [A.1, eD] at this
      exact this
    · have A := A.2.2 (by omega) z41
      have e9 : (pm_upd h c 10 0) c 9 = h c 9 := up_pl _ (by omega)
      have e8 : (pm_upd h c 10 0) c 8 = op := by rw [up_pl _ (by omega)]; exact r4.2.2.1
      have b33 : ∀ h : pH, F_X9_binding 33 h = 6 := fun _ => rfl
      have b61 : ∀ h : pH, F_X9_binding 61 h = 3 := fun _ => rfl
      have hb : bd ch = 0 ∨ bd ch = 6 ∨ (bd ch = 3 ∧ ¬ pm_and (h c 9) (pm_shl 1 op) = 0) := by
        rcases c4 with q | q
        · rcases (st_nop q).2 with w | w
          · exact Or.inl w
          · exact Or.inr (Or.inl w)
        · exact Or.inr (Or.inr ⟨q.2.1, (r5.2.2 op r4.1 (Int.le_refl _)).mpr q.2.2⟩)
      have eD : H_X9_readJoin c k ch (pm_upd h c 10 0) = pm_upd (pm_upd h c 10 0) c 5 (10 * k + 1) := by
        unfold H_X9_readJoin
        rw [bd_h, b33, b61, e8, e9]
        rcases hb with w | w | w
        · rw [if_pos w]; rfl
        · rw [if_neg (by omega), if_pos w]; rfl
        · rw [if_neg (by omega), if_neg (by omega), if_pos w.1, if_neg w.2]; rfl
      have pD : P_X9_readJoin c k ch (pm_upd h c 10 0) := by
        unfold P_X9_readJoin P_X9_refuse
        rw [bd_h, b33, b61, e8, e9]
        refine ⟨fun _ => ⟨by unfold fx_i; omega, by unfold fx_i; omega⟩, fun y0 => ⟨fun _ => ⟨by unfold fx_i; omega, by unfold fx_i; omega⟩, fun y6 => ⟨fun y3 => ⟨fun y => ?_, fun _ => ⟨by unfold fx_i; omega, by unfold fx_i; omega⟩⟩, fun y3 => ?_⟩⟩⟩
        · rcases hb with w | w | w
          · exact absurd w y0
          · exact absurd w y6
          · exact absurd y w.2
        · rcases hb with w | w | w
          · exact absurd w y0
          · exact absurd w y6
          · exact absurd w.1 y3
      have := cl1 (c := c) (k := k) (h := h) (by rw [r1.2.1]; exact kn) r2 (by omega) (A.2 (by omega) pD)
      rw [A.1, eD] at this
      exact this
/-- ) -/
theorem o_close (t : TX c tx n h0 g0) (r : RR sn c tx n h0 g0 h g op nd k) (k0 : 0 ≤ k) (kn : k < n) (c2 : nd = 0) (c3 : tx k = 41) (c5 : 0 < op) : OUT sn c tx n h0 g0 h g op nd k := by
  obtain ⟨t1, t2, t3, t4⟩ := id t
  obtain ⟨r1, r2, r3, r4, r5, r6, P, U, T, q1, q2, q3, q4, q5, q6, q7, q8, q9, q10, q11⟩ := r
  have ex := at_X t r1 k0 kn
  have em := at_M t r1 k0 kn
  rw [c3] at ex em
  have A := (rAt_else ex (by omega) (by omega)).2.1 (by omega) rfl
  have q1' : CS c (pm_upd h c 10 0) P (U ++ T) := CS_fld _ _ (by omega) (by omega) q1
  have hal := auP_len U P
  have hel := ev_len sn (auP U P)
  have b124 : ∀ h : pH, F_X9_binding 124 h = 1 := fun _ => rfl
  -- the class
  obtain ⟨p0, p1, p2, p3⟩ := CS_pw (s := 1) (U ++ T) P _ q1' (by rw [List.length_append]; omega) (UT_rng q3 q4)
  rw [pw_un (by omega) U T P q3] at p1
  have q8' : ((ev sn (auP U P)).length : Int) = nb T + 1 := by rw [q8, if_neg (by omega)]
  obtain ⟨w1, w2, w3, w4, w5, w6, w7, w8, w9, w10, w11⟩ := pw_rd (sn := sn) (s := 1) (by omega) T (auP U P) q4 q5 (q7 c2) q8'
  obtain ⟨P1, eP1⟩ : ∃ q, q = (pw 1 T (auP U P)).1 := ⟨_, rfl⟩
  obtain ⟨T1, eT1⟩ : ∃ q, q = (pw 1 T (auP U P)).2 := ⟨_, rfl⟩
  rw [← eP1] at p1 w2 w5 w8 w10
  rw [← eT1] at p1 w1 w3 w4 w5 w6 w7 w8 w9 w11
  -- the model
  obtain ⟨m0, m1, m2, m3⟩ := MS_red (s := 1) (by omega) T _ g q2 q4 q8' (by omega) (by omega)
  rw [← w1, ← w2] at m1
  -- what is beneath
  obtain ⟨T2, eT2⟩ : ∃ T2, T1 = 40 :: T2 := by
    rcases T1 with _ | ⟨x, T2⟩
    · have : o4 [] = 0 := rfl
      omega
    · refine ⟨T2, ?_⟩
      have hx := w11 x T2 rfl
      rcases w7 x (List.mem_cons_self ..) with y | y | y
      · exact absurd y w4
      · rw [y]
      · have := bd_op y; omega
  subst eT2
  have hnb : nb (40 :: T2) = nb T2 := by
    show nb T2 + (if (40 : Int) = 33 ∨ (40 : Int) = 126 ∨ (40 : Int) = 40 then 0 else 1) = _
    rw [if_pos (by omega)]; omega
  have ho4 : o4 (40 :: T2) = o4 T2 + 1 := rfl
  rw [hnb] at w5
  have hnn := nb_nn T2
  obtain ⟨v, V2, eV⟩ : ∃ v V2, ev sn P1 = v :: V2 := by
    rcases e : ev sn P1 with _ | ⟨v, V2⟩
    · rw [e] at w5; simp only [List.length_nil] at w5; omega
    · exact ⟨v, V2, rfl⟩
  rw [eV] at m1 w5
  simp only [List.length_cons] at w5 w8
  have hel1 := ev_len sn P1
  rw [eV] at hel1
  simp only [List.length_cons] at hel1
  obtain ⟨m11, m12, m13, m14⟩ := m1
  simp only [List.length_cons] at m12 m14
  have s8 : ∀ a, a ≠ 248 → s_X12_workRules_9 g a = H_X12_reduce 1 g a := fun a e => by
    unfold s_X12_workRules_9 s_X12_workRules_8
    rw [up_cell _ e, up_cell _ e]
  have s9a : s_X12_workRules_8 g 248 8 = H_X12_reduce 1 g 248 8 := by
    unfold s_X12_workRules_8
    rw [up_pl _ (by omega)]
  have s98 : s_X12_workRules_9 g 248 8 = H_X12_reduce 1 g 248 8 - 1 := by
    unfold s_X12_workRules_9
    rw [up_eq, s9a]
  have s99 : s_X12_workRules_9 g 248 9 = H_X12_reduce 1 g 248 9 - 1 := by
    unfold s_X12_workRules_9 s_X12_workRules_8
    rw [up_pl _ (by omega), up_eq]
  have s9k : ∀ k : Int, k ≠ 8 → k ≠ 9 → s_X12_workRules_9 g 248 k = g 248 k := fun k e1 e2 => by
    unfold s_X12_workRules_9 s_X12_workRules_8
    rw [up_pl _ e1, up_pl _ e2]; exact m3 k e1 e2
  have MS9 : MS (s_X12_workRules_9 g) V2 T2 := by
    refine ⟨by rw [s8 255 (by omega)]; exact m11.2, by rw [s98]; omega, by rw [s8 256 (by omega)]; exact m13.2, by rw [s99]; omega⟩
  have ev9 : s_X12_workRules_9 g 255 (s_X12_workRules_9 g 248 8) = v := by
    rw [s8 255 (by omega), s98, show H_X12_reduce 1 g 248 8 - 1 = (V2.length : Int) by omega]; exact m11.1
  obtain ⟨u0, u1, u2, U', T', v', u3, u4, u5, u6, u7⟩ := MS_put (sn := sn) (v := v) MS9 (fun x hx => w7 x (List.mem_cons_of_mem _ hx)) (by omega) (by omega)
  have en := nb_un U' T' u4
  have e7 := u7 P1 V2 eV
  -- the class's heap
  obtain ⟨h1, eh1⟩ : ∃ q, q = H_X9_putWaiting c 1 (pm_upd h c 10 0) := ⟨_, rfl⟩
  rw [← eh1] at p1 p2 p3
  obtain ⟨p11, p12, p13, p14⟩ := p1
  simp only [List.length_cons] at p14
  obtain ⟨h2, eh2⟩ : ∃ q, q = pm_upd (pm_upd h1 c 7 (h1 c 7 - 1)) c 8 (op - 1) := ⟨_, rfl⟩
  have h1k : ∀ k : Int, k ≠ 6 → k ≠ 7 → k ≠ 10 → h1 c k = h c k := fun k e1 e2 e3 => by rw [p3 k e1 e2, up_pl _ e3]
  have h2k : ∀ k : Int, k ≠ 6 → k ≠ 7 → k ≠ 8 → k ≠ 10 → h2 c k = h c k := fun k e1 e2 e3 e4 => by rw [eh2, up_pl _ e3, up_pl _ e2]; exact h1k k e1 e2 e4
  have CS2 : CS c h2 P1 T2 := by
    refine ⟨?_, ?_, ?_, ?_⟩
    · rw [eh2, up_cell _ (by omega), up_cell _ (by omega)]; exact p11
    · rw [eh2, up_pl _ (by omega), up_pl _ (by omega)]; exact p12
    · rw [eh2, up_cell _ (by omega), up_cell _ (by omega)]; exact p13.2
    · rw [eh2, up_pl _ (by omega), up_eq]; omega
  refine Or.inl ⟨h2, H_X12_put v (s_X12_workRules_9 g), op + -1, nd, k + 1, ?_, ?_, by omega, by omega, ?_, ?_, ?_, ?_, ?_, ?_, P1, U', T', ?_, ?_, u4, ?_, ?_, fun z => by omega, fun _ => u5, ?_, ?_, ?_, ?_⟩
  · have e81 : s_X9_readClosing_2 c (pm_upd h c 10 0) = pm_upd h1 c 7 (h1 c 7 - 1) := by
      unfold s_X9_readClosing_2 s_X9_readClosing_1
      rw [b124, ← eh1, if_neg (by omega)]
    have e8h : (pm_upd h1 c 7 (h1 c 7 - 1)) c 8 = op := by rw [up_pl _ (by omega), h1k 8 (by omega) (by omega) (by omega)]; exact r4.2.2.1
    have eU : H_X9_readClosing c k (pm_upd h c 10 0) = h2 := by
      unfold H_X9_readClosing s_X9_readClosing_3
      rw [e81, e8h, if_neg (by rw [up_pl _ (by omega)]; omega), eh2]
    have pU : P_X9_readClosing c k (pm_upd h c 10 0) := by
      unfold P_X9_readClosing
      rw [e81, e8h, b124, ← eh1, up_pl _ (show (8 : Int) ≠ 10 by omega)]
      exact ⟨fun z => by omega, fun _ => ⟨p0, fun _ => by unfold fx_i; omega, by unfold fx_i; omega⟩⟩
    have := cl1 (c := c) (k := k) (h := h) (by rw [r1.2.1]; exact kn) r2 (by omega) (A.2 (by omega) pU)
    rw [A.1, eU] at this
    exact this
  · refine ml1 kn r3 ?_ ?_ ?_ ?_ ?_
    · unfold P_X12_workRules_24 P_X12_at
      rw [em, ev9, s98, s9a]
      refine fun _ => ⟨by unfold fx_i; omega, ⟨by omega, by unfold fx_i; omega⟩, by unfold fx_i; omega, fun _ => ⟨fun _ => ⟨fun _ => ⟨fun z => by omega, fun _ => ⟨m0, by unfold fx_i; omega, by unfold fx_i; omega, by unfold fx_i; omega, by omega, u0⟩⟩, fun z => absurd rfl z⟩, fun z => absurd c2 z⟩⟩
    · unfold s_X12_workRules_24; rw [em, if_neg (by omega), if_pos c2, if_pos rfl, if_neg (by omega)]
    · unfold s_X12_workRules_25; rw [em, if_neg (by omega), if_pos c2, if_pos rfl, if_neg (by omega)]
    · unfold s_X12_workRules_26; rw [em, if_neg (by omega), if_pos c2]
    · unfold s_X12_workRules_23 s_X12_workRules_10; rw [em, if_neg (by omega), if_pos c2, if_pos rfl, if_neg (by omega), ev9]
  · refine FR_M (FR_X r1 (fun a e1 e2 e3 => ?_) ?_) (fun a e1 e2 e3 e4 => ?_) (fun k e1 e2 e3 e4 => ?_)
    · rw [eh2, up_cell _ e1, up_cell _ e1, p2 a e1 e2, up_cell _ e1]
    · exact h2k 4 (by omega) (by omega) (by omega) (by omega)
    · rw [u1 a e1 e2, s8 a e1, m2 a e1 e2]
    · rw [u2 k e1 e2, s9k k e1 e2]
  · rw [h2k 5 (by omega) (by omega) (by omega) (by omega)]; exact r2
  · rw [u2 12 (by omega) (by omega), s9k 12 (by omega) (by omega)]; exact r3
  · refine ⟨by omega, by omega, ?_, ?_, r4.2.2.2.2⟩
    · rw [eh2, up_eq]; omega
    · rw [h2k 12 (by omega) (by omega) (by omega) (by omega)]; exact r4.2.2.2.1
  · unfold CB
    rw [h2k 9 (by omega) (by omega) (by omega) (by omega), u1 257 (by omega) (by omega), s8 257 (by omega), m2 257 (by omega) (by omega)]
    exact ⟨r5.1, r5.2.1, fun j j1 j2 => r5.2.2 j j1 (by omega)⟩
  · intro _ _ _
    rw [eh2, up_pl _ (by omega), up_pl _ (by omega), p3 10 (by omega) (by omega)]; exact up_eq _ _ _ _
  · rw [← u3]; exact CS2
  · rw [e7]; exact u6
  · exact fun x hx => w7 x (List.mem_cons_of_mem _ (by rw [u3]; exact List.mem_append_right _ hx))
  · have := w3.2
    rw [u3] at this; exact okT_tl U' T' this
  · rw [e7, if_neg (by omega)]
    simp only [List.length_cons]
    rw [u3, en.1] at w5
    exact w5
  · have : o4 T2 = o4 T' := by rw [u3]; exact en.2
    omega
  · have : U'.length + T'.length = T2.length := by rw [u3, List.length_append]
    omega
  · intro x hx
    rcases w10 x hx with y | y
    · rcases auP_mem U P x y with y | y
      · exact q11 x y
      · have := tok_rng (Or.inl (q3 _ y)); omega
    · have := tok_rng (q4 _ y); omega
/-- a join -/
theorem o_join (t : TX c tx n h0 g0) (r : RR sn c tx n h0 g0 h g op nd k) (k0 : 0 ≤ k) (kn : k < n) (c2 : nd = 0) (c3 : opr (tx k)) (c5 : bd (tx k) = 3 → g 257 op = 0) : OUT sn c tx n h0 g0 h g op nd k := by
  obtain ⟨t1, t2, t3, t4⟩ := id t
  obtain ⟨r1, r2, r3, r4, r5, r6, P, U, T, q1, q2, q3, q4, q5, q6, q7, q8, q9, q10, q11⟩ := r
  have ex := at_X t r1 k0 kn
  have em := at_M t r1 k0 kn
  have tr := t2 k k0 kn
  obtain ⟨ch, ech⟩ : ∃ ch, ch = tx k := ⟨_, rfl⟩
  rw [← ech] at ex em c3 c5 tr
  have hb := bd_op c3
  have n41 : ch ≠ 41 ∧ ch ≠ 32 ∧ ¬ (48 ≤ ch ∧ ch ≤ 57) := by
    rcases c3 with rfl | rfl | rfl | rfl | rfl | rfl | rfl | rfl | rfl <;> decide
  have A := (rAt_else ex n41.2.2 n41.2.1).2.2 (by omega) n41.1
  have hal := auP_len U P
  have hel := ev_len sn (auP U P)
  have b33 : ∀ h : pH, F_X9_binding 33 h = 6 := fun _ => rfl
  have b61 : ∀ h : pH, F_X9_binding 61 h = 3 := fun _ => rfl
  obtain ⟨s, es⟩ : ∃ s, s = bd ch := ⟨_, rfl⟩
  rw [← es] at c5 hb
  obtain ⟨bb, ebb⟩ : ∃ bb, bb = if s = 3 then pm_or (h c 9) (pm_shl 1 op) else if s < 3 then pm_and (h c 9) (pm_xor (pm_shl 1 op) (-1)) else h c 9 := ⟨_, rfl⟩
  -- the class's heap as the waiting ones are put
  obtain ⟨h1, eh1⟩ : ∃ q, q = (if s ≤ 3 then pm_upd (pm_upd h c 10 0) c 9 bb else pm_upd h c 10 0) := ⟨_, rfl⟩
  have h19 : h1 c 9 = bb := by
    rw [eh1]
    by_cases z : s ≤ 3
    · rw [if_pos z, up_eq]
    · rw [if_neg z, ebb, if_neg (by omega), if_neg (by omega), up_pl _ (by omega)]
  have h1k : ∀ k : Int, k ≠ 9 → k ≠ 10 → h1 c k = h c k := fun k e1 e2 => by
    rw [eh1]
    by_cases z : s ≤ 3
    · rw [if_pos z, up_pl _ e1, up_pl _ e2]
    · rw [if_neg z, up_pl _ e2]
  have h110 : h1 c 10 = 0 := by
    rw [eh1]
    by_cases z : s ≤ 3
    · rw [if_pos z, up_pl _ (by omega), up_eq]
    · rw [if_neg z, up_eq]
  have h1a : ∀ a, a ≠ c → h1 a = h a := fun a e => by
    rw [eh1]
    by_cases z : s ≤ 3
    · rw [if_pos z, up_cell _ e, up_cell _ e]
    · rw [if_neg z, up_cell _ e]
  have q1' : CS c h1 P (U ++ T) := by
    obtain ⟨y1, y2, y3, y4⟩ := q1
    exact ⟨by rw [h1a _ (by omega)]; exact y1, by rw [h1k 6 (by omega) (by omega)]; exact y2, by rw [h1a _ (by omega)]; exact y3, by rw [h1k 7 (by omega) (by omega)]; exact y4⟩
  obtain ⟨p0, p1, p2, p3⟩ := CS_pw (s := s) (U ++ T) P _ q1' (by rw [List.length_append]; omega) (UT_rng q3 q4)
  rw [pw_un (by omega) U T P q3] at p1
  have q8' : ((ev sn (auP U P)).length : Int) = nb T + 1 := by rw [q8, if_neg (by omega)]
  obtain ⟨w1, w2, w3, w4, w5, w6, w7, w8, w9, w10, w11⟩ := pw_rd (sn := sn) (s := s) (by omega) T (auP U P) q4 q5 (q7 c2) q8'
  obtain ⟨P1, eP1⟩ : ∃ q, q = (pw s T (auP U P)).1 := ⟨_, rfl⟩
  obtain ⟨T1, eT1⟩ : ∃ q, q = (pw s T (auP U P)).2 := ⟨_, rfl⟩
  rw [← eP1] at p1 w2 w5 w8 w10
  rw [← eT1] at p1 w1 w3 w4 w5 w6 w7 w8 w9 w11
  obtain ⟨m0, m1, m2, m3⟩ := MS_red (s := s) (by omega) T _ g q2 q4 q8' (by omega) (by omega)
  rw [← w1, ← w2] at m1
  obtain ⟨x0, x1, x2, x3⟩ := CS_await (x := ch) p1 (by omega)
  -- the model's heap
  obtain ⟨cv, ecv⟩ : ∃ cv : Int, cv = if s = 3 then 1 else if 3 < s ∧ ¬ g 257 op = 0 then 1 else 0 := ⟨_, rfl⟩
  obtain ⟨g1, eg1⟩ : ∃ q, q = pm_upd (H_X12_reduce s g) 257 op cv := ⟨_, rfl⟩
  have g1a : ∀ a, a ≠ 248 → a ≠ 255 → a ≠ 257 → g1 a = g a := fun a e1 e2 e3 => by rw [eg1, up_cell _ e3, m2 a e1 e2]
  have g1k : ∀ k : Int, k ≠ 8 → k ≠ 9 → g1 248 k = g 248 k := fun k e1 e2 => by rw [eg1, up_cell _ (by omega), m3 k e1 e2]
  have m1' : MS g1 (ev sn P1) T1 := by rw [eg1]; exact MS_fld 257 op cv (by omega) (by omega) (fun z => by omega) m1
  have hel1 := ev_len sn P1
  have m19 := m1'.2.2.2
  have mr9 : H_X12_reduce s g 248 9 = g1 248 9 := by rw [eg1, up_cell _ (by omega)]
  have estr : F_X12_strength ch (fun _ _ => 0) = s := by rw [hb.2.2]
  refine Or.inl ⟨pm_upd (H_X9_await c ch (H_X9_putWaiting c s h1)) c 12 1, pm_upd (pm_upd g1 256 (g1 248 9) (md ch)) 248 9 (g1 248 9 + 1), op, 1, k + 1, ?_, ?_, by omega, by omega, ?_, ?_, ?_, ?_, ?_, ?_, P1, [], ch :: T1, CS_fld _ _ (by omega) (by omega) x1, MS_sign ch m1', fun x hx => absurd hx List.not_mem_nil, ?_, ⟨fun _ => w4, w3⟩, fun _ => rfl, fun z => by omega, ?_, ?_, ?_, ?_⟩
  · have e9 : (pm_upd h c 10 0) c 9 = h c 9 := up_pl _ (by omega)
    have e8 : (pm_upd h c 10 0) c 8 = op := by rw [up_pl _ (by omega)]; exact r4.2.2.1
    have eU : H_X9_readJoin c k ch (pm_upd h c 10 0) = pm_upd (H_X9_await c ch (H_X9_putWaiting c s h1)) c 12 1 := by
      unfold H_X9_readJoin s_X9_readJoin_1 s_X9_readJoin_4 s_X9_readJoin_3 s_X9_readJoin_2
      rw [bd_h, b33, b61, e8, e9, ← es, if_neg (by omega), if_neg (by omega)]
      by_cases z3 : s = 3
      · have := (r5.2.2 op r4.1 (Int.le_refl _))
        have bz : pm_and (h c 9) (pm_shl 1 op) = 0 := Classical.byContradiction (fun w => (this.mp w) (c5 z3))
        rw [if_pos z3, if_pos bz, eh1, if_pos (by omega), ebb, if_pos z3]
      · rw [if_neg z3]
        by_cases z4 : 3 ≤ s
        · rw [if_pos z4, eh1, if_neg (by omega)]
        · rw [if_neg z4, eh1, if_pos (by omega), ebb, if_neg z3, if_pos (by omega)]
    have pU : P_X9_readJoin c k ch (pm_upd h c 10 0) := by
      unfold P_X9_readJoin s_X9_readJoin_1 s_X9_readJoin_4 s_X9_readJoin_3 s_X9_readJoin_2
      rw [bd_h, b33, b61, e8, e9, ← es]
      refine ⟨fun z => by omega, fun _ => ⟨fun z => by omega, fun _ => ⟨fun z3 => ?_, fun z3 => ?_⟩⟩⟩
      · have := (r5.2.2 op r4.1 (Int.le_refl _))
        have bz : pm_and (h c 9) (pm_shl 1 op) = 0 := Classical.byContradiction (fun w => (this.mp w) (c5 z3))
        have eh : pm_upd (pm_upd h c 10 0) c 9 (pm_or (h c 9) (pm_shl 1 op)) = h1 := by rw [eh1, if_pos (by omega), ebb, if_pos z3]
        rw [eh]
        exact ⟨fun _ => ⟨p0, x0⟩, fun w => absurd bz w⟩
      · by_cases z4 : 3 ≤ s
        · rw [if_pos z4]
          have eh : pm_upd h c 10 0 = h1 := by rw [eh1, if_neg (by omega)]
          rw [eh]; exact ⟨p0, x0⟩
        · rw [if_neg z4]
          have eh : pm_upd (pm_upd h c 10 0) c 9 (pm_and (h c 9) (pm_xor (pm_shl 1 op) (-1))) = h1 := by rw [eh1, if_pos (by omega), ebb, if_neg z3, if_pos (by omega)]
          rw [eh]; exact ⟨p0, x0⟩
    have := cl1 (c := c) (k := k) (h := h) (by rw [r1.2.1]; exact kn) r2 (by omega) (A.2 (by omega) pU)
    rw [A.1, eU] at this
    exact this
  · have e3 : (H_X12_reduce s g) 257 op = g 257 op := by rw [m2 257 (by omega) (by omega)]
    have s3' : s = 3 → s_X12_workRules_2 op k g = g1 := fun z3 => by
      unfold s_X12_workRules_2
      rw [em, sd_h, estr, eg1, ecv, if_pos z3]
    have s5' : ¬ s = 3 → s_X12_workRules_5 op k g = g1 := fun z3 => by
      unfold s_X12_workRules_5
      rw [em, sd_h, estr, e3, eg1, ecv, if_neg z3]
    have u9 : ∀ v, (pm_upd g1 256 (g1 248 9) v) 248 9 = g1 248 9 := fun v => by rw [up_cell _ (by omega)]
    refine ml1 kn r3 ?_ ?_ ?_ ?_ ?_
    · unfold P_X12_workRules_24 P_X12_at
      rw [em, sd_h, estr]
      refine fun _ => ⟨by unfold fx_i; omega, ⟨by omega, by unfold fx_i; omega⟩, by unfold fx_i; omega, fun _ => ⟨fun _ => ⟨fun z => absurd z n41.1, fun _ => ⟨fun z => by omega, fun _ => ⟨fun z3 => ⟨by omega, fun _ => ⟨m0, ?_, ?_⟩, fun w => absurd (c5 z3) w⟩, fun z3 => ⟨m0, fun _ => by omega, by omega, ?_, ?_⟩⟩⟩⟩, fun z => absurd c2 z⟩⟩
      · rw [s3' z3]; omega
      · unfold s_X12_workRules_3
        rw [s3' z3, u9]; unfold fx_i; omega
      · rw [s5' z3]; omega
      · unfold s_X12_workRules_6
        rw [s5' z3, u9]; unfold fx_i; omega
    · unfold s_X12_workRules_24; rw [em, if_neg n41.2.1, if_pos c2, if_neg n41.1]
    · unfold s_X12_workRules_25; rw [em, if_neg n41.2.1, if_pos c2, if_neg n41.1, sd_h, estr, if_neg (by omega)]
      by_cases z3 : s = 3
      · rw [if_pos z3, if_pos (c5 z3)]
      · rw [if_neg z3]
    · unfold s_X12_workRules_26; rw [em, if_neg n41.2.1, if_pos c2]
    · unfold s_X12_workRules_23; rw [em, if_neg n41.2.1, if_pos c2, if_neg n41.1, sd_h, estr, if_neg (by omega)]
      by_cases z3 : s = 3
      · rw [if_pos z3, if_pos (c5 z3)]
        unfold s_X12_workRules_4 s_X12_workRules_3
        rw [s3' z3, em, u9, (md_op c3).1]
      · rw [if_neg z3]
        unfold s_X12_workRules_7 s_X12_workRules_6
        rw [s5' z3, em, u9, (md_op c3).1]
  · refine FR_M (FR_X r1 (fun a e1 e2 e3 => ?_) ?_) (fun a e1 e2 e3 e4 => ?_) (fun k e1 e2 e3 e4 => ?_)
    · rw [up_cell _ e1, x2 a e1 e3, p2 a e1 e2, h1a a e1]
    · rw [up_pl _ (by omega), x3 4 (by omega), p3 4 (by omega) (by omega), h1k 4 (by omega) (by omega)]
    · rw [up_cell _ e1, up_cell _ e3, g1a a e1 e2 e4]
    · rw [up_pl _ e2, up_cell _ (by omega), g1k k e1 e2]
  · rw [up_pl _ (by omega), x3 5 (by omega), p3 5 (by omega) (by omega), h1k 5 (by omega) (by omega)]; exact r2
  · rw [up_pl _ (by omega), up_cell _ (by omega), g1k 12 (by omega) (by omega)]; exact r3
  · refine ⟨r4.1, r4.2.1, ?_, up_eq _ _ _ _, Or.inr rfl⟩
    rw [up_pl _ (by omega), x3 8 (by omega), p3 8 (by omega) (by omega), h1k 8 (by omega) (by omega)]; exact r4.2.2.1
  · unfold CB
    rw [up_pl _ (by omega), x3 9 (by omega), p3 9 (by omega) (by omega), h19, up_cell _ (by omega), up_cell _ (by omega)]
    obtain ⟨b1, b2, b3⟩ := r5
    have BO := bits_or (b := h c 9) (d := op) ⟨b1, b2⟩ ⟨r4.1, r4.2.1⟩
    have BA := bits_and (b := h c 9) (d := op) ⟨b1, b2⟩ ⟨r4.1, r4.2.1⟩
    have gj : ∀ j : Int, j ≠ op → g1 257 j = g 257 j := fun j e => by rw [eg1, up_pl _ e, m2 257 (by omega) (by omega)]
    have go : g1 257 op = cv := by rw [eg1, up_eq]
    by_cases z3 : s = 3
    · rw [ebb, if_pos z3]
      refine ⟨BO.1.1, BO.1.2, fun j j1 j2 => ?_⟩
      rw [BO.2 j j1 (by omega)]
      by_cases z : j = op
      · rw [z, go, ecv, if_pos z3]
        exact ⟨fun _ => by omega, fun _ => Or.inl rfl⟩
      · rw [gj j z, ← b3 j j1 j2]
        exact ⟨fun w => w.elim (fun y => absurd y z) (fun y => y), fun w => Or.inr w⟩
    · by_cases z4 : s < 3
      · rw [ebb, if_neg z3, if_pos z4]
        refine ⟨BA.1.1, BA.1.2, fun j j1 j2 => ?_⟩
        rw [BA.2 j j1 (by omega)]
        by_cases z : j = op
        · rw [z, go, ecv, if_neg z3, if_neg (fun w => by omega)]
          exact ⟨fun w => absurd rfl w.1, fun w => absurd rfl w⟩
        · rw [gj j z, ← b3 j j1 j2]
          exact ⟨fun w => w.2, fun w => ⟨z, w⟩⟩
      · rw [ebb, if_neg z3, if_neg z4]
        refine ⟨b1, b2, fun j j1 j2 => ?_⟩
        by_cases z : j = op
        · rw [z, b3 op r4.1 (Int.le_refl _), go, ecv, if_neg z3]
          by_cases y : g 257 op = 0
          · rw [if_neg (fun w => w.2 y)]
            exact ⟨fun w => absurd y w, fun w => absurd rfl w⟩
          · rw [if_pos ⟨by omega, y⟩]
            exact ⟨fun _ => by omega, fun _ => y⟩
        · rw [gj j z]; exact b3 j j1 j2
  · intro _ _ _
    rw [up_pl _ (by omega), x3 10 (by omega), p3 10 (by omega) (by omega)]; exact h110
  · intro x hx
    rcases List.mem_cons.mp hx with w | w
    · rw [w]; exact Or.inr (Or.inr c3)
    · exact w7 x w
  · show ((ev sn P1).length : Int) = _
    rw [nb_op c3, if_pos rfl, w5]; omega
  · rw [o4_op c3, w6]; exact q9
  · simp only [List.length_cons, List.length_nil]; omega
  · intro x hx
    rcases w10 x hx with y | y
    · rcases auP_mem U P x y with y | y
      · exact q11 x y
      · have := tok_rng (Or.inl (q3 _ y)); omega
    · have := tok_rng (q4 _ y); omega
end CH2
