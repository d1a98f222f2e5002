/-! Numbers, and the whole text. -/
noncomputable def lim : Nat → Int
  | 0 => 1
  | j + 1 => 10 * lim j
theorem lim_le {j : Nat} (h : j ≤ 6) : lim j ≤ 1000000 := by
  rcases j with _ | _ | _ | _ | _ | _ | _ | j
  · decide
  · decide
  · decide
  · decide
  · decide
  · decide
  · decide
  · omega
section NUM
variable {c : Int} {tx : Int → Int} {n op k : Int} {g : pH}
noncomputable def dig (x : Int) : Prop := 48 ≤ x ∧ x ≤ 57
theorem num_p {p v : Int} (k0 : 0 ≤ k) (n60 : n ≤ 60) (hp : k ≤ p) (hv : p - k < 6 → 0 ≤ v ∧ v ≤ 1000000) (hx : p < n → g 249 (376 + p) = tx p) : P_X12_workRules_54 n op k g p v := by
  unfold P_X12_workRules_54
  refine ⟨fun _ => ⟨by unfold fx_i; omega, by omega⟩, fun z => ⟨by unfold fx_i; omega, by omega, by unfold fx_i; omega, fun z6 => ?_, by unfold fx_i; omega⟩⟩
  have := hv z6
  have z2 := z.2
  unfold fx_l
  omega
theorem num_st {p v : Int} (hP : P_X12_workRules_54 n op k g p v) (x : ¬ (p < n ∧ (48 ≤ g 249 (376 + p) ∧ g 249 (376 + p) ≤ 57))) : O_X12_workRules_54 n op k g p v ∧ L_X12_workRules_54 n op k g p v = (p, v) :=
  fx_un_f (σ := Int × Int) (c := fun s => C_X12_workRules_54 n op k g s.1 s.2) (f := fun s => B_X12_workRules_54 n op k g s.1 s.2) (P := fun s => P_X12_workRules_54 n op k g s.1 s.2) (s := (p, v)) hP x
theorem num_go {p v v' : Int} (hP : P_X12_workRules_54 n op k g p v) (x : p < n ∧ (48 ≤ g 249 (376 + p) ∧ g 249 (376 + p) ≤ 57)) (e : s_X12_workRules_11 k p v g = v') (o : O_X12_workRules_54 n op k g (p + 1) v') : O_X12_workRules_54 n op k g p v ∧ L_X12_workRules_54 n op k g p v = L_X12_workRules_54 n op k g (p + 1) v' := by
  subst e
  exact fx_un_t (σ := Int × Int) (c := fun s => C_X12_workRules_54 n op k g s.1 s.2) (f := fun s => B_X12_workRules_54 n op k g s.1 s.2) (P := fun s => P_X12_workRules_54 n op k g s.1 s.2) (s := (p, v)) hP x o
/-- the model reads on, beyond six digits -/
theorem num2 (k0 : 0 ≤ k) (n60 : n ≤ 60) (hM : ∀ q : Int, 0 ≤ q → q < n → g 249 (376 + q) = tx q) : ∀ (m : Nat) (p v : Int), n - p = m → k + 6 ≤ p →
    O_X12_workRules_54 n op k g p v ∧ p ≤ (L_X12_workRules_54 n op k g p v).1 ∧ (L_X12_workRules_54 n op k g p v).1 ≤ n
  | m, p, v, hm, hp => by
    have hP : P_X12_workRules_54 n op k g p v := num_p (tx := tx) k0 n60 (by omega) (fun z => by omega) (fun z => hM p (by omega) z)
    by_cases x : p < n ∧ (48 ≤ g 249 (376 + p) ∧ g 249 (376 + p) ≤ 57)
    · obtain ⟨m', em⟩ : ∃ m', m = m' + 1 := ⟨m - 1, by omega⟩
      subst em
      have ih := num2 k0 n60 hM m' (p + 1) v (by omega) (by omega)
      have G := num_go (v' := v) hP x (by unfold s_X12_workRules_11; rw [if_pos (by omega)]) ih.1
      rw [G.2]
      exact ⟨G.1, by omega, ih.2.2⟩
    · have G := num_st hP x
      rw [G.2]
      exact ⟨G.1, Int.le_refl _, by show p ≤ n; omega⟩
noncomputable def NI (c k : Int) (hA h : pH) (P T : List Int) (v p : Int) : Prop := CS c h (v :: P) T ∧ h c 10 = p - k ∧ h c 11 = k ∧ h c 12 = 0 ∧ (∀ a, a ≠ c → a ≠ c + 2 → h a = hA a) ∧ (∀ j : Int, j ≠ 6 → j ≠ 10 → j ≠ 11 → j ≠ 12 → h c j = hA c j)
theorem num1 {hA : pH} {P T : List Int} (k0 : 0 ≤ k) (n60 : n ≤ 60) (hM : ∀ q : Int, 0 ≤ q → q < n → g 249 (376 + q) = tx q) (hX : ∀ q : Int, 0 ≤ q → q < n → hA (c + 1) q = tx q) (h4 : hA c 4 = n) (h5 : hA c 5 = -1) (hl : P.length < 60) : ∀ (m : Nat) (p v : Int) (h : pH) (j : Nat), n - p = m → p - k = j → 1 ≤ j → j ≤ 6 → NI c k hA h P T v p → 0 ≤ v → v < lim j →
    O_X12_workRules_54 n op k g p v ∧ p ≤ (L_X12_workRules_54 n op k g p v).1 ∧ (L_X12_workRules_54 n op k g p v).1 ≤ n ∧
    (((L_X12_workRules_54 n op k g p v).1 - k ≤ 6 ∧ ∃ h', CL c p h (L_X12_workRules_54 n op k g p v).1 h' ∧ NI c k hA h' P T (L_X12_workRules_54 n op k g p v).2 (L_X12_workRules_54 n op k g p v).1 ∧ 0 ≤ (L_X12_workRules_54 n op k g p v).2 ∧ ((L_X12_workRules_54 n op k g p v).1 < n → ¬ (48 ≤ tx (L_X12_workRules_54 n op k g p v).1 ∧ tx (L_X12_workRules_54 n op k g p v).1 ≤ 57))) ∨
     (6 < (L_X12_workRules_54 n op k g p v).1 - k ∧ ∃ h' v', CL c p h (k + 7) (pm_upd h' c 5 (10 * k + 2)) ∧ NI c k hA h' P T v' (k + 6)))
  | m, p, v, h, j, hm, hj, j1, j6, q, v0, vl => by
    have hlim := lim_le j6
    have q0 := q
    obtain ⟨q1, q2, q3, q4, q5, q6⟩ := q
    have hP : P_X12_workRules_54 n op k g p v := num_p (tx := tx) k0 n60 (by omega) (fun z => by omega) (fun z => hM p (by omega) z)
    by_cases x : p < n ∧ (48 ≤ g 249 (376 + p) ∧ g 249 (376 + p) ≤ 57)
    · have eg := hM p (by omega) x.1
      have ex : h (c + 1) p = tx p := by rw [q5 _ (by omega) (by omega)]; exact hX p (by omega) x.1
      rw [eg] at x
      have A := rAt_digit ex x.2
      have i4 : h c 4 = n := by rw [q6 4 (by omega) (by omega) (by omega) (by omega)]; exact h4
      have i5 : h c 5 = -1 := by rw [q6 5 (by omega) (by omega) (by omega) (by omega)]; exact h5
      by_cases z6 : j = 6
      · -- the seventh digit
        have ih := num2 (op := op) k0 n60 hM (m - 1) (p + 1) v (by omega) (by omega)
        have G := num_go (v' := v) hP (by rw [eg]; exact x) (by unfold s_X12_workRules_11; rw [if_pos (by omega)]) ih.1
        rw [G.2]
        refine ⟨G.1, by omega, ih.2.2, Or.inr ⟨by omega, h, v, ?_, ?_⟩⟩
        · have eD : H_X9_readDigit c p (tx p - 48) h = pm_upd h c 5 (10 * k + 2) := by
            unfold H_X9_readDigit s_X9_readDigit_2
            rw [if_neg (by omega), if_pos (by omega), q3]
            rfl
          have pD : P_X9_readDigit c p (tx p - 48) h := by
            unfold P_X9_readDigit P_X9_refuse
            rw [q3]
            exact ⟨fun z => by omega, fun _ => ⟨fun _ => ⟨by unfold fx_i; omega, by unfold fx_i; omega⟩, fun z => by omega⟩⟩
          have := cl1 (c := c) (k := p) (h := h) (by rw [i4]; exact x.1) i5 (by omega) (A.2 (by omega) pD)
          rw [A.1, eD, show p + 1 = k + 7 by omega] at this
          exact this
        · rw [show k + 6 = p by omega]; exact q0
      · -- one digit more
        obtain ⟨y1, y2, y3, y4⟩ := q1
        simp only [List.length_cons] at y2
        have es : h (c + 2) (P.length : Int) = v := y1.1
        obtain ⟨h1, eh1⟩ : ∃ q, q = pm_upd (pm_upd h c 10 (h c 10 + 1)) (c + 2) (P.length : Int) (v * 10 + (tx p - 48)) := ⟨_, rfl⟩
        have NI1 : NI c k hA h1 P T (10 * v + tx p - 48) (p + 1) := by
          refine ⟨⟨?_, ?_, ?_, ?_⟩, ?_, ?_, ?_, ?_, ?_⟩
          · rw [eh1, show v * 10 + (tx p - 48) = 10 * v + tx p - 48 by omega]
            exact stk_push _ _ rfl (by rw [up_cell _ (by omega)]; exact y1.2)
          · rw [eh1, up_cell _ (by omega), up_pl _ (by omega), y2]; simp only [List.length_cons]
          · rw [eh1, up_cell _ (by omega), up_cell _ (by omega)]; exact y3
          · rw [eh1, up_cell _ (by omega), up_pl _ (by omega)]; exact y4
          · rw [eh1, up_cell _ (by omega), up_eq]; omega
          · rw [eh1, up_cell _ (by omega), up_pl _ (by omega)]; exact q3
          · rw [eh1, up_cell _ (by omega), up_pl _ (by omega)]; exact q4
          · intro a e1 e2; rw [eh1, up_cell _ e2, up_cell _ e1]; exact q5 a e1 e2
          · intro a e1 e2 e3 e4; rw [eh1, up_cell _ (by omega), up_pl _ e2]; exact q6 a e1 e2 e3 e4
        have hs : lim (j + 1) = 10 * lim j := rfl
        have ih := num1 k0 n60 hM hX h4 h5 hl (m - 1) (p + 1) (10 * v + tx p - 48) h1 (j + 1) (by omega) (by omega) (by omega) (by omega) NI1 (by omega) (by omega)
        have G := num_go (v' := 10 * v + tx p - 48) hP (by rw [eg]; exact x) (by unfold s_X12_workRules_11; rw [if_neg (by omega), eg]) ih.1
        rw [G.2]
        have eD : H_X9_readDigit c p (tx p - 48) h = h1 := by
          unfold H_X9_readDigit s_X9_readDigit_2 s_X9_readDigit_1
          rw [if_neg (by omega), if_neg (by omega), if_neg (by omega), up_pl _ (show (6 : Int) ≠ 10 by omega), up_cell h (show c + 2 ≠ c by omega), show h c 6 - 1 = (P.length : Int) by omega, es, eh1]
        have pD : P_X9_readDigit c p (tx p - 48) h := by
          unfold P_X9_readDigit
          rw [up_pl _ (show (6 : Int) ≠ 10 by omega), up_cell h (show c + 2 ≠ c by omega), show h c 6 - 1 = (P.length : Int) by omega, es]
          exact ⟨fun z => by omega, fun _ => ⟨fun z => by omega, fun _ _ => ⟨by unfold fx_i; omega, by unfold fx_i; omega, by omega, by unfold fx_i; omega, by unfold fx_i; omega⟩⟩⟩
        have st := cl1 (c := c) (k := p) (h := h) (by rw [i4]; exact x.1) i5 (by omega) (A.2 (by omega) pD)
        rw [A.1, eD] at st
        refine ⟨G.1, by omega, ih.2.2.1, ?_⟩
        rcases ih.2.2.2 with ⟨w1, h', w2, w3⟩ | ⟨w1, h', v', w2, w3⟩
        · exact Or.inl ⟨w1, h', st.tr w2, w3⟩
        · exact Or.inr ⟨w1, h', v', st.tr w2, w3⟩
    · have G := num_st hP x
      rw [G.2]
      refine ⟨G.1, Int.le_refl _, by show p ≤ n; omega, Or.inl ⟨by show p - k ≤ 6; omega, h, CL.refl c p h, q0, v0, fun z => ?_⟩⟩
      rw [← hM p (by omega) z]
      exact fun w => x ⟨z, w⟩
end NUM
section CH3
variable {sn : Int → Int} {c : Int} {tx : Int → Int} {n : Int} {h0 g0 h g : pH} {op nd k : Int}
theorem o_num (t : TX c tx n h0 g0) (r : RR sn c tx n h0 g0 h g op nd k) (k0 : 0 ≤ k) (kn : k < n) (c2 : nd = 1) (c3 : 48 ≤ tx k ∧ tx k ≤ 57) : OUT sn c tx n h0 g0 h g op nd k := by
  obtain ⟨t1, t2, t3, t4⟩ := id t
  obtain ⟨r1, r2, r3, r4, r5, r6, P, U, T, q1, q2, q3, q4, q5, q6, q7, q8, q9, q10, q11⟩ := r
  have ex := at_X t r1 k0 kn
  have em := at_M t r1 k0 kn
  have A := rAt_digit ex c3
  have eU0 := q6 c2
  subst eU0
  simp only [List.nil_append, List.length_nil] at q1 q10
  rw [if_pos c2, show auP [] P = P from rfl] at q8
  rw [show auP [] P = P from rfl] at q2
  have h10 := r6 kn c3.1 c3.2
  obtain ⟨hA, ehA⟩ : ∃ q, q = pm_upd (pm_upd h c 11 k) c 10 1 := ⟨_, rfl⟩
  have q1' : CS c hA P T := by rw [ehA]; exact CS_fld _ _ (by omega) (by omega) (CS_fld _ _ (by omega) (by omega) q1)
  obtain ⟨p0, p1, p2, p3⟩ := CS_put (x := tx k - 48) q1' (by omega)
  have hAk : ∀ j : Int, j ≠ 10 → j ≠ 11 → hA c j = h c j := fun j e1 e2 => by rw [ehA, up_pl _ e1, up_pl _ e2]
  have hAa : ∀ a, a ≠ c → hA a = h a := fun a e => by rw [ehA, up_cell _ e, up_cell _ e]
  obtain ⟨h1, eh1⟩ : ∃ q, q = pm_upd (H_X9_put c (tx k - 48) hA) c 12 0 := ⟨_, rfl⟩
  have NI1 : NI c k hA h1 P T (tx k - 48) (k + 1) := by
    rw [eh1]
    refine ⟨CS_fld _ _ (by omega) (by omega) p1, ?_, ?_, up_eq _ _ _ _, ?_, ?_⟩
    · rw [up_pl _ (by omega), p3 10 (by omega), ehA, up_eq]; omega
    · rw [up_pl _ (by omega), p3 11 (by omega), ehA, up_pl _ (by omega), up_eq]
    · intro a e1 e2; rw [up_cell _ e1, p2 a e1 e2]
    · intro j e1 e2 e3 e4; rw [up_pl _ e4, p3 j e1]
  have hM : ∀ q : Int, 0 ≤ q → q < n → g 249 (376 + q) = tx q := fun q e1 e2 => at_M t r1 e1 e2
  have hX : ∀ q : Int, 0 ≤ q → q < n → hA (c + 1) q = tx q := fun q e1 e2 => by rw [hAa _ (by omega)]; exact at_X t r1 e1 e2
  have N := num1 (c := c) (op := op) (k := k) (hA := hA) (P := P) (T := T) k0 t1.2 hM hX (by rw [hAk 4 (by omega) (by omega)]; exact r1.2.1) (by rw [hAk 5 (by omega) (by omega)]; exact r2) (by omega) (n - (k + 1)).toNat (k + 1) (tx k - 48) h1 1 (by omega) (by omega) (by omega) (by omega) NI1 (by omega) (by show tx k - 48 < 10 * 1; omega)
  have hP0 : P_X12_workRules_54 n op k g k 0 := num_p (tx := tx) k0 t1.2 (by omega) (fun _ => by omega) (fun z => hM k k0 z)
  have G := num_go (v' := tx k - 48) hP0 (by rw [em]; exact ⟨kn, c3⟩) (by unfold s_X12_workRules_11; rw [if_neg (by omega), em]; omega) N.1
  have st : CL c k h (k + 1) h1 := by
    have eD : H_X9_readDigit c k (tx k - 48) h = h1 := by
      unfold H_X9_readDigit s_X9_readDigit_2 H_X9_putUnit
      rw [if_pos h10, if_neg (by omega), ← ehA, eh1]
    have pD : P_X9_readDigit c k (tx k - 48) h := by
      unfold P_X9_readDigit P_X9_putUnit
      rw [← ehA]
      exact ⟨fun _ => ⟨fun z => by omega, fun _ => p0⟩, fun z => absurd h10 z⟩
    have := cl1 (c := c) (k := k) (h := h) (by rw [r1.2.1]; exact kn) r2 (by omega) (A.2 (by omega) pD)
    rw [A.1, eD] at this
    exact this
  obtain ⟨ee, eee⟩ : ∃ q, q = (L_X12_workRules_54 n op k g (k + 1) (tx k - 48)).1 := ⟨_, rfl⟩
  obtain ⟨vv, evv⟩ : ∃ q, q = (L_X12_workRules_54 n op k g (k + 1) (tx k - 48)).2 := ⟨_, rfl⟩
  rw [← eee, ← evv] at N
  have s12 : s_X12_workRules_12 n op k g = ee := by unfold s_X12_workRules_12; rw [G.2, eee]
  have s13 : s_X12_workRules_13 n op k g = vv := by unfold s_X12_workRules_13; rw [G.2, evv]
  obtain ⟨wr, ewr⟩ : ∃ q, q = s_X12_workRules_14 n op k g := ⟨_, rfl⟩
  obtain ⟨N1, N2, N3, N4⟩ := N
  obtain ⟨g1, eg1⟩ : ∃ q, q = pm_upd g 248 12 wr := ⟨_, rfl⟩
  have q2' : MS g1 (ev sn P) T := by rw [eg1]; exact MS_fld 248 12 wr (by omega) (by omega) (fun z => by omega) q2
  have n32 : tx k ≠ 32 := by omega
  have hel := ev_len sn P
  have M : P_X12_put vv g1 → ML n op nd k g op 0 ee (H_X12_put vv g1) := fun u1 => by
    refine ml1 kn r3 ?_ ?_ ?_ ?_ ?_
    · unfold P_X12_workRules_24 P_X12_at
      rw [em, s12, s13, ← ewr, ← eg1]
      exact fun _ => ⟨by unfold fx_i; omega, ⟨by omega, by unfold fx_i; omega⟩, by unfold fx_i; omega, fun _ => ⟨fun z => by omega, fun _ => ⟨fun _ => ⟨G.1, by unfold fx_i; omega, fun _ => ⟨by unfold fx_i; omega, by unfold fx_i; omega⟩, u1⟩, fun z => absurd c3 z⟩⟩⟩
    · unfold s_X12_workRules_24; rw [em, if_neg n32, if_neg (by omega), if_pos c3]
    · unfold s_X12_workRules_25; rw [em, if_neg n32, if_neg (by omega), if_pos c3]
    · unfold s_X12_workRules_26; rw [em, if_neg n32, if_neg (by omega), if_pos c3, s12]
    · unfold s_X12_workRules_23 s_X12_workRules_15; rw [em, if_neg n32, if_neg (by omega), if_pos c3, s13, ← ewr, ← eg1]
  have g1a : ∀ a, a ≠ 248 → g1 a = g a := fun a e => by rw [eg1, up_cell _ e]
  have g1k : ∀ k : Int, k ≠ 12 → g1 248 k = g 248 k := fun k e => by rw [eg1, up_pl _ e]
  rcases N4 with ⟨w1, h', w2, ⟨y1, y2, y3, y4, y5, y6⟩, w4, w5⟩ | ⟨w1, h', v', w2, ⟨y1, y2, y3, y4, y5, y6⟩⟩
  · -- a number of six digits at most
    have ewr1 : wr = -1 := by rw [ewr]; unfold s_X12_workRules_14; rw [s12, if_pos w1]
    have hvv : ev sn (vv :: P) = vv :: ev sn P := by
      show aps sn vv (ev sn P) = _
      unfold aps
      rw [if_pos (by omega), if_neg (by omega)]
    obtain ⟨u1, u2, u3, u4⟩ := RL_unit (sn := sn) (c := c) (h := h') (g := g1) (op := op) (k := k) (k' := ee) (x := vv) (v := vv) (P := P) (T := T) (by omega) (by omega) (by omega) (by omega) y1 q2' q4 q5 (by omega) q9 q11 hvv
    refine Or.inl ⟨h', H_X12_put vv g1, op, 0, ee, st.tr w2, M u1, by omega, N3, ?_, ?_, ?_, ?_, ?_, ?_, u2⟩
    · refine FR_M (FR_X r1 (fun a e1 e2 e3 => ?_) ?_) (fun a e1 e2 e3 e4 => ?_) (fun k e1 e2 e3 e4 => ?_)
      · rw [y5 a e1 e2, hAa a e1]
      · rw [y6 4 (by omega) (by omega) (by omega) (by omega), hAk 4 (by omega) (by omega)]
      · rw [u3 a e1 e2, g1a a e1]
      · rw [u4 k e1 e2, g1k k e4]
    · rw [y6 5 (by omega) (by omega) (by omega) (by omega), hAk 5 (by omega) (by omega)]; exact r2
    · rw [u4 12 (by omega) (by omega), eg1, up_eq]; exact ewr1
    · refine ⟨r4.1, r4.2.1, ?_, y4, Or.inl rfl⟩
      rw [y6 8 (by omega) (by omega) (by omega) (by omega), hAk 8 (by omega) (by omega)]; exact r4.2.2.1
    · unfold CB
      rw [y6 9 (by omega) (by omega) (by omega) (by omega), hAk 9 (by omega) (by omega), u3 257 (by omega) (by omega), g1a 257 (by omega)]; exact r5
    · exact fun z z1 z2 => absurd ⟨z1, z2⟩ (w5 z)
  · -- too many digits
    have ewr1 : wr = 10 * k + 2 := by rw [ewr]; unfold s_X12_workRules_14; rw [s12, if_neg (by omega)]
    obtain ⟨u1, u3, u4, -⟩ := MS_put (sn := sn) (v := vv) q2' q4 (by omega) (by omega)
    refine Or.inr ⟨pm_upd h' c 5 (10 * k + 2), H_X12_put vv g1, op, 0, ee, k + 7, st.tr w2, M u1, ?_, ?_, ?_, v' :: P, T, CS_fld _ _ (by omega) (by omega) y1, ?_, ?_⟩
    · refine FR_M (FR_X r1 (fun a e1 e2 e3 => ?_) ?_) (fun a e1 e2 e3 e4 => ?_) (fun k e1 e2 e3 e4 => ?_)
      · rw [up_cell _ e1, y5 a e1 e2, hAa a e1]
      · rw [up_pl _ (by omega), y6 4 (by omega) (by omega) (by omega) (by omega), hAk 4 (by omega) (by omega)]
      · rw [u3 a e1 e2, g1a a e1]
      · rw [u4 k e1 e2, g1k k e4]
    · rw [up_eq]; omega
    · rw [up_eq, u4 12 (by omega) (by omega), eg1, up_eq]; exact ewr1.symm
    · simp only [List.length_cons]; omega
    · intro x hx
      have := tok_rng (q4 x hx)
      omega
/-- each character -/
theorem o_any (t : TX c tx n h0 g0) (hN : ∀ g, g 249 = g0 249 → ∀ ch, 0 ≤ pm_ix ch → P_X12_named ch g ∧ F_X12_named ch g = sn (pm_ix ch)) (r : RR sn c tx n h0 g0 h g op nd k) (k0 : 0 ≤ k) (kn : k < n) : OUT sn c tx n h0 g0 h g op nd k := by
  have hop : 0 ≤ op ∧ op ≤ 8 ∧ (nd = 0 ∨ nd = 1) := ⟨r.2.2.2.1.1, r.2.2.2.1.2.1, r.2.2.2.1.2.2.2.2⟩
  by_cases c1 : tx k = 32
  · exact o_blank t r k0 kn c1
  · rcases hop.2.2 with c2 | c2
    · by_cases c3 : tx k = 41
      · by_cases c5 : 0 < op
        · exact o_close t r k0 kn c2 c3 c5
        · refine o_nojoin t r k0 kn c1 c2 (fun _ => by omega) (Or.inl (fun w => ?_))
          rw [c3] at w
          unfold opr at w
          omega
      · by_cases c4 : opr (tx k)
        · by_cases c5 : bd (tx k) = 3 ∧ ¬ g 257 op = 0
          · exact o_nojoin t r k0 kn c1 c2 (fun w => absurd w c3) (Or.inr ⟨c4, c5.1, c5.2⟩)
          · exact o_join t r k0 kn c2 c4 (fun w => Classical.byContradiction (fun y => c5 ⟨w, y⟩))
        · exact o_nojoin t r k0 kn c1 c2 (fun w => absurd w c3) (Or.inl c4)
    · by_cases c3 : 48 ≤ tx k ∧ tx k ≤ 57
      · exact o_num t r k0 kn c2 c3
      · by_cases c4 : 0 ≤ pm_ix (tx k)
        · exact o_name t hN r k0 kn c1 c2 c3 c4
        · by_cases c5 : tx k = 33
          · exact o_una t r k0 kn c2 33 (Or.inl ⟨c5, rfl⟩)
          · by_cases c6 : tx k = 45
            · exact o_una t r k0 kn c2 126 (Or.inr ⟨c6, rfl⟩)
            · by_cases c7 : tx k = 40
              · by_cases c8 : op = 8
                · exact o_deep t r k0 kn c2 c7 c8
                · exact o_open t r k0 kn c2 c7 c8
              · exact o_nounit t r k0 kn c1 c2 c3 (by omega) c5 c6 c7
theorem read_sim (t : TX c tx n h0 g0) (hN : ∀ g, g 249 = g0 249 → ∀ ch, 0 ≤ pm_ix ch → P_X12_named ch g ∧ F_X12_named ch g = sn (pm_ix ch)) : ∀ (m : Nat) (h g : pH) (op nd k : Int), n - k ≤ m → 0 ≤ k → k ≤ n → RR sn c tx n h0 g0 h g op nd k → SC sn c tx n h0 g0 h g op nd k
  | m, h, g, op, nd, k, hm, k0, kn, r => by
    by_cases x : k < n
    · rcases o_any t hN r k0 x with ⟨h', g', op', nd', k', a, b, e1, e2, r'⟩ | ⟨h', g', op', nd', k', k2, a, b, f⟩
      · obtain ⟨m', em⟩ : ∃ m', m = m' + 1 := ⟨m - 1, by omega⟩
        subst em
        exact sc_go a b rfl (read_sim t hN m' h' g' op' nd' k' (by omega) (by omega) e2 r')
      · exact sc_bad a b f
    · have ek : k = n := by omega
      subst ek
      have a1 := cl_st (c := c) (k := k) (h := h) (fun q => by rw [r.1.2.1] at q; omega)
      have b1 := ml_st (n := k) (op := op) (nd := nd) (k := k) (g := g) (fun q => by omega)
      refine ⟨a1.1, b1.1, ?_⟩
      rw [a1.2, b1.2]
      exact Or.inl r
end CH3
