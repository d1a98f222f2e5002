/-! The rules read by the class as they are written, worked by the model each minute. -/
theorem stk_uniq {f : Int → Int} : ∀ (l l' : List Int), stk f l → stk f l' → l.length = l'.length → l = l'
  | [], [], _, _, _ => rfl
  | [], _ :: _, _, _, e => by simp only [List.length_nil, List.length_cons] at e; omega
  | _ :: _, [], _, _, e => by simp only [List.length_nil, List.length_cons] at e; omega
  | x :: l, y :: l', h, h', e => by
    simp only [List.length_cons] at e
    have e' : l.length = l'.length := by omega
    have h1 := h.1
    have h2 := h'.1
    rw [e'] at h1
    rw [stk_uniq l l' h.2 h'.2 e', ← h1, h2]
theorem pw_len (s : Int) : ∀ (W P : List Int), (pw s W P).1.length + (pw s W P).2.length = P.length + W.length
  | [], P => rfl
  | x :: W, P => by
    by_cases c : s ≤ bd x
    · rw [show pw s (x :: W) P = pw s W (-x :: P) from if_pos c, pw_len s W (-x :: P)]
      simp only [List.length_cons]; omega
    · rw [show pw s (x :: W) P = (P, x :: W) from if_neg c]
noncomputable def WK (g : pH) : Prop := P_X12_workRules g ∧ (∀ a, a ≠ 248 → a ≠ 255 → a ≠ 256 → a ≠ 257 → H_X12_workRules g a = g a) ∧ (∀ k : Int, k ≠ 8 → k ≠ 9 → k ≠ 11 → k ≠ 12 → H_X12_workRules g 248 k = g 248 k)
noncomputable def NM (g : pH) (sn : Int → Int) : Prop := ∀ g', g' 249 = g 249 → ∀ ch, 0 ≤ pm_ix ch → P_X12_named ch g' ∧ F_X12_named ch g' = sn (pm_ix ch)
/-- how the model ends -/
theorem work_end {g : pH} {n op nd : Int} {gf : pH} (g14 : g 249 14 = n) (hn : 0 ≤ n ∧ n ≤ 60) (o : O_X12_workRules_24 n 0 1 0 (s_X12_workRules_1 g)) (e : ∃ k, L_X12_workRules_24 n 0 1 0 (s_X12_workRules_1 g) = (op, nd, k, gf)) :
    (¬ gf 248 12 = -1 → P_X12_workRules g ∧ H_X12_workRules g = gf) ∧
    (gf 248 12 = -1 → ¬ (nd = 0 ∧ op ≤ 0) → P_X12_workRules g ∧ H_X12_workRules g = pm_upd gf 248 12 (10 * n + 1)) ∧
    (gf 248 12 = -1 → nd = 0 ∧ op ≤ 0 → P_X12_reduce 1 gf → P_X12_workRules g ∧ H_X12_workRules g = pm_upd (H_X12_reduce 1 gf) 248 11 ((H_X12_reduce 1 gf) 255 0)) := by
  obtain ⟨k, e⟩ := e
  have ey : (pm_upd (pm_upd (pm_upd g 248 8 0) 248 9 0) 257 0 0) 249 14 = n := by rw [up_cell _ (by omega), up_cell _ (by omega), up_cell _ (by omega)]; exact g14
  have e27 : s_X12_workRules_27 g = op := by unfold s_X12_workRules_27; rw [ey, e]
  have e28 : s_X12_workRules_28 g = nd := by unfold s_X12_workRules_28; rw [ey, e]
  have e30 : s_X12_workRules_30 g = gf := by unfold s_X12_workRules_30; rw [ey, e]
  have e31 : s_X12_workRules_31 g = pm_upd gf 248 12 (10 * n + 1) := by unfold s_X12_workRules_31; rw [ey, e30]
  have hat : P_X12_at 14 (pm_upd (pm_upd (pm_upd g 248 8 0) 248 9 0) 257 0 0) := by
    unfold P_X12_at
    rw [ey]
    exact ⟨by omega, by unfold fx_i; omega⟩
  refine ⟨fun z => ?_, fun z y => ?_, fun z y hp => ?_⟩
  · have e32 : s_X12_workRules_32 g = gf := by unfold s_X12_workRules_32; rw [e30, if_neg z]
    refine ⟨⟨hat, ?_, fun w => ?_, fun w => ?_⟩, ?_⟩
    · rw [ey]; exact o
    · rw [e30] at w; exact absurd w z
    · rw [e32] at w; exact absurd w z
    · unfold H_X12_workRules s_X12_workRules_34; rw [e32, if_neg z]
  · have e32 : s_X12_workRules_32 g = pm_upd gf 248 12 (10 * n + 1) := by
      unfold s_X12_workRules_32
      rw [e30, e28, e27, e31, if_pos z]
      by_cases w : nd = 0
      · rw [if_pos w, if_neg (fun q => y ⟨w, q⟩)]
      · rw [if_neg w]
    have ew : ¬ (pm_upd gf 248 12 (10 * n + 1)) 248 12 = -1 := by rw [up_eq]; omega
    refine ⟨⟨hat, ?_, fun _ => ⟨fun _ _ => ?_, fun _ => ?_⟩, fun w => ?_⟩, ?_⟩
    · rw [ey]; exact o
    · rw [ey]; exact ⟨by unfold fx_i; omega, by unfold fx_i; omega⟩
    · rw [ey]; exact ⟨by unfold fx_i; omega, by unfold fx_i; omega⟩
    · rw [e32] at w; exact absurd w ew
    · unfold H_X12_workRules s_X12_workRules_34; rw [e32, if_neg ew]
  · have e32 : s_X12_workRules_32 g = gf := by
      unfold s_X12_workRules_32
      rw [e30, e28, e27, if_pos z, if_pos y.1, if_pos y.2]
    refine ⟨⟨hat, ?_, fun _ => ⟨fun _ _ => ?_, fun _ => ?_⟩, fun w => ?_⟩, ?_⟩
    · rw [ey]; exact o
    · rw [ey]; exact ⟨by unfold fx_i; omega, by unfold fx_i; omega⟩
    · rw [ey]; exact ⟨by unfold fx_i; omega, by unfold fx_i; omega⟩
    · rw [e32]; exact hp
    · unfold H_X12_workRules s_X12_workRules_34 s_X12_workRules_33; rw [e32, if_pos z]
/-- how the class ends -/
theorem read_end {c : Int} {h : pH} {n : Int} {hf : pH} (hn : 0 ≤ n ∧ n ≤ 60) (o : O_X9_readAll_23 c 0 (s_X9_readAll_2 c h)) (e : (L_X9_readAll_23 c 0 (s_X9_readAll_2 c h)).2 = hf) (h4 : hf c 4 = n) {h6 : pH}
    (e6 : h6 = if hf c 5 = -1 then (if hf c 12 = 0 ∧ hf c 8 ≤ 0 then hf else pm_upd hf c 5 (10 * n + 1)) else hf) (p : P_X9_putWaiting c 1 h6) : P_X9_readAll c h ∧ H_X9_readAll c h = H_X9_putWaiting c 1 h6 := by
  have e4 : s_X9_readAll_4 c h = hf := e
  have e5 : s_X9_readAll_5 c h = pm_upd hf c 5 (10 * n + 1) := by unfold s_X9_readAll_5; rw [e4, h4]; rfl
  have e66 : s_X9_readAll_6 c h = h6 := by
    unfold s_X9_readAll_6
    rw [e4, e5, e6]
    by_cases z : hf c 5 = -1
    · rw [if_pos z, if_pos z]
      by_cases w : hf c 12 = 0
      · rw [if_pos w]
        by_cases u : hf c 8 ≤ 0
        · rw [if_pos u, if_pos ⟨w, u⟩]
        · rw [if_neg u, if_neg (fun q => u q.2)]
      · rw [if_neg w, if_neg (fun q => w q.1)]
    · rw [if_neg z, if_neg z]
  have b124 : ∀ h : pH, F_X9_binding 124 h = 1 := fun _ => rfl
  refine ⟨⟨o, fun _ => ⟨fun _ _ => ?_, fun _ => ?_⟩, ?_⟩, ?_⟩
  · rw [e4, h4]; exact ⟨by unfold fx_i; omega, by unfold fx_i; omega⟩
  · rw [e4, h4]; exact ⟨by unfold fx_i; omega, by unfold fx_i; omega⟩
  · rw [e66, b124]; exact p
  · unfold H_X9_readAll s_X9_readAll_7; rw [e66, b124]
/-- both read the same text -/
theorem read_both {sn : Int → Int} {c : Int} {tx : Int → Int} {n : Int} {h g : pH} (t : TX c tx n h g) (h4 : h c 4 = n) (g14 : g 249 14 = n) (hN : NM g sn) :
    P_X9_readAll c h ∧ WK g ∧ (∀ a, a ≠ c → a ≠ c + 2 → a ≠ c + 3 → H_X9_readAll c h a = h a) ∧ H_X9_readAll c h c 4 = n ∧ H_X12_workRules g 248 12 = H_X9_readAll c h c 5 ∧
    ∃ P, stk (H_X9_readAll c h (c + 2)) P ∧ H_X9_readAll c h c 6 = P.length ∧ P.length ≤ 60 ∧ (H_X9_readAll c h c 5 = -1 → (∀ x, x ∈ P → -126 ≤ x) ∧ ∃ v S, ev sn P = v :: S ∧ H_X12_workRules g 248 11 = v) := by
  have hn := t.1
  obtain ⟨h2, eh2⟩ : ∃ q, q = s_X9_readAll_2 c h := ⟨_, rfl⟩
  obtain ⟨g1, eg1⟩ : ∃ q, q = s_X12_workRules_1 g := ⟨_, rfl⟩
  have h2a : ∀ a, a ≠ c → h2 a = h a := fun a e => by
    rw [eh2]; unfold s_X9_readAll_2 s_X9_readAll_1
    rw [up_cell _ e, up_cell _ e, up_cell _ e, up_cell _ e, up_cell _ e, up_cell _ e, up_cell _ e]
  have g1a : ∀ a, a ≠ 248 → a ≠ 257 → g1 a = g a := fun a e1 e2 => by
    rw [eg1]; unfold s_X12_workRules_1
    rw [up_cell _ e1, up_cell _ e2, up_cell _ e1, up_cell _ e1]
  have h2f : h2 c 4 = n ∧ h2 c 5 = -1 ∧ h2 c 6 = 0 ∧ h2 c 7 = 0 ∧ h2 c 8 = 0 ∧ h2 c 9 = 0 ∧ h2 c 10 = 0 ∧ h2 c 12 = 1 := by
    rw [eh2]; unfold s_X9_readAll_2 s_X9_readAll_1
    simp (disch := omega) only [up_eq, up_pl, h4]
    simp
  have g1f : g1 248 8 = 0 ∧ g1 248 9 = 0 ∧ g1 248 12 = -1 ∧ g1 257 0 = 0 := by
    rw [eg1]; unfold s_X12_workRules_1
    simp (disch := omega) only [up_eq, up_pl, up_cell]
    simp
  have FR0 : FR c n h g h2 g1 := ⟨fun a e1 e2 e3 => h2a a e1, h2f.1, fun a e1 e2 e3 e4 => g1a a e1 e4, fun k e1 e2 e3 e4 => by
    rw [eg1]; unfold s_X12_workRules_1
    rw [up_pl _ e4, up_cell _ (by omega), up_pl _ e2, up_pl _ e1]⟩
  have R0 : RR sn c tx n h g h2 g1 0 1 0 := by
    refine ⟨FR0, h2f.2.1, g1f.2.2.1, ⟨by omega, by omega, h2f.2.2.2.2.1, h2f.2.2.2.2.2.2.2, Or.inr rfl⟩, ⟨by rw [h2f.2.2.2.2.2.1]; omega, by rw [h2f.2.2.2.2.2.1]; omega, fun j j1 j2 => ?_⟩, fun _ _ _ => h2f.2.2.2.2.2.2.1, [], [], [], ⟨trivial, h2f.2.2.1, trivial, h2f.2.2.2.1⟩, ⟨trivial, g1f.1, trivial, g1f.2.1⟩, fun x hx => absurd hx List.not_mem_nil, fun x hx => absurd hx List.not_mem_nil, trivial, fun _ => rfl, fun z => by omega, rfl, rfl, by simp only [List.length_nil]; omega, fun x hx => absurd hx List.not_mem_nil⟩
    have : j = 0 := by omega
    subst this
    rw [h2f.2.2.2.2.2.1, g1f.2.2.2]
    exact ⟨fun w => absurd w (by unfold bit; decide), fun w => absurd rfl w⟩
  have S := read_sim t hN n.toNat h2 g1 0 1 0 (by omega) (by omega) (by omega) R0
  obtain ⟨o1, o2, en⟩ := S
  obtain ⟨hf, ehf⟩ : ∃ q, q = (L_X9_readAll_23 c 0 h2).2 := ⟨_, rfl⟩
  obtain ⟨r, er⟩ : ∃ q, q = L_X12_workRules_24 n 0 1 0 g1 := ⟨_, rfl⟩
  rw [← ehf, ← er] at en
  obtain ⟨op, nd, kk, gf⟩ := r
  have WE := work_end (g := g) (op := op) (nd := nd) (gf := gf) g14 hn (by rw [← eg1]; exact o2) ⟨kk, by rw [← eg1]; exact er.symm⟩
  -- what the class's end needs
  have XE : ∀ (h6 : pH) (P W : List Int), FR c n h g h6 gf → CS c h6 P W → P.length + W.length ≤ 60 → (∀ x, x ∈ W → 0 ≤ x ∧ x ≤ 127) → (h6 = if hf c 5 = -1 then (if hf c 12 = 0 ∧ hf c 8 ≤ 0 then hf else pm_upd hf c 5 (10 * n + 1)) else hf) → hf c 4 = n →
      P_X9_readAll c h ∧ (∀ a, a ≠ c → a ≠ c + 2 → a ≠ c + 3 → H_X9_readAll c h a = h a) ∧ H_X9_readAll c h c 4 = n ∧ H_X9_readAll c h c 5 = h6 c 5 ∧ CS c (H_X9_readAll c h) (pw 1 W P).1 (pw 1 W P).2 ∧ (pw 1 W P).1.length ≤ 60 := by
    intro h6 P W f cs hl hw e6 hf4
    obtain ⟨p0, p1, p2, p3⟩ := CS_pw (s := 1) W P h6 cs hl hw
    obtain ⟨q0, q1⟩ := read_end (h := h) hn (by rw [← eh2]; exact o1) (by rw [← eh2]; exact ehf.symm) hf4 e6 p0
    rw [q1]
    have := pw_len 1 W P
    exact ⟨q0, fun a e1 e2 e3 => by rw [p2 a e1 e2]; exact f.1 a e1 e2 e3, by rw [p3 4 (by omega) (by omega)]; exact f.2.1, p3 5 (by omega) (by omega), p1, by omega⟩
  rcases en with r | f
  · -- no fault on the way
    dsimp only at r
    obtain ⟨r1, r2, r3, r4, r5, r6, P, U, T, q1, q2, q3, q4, q5, q6, q7, q8, q9, q10, q11⟩ := r
    have hal := auP_len U P
    have hel := ev_len sn (auP U P)
    by_cases z : nd = 0 ∧ op ≤ 0
    · -- well
      have ho : op = 0 := by omega
      have q8' : ((ev sn (auP U P)).length : Int) = nb T + 1 := by rw [q8, if_neg (by omega)]
      obtain ⟨w1, w2, w3, w4, w5, w6, w7, w8, w9, w10, w11⟩ := pw_rd (sn := sn) (s := 1) (by omega) T (auP U P) q4 q5 (q7 z.1) q8'
      obtain ⟨P1, eP1⟩ : ∃ q, q = (pw 1 T (auP U P)).1 := ⟨_, rfl⟩
      obtain ⟨T1, eT1⟩ : ∃ q, q = (pw 1 T (auP U P)).2 := ⟨_, rfl⟩
      obtain ⟨m0, m1, m2, m3⟩ := MS_red (s := 1) (by omega) T _ gf q2 q4 q8' (by omega) (by omega)
      rw [← w1, ← w2] at m1
      have epw : pw 1 (U ++ T) P = pw 1 T (auP U P) := pw_un (by omega) U T P q3
      rw [← eP1] at w2 w5 w8 w10 m1
      rw [← eT1] at w1 w3 w4 w5 w6 w7 w8 w9 w11 m1
      have eT : T1 = [] := by
        rcases T1 with _ | ⟨x, T2⟩
        · rfl
        · exfalso
          have hx := w11 x T2 rfl
          rcases w7 x (List.mem_cons_self ..) with y | y | y
          · exact absurd y w4
          · subst y
            have : o4 (40 :: T2) = o4 T2 + 1 := rfl
            have := o4_nn T2
            omega
          · have := bd_op y; omega
      subst eT
      have hnb : nb [] = 0 := rfl
      rw [hnb] at w5
      obtain ⟨v, eV⟩ : ∃ v, ev sn P1 = [v] := by
        rcases e : ev sn P1 with _ | ⟨v, _ | ⟨y, V2⟩⟩
        · rw [e] at w5; simp only [List.length_nil] at w5; omega
        · exact ⟨v, rfl⟩
        · rw [e] at w5; simp only [List.length_cons] at w5; omega
      obtain ⟨we1, we2⟩ := WE.2.2 r3 z m0
      obtain ⟨x1, x2, x3, x4, x5, x6⟩ := XE hf P (U ++ T) r1 q1 (by rw [List.length_append]; omega) (UT_rng q3 q4) (by rw [if_pos r2, if_pos ⟨by rw [r4.2.2.2.1]; exact z.1, by rw [r4.2.2.1]; exact z.2⟩]) r1.2.1
      rw [epw, ← eP1, ← eT1] at x5
      rw [epw, ← eP1] at x6
      refine ⟨x1, ⟨we1, ?_, ?_⟩, x2, x3, ?_, P1, x5.1, x5.2.1, x6, fun _ => ⟨fun x hx => ?_, v, [], eV, ?_⟩⟩
      · intro a e1 e2 e3 e4; rw [we2, up_cell _ e1, m2 a e1 e2]; exact r1.2.2.1 a e1 e2 e3 e4
      · intro k e1 e2 e3 e4; rw [we2, up_pl _ e3, m3 k e1 e2]; exact r1.2.2.2 k e1 e2 e3 e4
      · rw [we2, up_pl _ (by omega), m3 12 (by omega) (by omega), r3, x4, r2]
      · rcases w10 x hx with y | y
        · rcases auP_mem U P x y with y | y
          · exact q11 x y
          · have := tok_rng (Or.inl (q3 _ y)); omega
        · have := tok_rng (q4 _ y); omega
      · rw [we2, up_eq]
        have := m1.1
        rw [eV] at this
        exact this.1
    · -- too early
      obtain ⟨we1, we2⟩ := WE.2.1 r3 z
      obtain ⟨x1, x2, x3, x4, x5, x6⟩ := XE (pm_upd hf c 5 (10 * n + 1)) P (U ++ T) (FR_fld _ _ (by omega) r1) (CS_fld _ _ (by omega) (by omega) q1) (by rw [List.length_append]; omega) (UT_rng q3 q4) (by rw [if_pos r2, if_neg (by rw [r4.2.2.2.1, r4.2.2.1]; exact z)]) r1.2.1
      rw [up_eq] at x4
      refine ⟨x1, ⟨we1, ?_, ?_⟩, x2, x3, ?_, _, x5.1, x5.2.1, x6, fun w => by rw [x4] at w; omega⟩
      · intro a e1 e2 e3 e4; rw [we2, up_cell _ e1]; exact r1.2.2.1 a e1 e2 e3 e4
      · intro k e1 e2 e3 e4; rw [we2, up_pl _ e4]; exact r1.2.2.2 k e1 e2 e3 e4
      · rw [we2, up_eq, x4]
  · obtain ⟨f1, f2, f3, P, W, f4, f5, f6⟩ := f
    dsimp only at f1 f2 f3
    obtain ⟨we1, we2⟩ := WE.1 (fun w => f2 (by rw [f3]; exact w))
    obtain ⟨x1, x2, x3, x4, x5, x6⟩ := XE hf P W f1 f4 f5 f6 (by rw [if_neg f2]) f1.2.1
    refine ⟨x1, ⟨we1, ?_, ?_⟩, x2, x3, ?_, _, x5.1, x5.2.1, x6, fun w => by rw [x4] at w; exact absurd w f2⟩
    · intro a e1 e2 e3 e4; rw [we2]; exact f1.2.2.1 a e1 e2 e3 e4
    · intro k e1 e2 e3 e4; rw [we2]; exact f1.2.2.2 k e1 e2 e3 e4
    · rw [we2, x4, f3]
/-- THE RELATION OF THE RULES -/
noncomputable def zrul (c : Int) (h : pH) (z : Int → Int) : Prop := h c 4 = z 14 ∧ 0 ≤ z 14 ∧ z 14 ≤ 60 ∧ (∀ k : Int, 0 ≤ k → k < z 14 → h (c + 1) k = z (376 + k) ∧ 0 ≤ z (376 + k) ∧ z (376 + k) ≤ 127) ∧
  ∃ P, stk (h (c + 2)) P ∧ h c 6 = P.length ∧ P.length ≤ 60 ∧ ∀ (g : pH) (sn : Int → Int), g 249 14 = z 14 → (∀ k : Int, 0 ≤ k → k < z 14 → g 249 (376 + k) = z (376 + k)) → NM g sn →
    WK g ∧ H_X12_workRules g 248 12 = h c 5 ∧ (h c 5 = -1 → (∀ x, x ∈ P → -126 ≤ x) ∧ ∃ v S, ev sn P = v :: S ∧ H_X12_workRules g 248 11 = v)
/-- only the rows count -/
theorem zrul_congr {c c' : Int} {h h' : pH} {z z' : Int → Int} (q : zrul c h z) (e : ∀ i : Int, (i = 4 ∨ i = 5 ∨ i = 6) → h' c' i = h c i) (e1 : ∀ k : Int, 0 ≤ k → k < 60 → h' (c' + 1) k = h (c + 1) k ∧ h' (c' + 2) k = h (c + 2) k)
    (e2 : ∀ k : Int, (k = 14 ∨ (376 ≤ k ∧ k < 440)) → z' k = z k) : zrul c' h' z' := by
  obtain ⟨q1, q2, q3, q4, P, q5, q6, q7, q8⟩ := q
  have e14 := e2 14 (Or.inl rfl)
  refine ⟨by rw [e 4 (by omega), e14]; exact q1, by rw [e14]; exact q2, by rw [e14]; exact q3, fun k k1 k2 => ?_, P, stk_congr P (fun k k1 k2 => (e1 k k1 (by omega)).2) q5, by rw [e 6 (by omega)]; exact q6, q7, fun g sn g1 g2 g3 => ?_⟩
  · rw [e14] at k2
    rw [(e1 k k1 (by omega)).1, e2 _ (by omega)]; exact q4 k k1 k2
  · rw [e14] at g1 g2
    rw [e 5 (by omega)]
    exact q8 g sn g1 (fun k k1 k2 => by rw [g2 k k1 k2, e2 _ (by omega)]) g3
/-- the class reads; the relation stands -/
theorem zrul_read {c : Int} {h : pH} {z : Int → Int} {g0 : pH} {sn0 : Int → Int} (h4 : h c 4 = z 14) (z0 : 0 ≤ z 14) (z60 : z 14 ≤ 60) (ht : ∀ k : Int, 0 ≤ k → k < z 14 → h (c + 1) k = z (376 + k) ∧ 0 ≤ z (376 + k) ∧ z (376 + k) ≤ 127)
    (g14 : g0 249 14 = z 14) (gt : ∀ k : Int, 0 ≤ k → k < z 14 → g0 249 (376 + k) = z (376 + k)) (hN : NM g0 sn0) :
    P_X9_readAll c h ∧ zrul c (H_X9_readAll c h) z ∧ (∀ a, a ≠ c → a ≠ c + 2 → a ≠ c + 3 → H_X9_readAll c h a = h a) := by
  have T : ∀ g : pH, (∀ k : Int, 0 ≤ k → k < z 14 → g 249 (376 + k) = z (376 + k)) → TX c (fun k => z (376 + k)) (z 14) h g := fun g e => ⟨⟨z0, z60⟩, fun k k1 k2 => (ht k k1 k2).2, fun k k1 k2 => (ht k k1 k2).1, e⟩
  obtain ⟨p1, p2, p3, p4, p5, P, p6, p7, p8, p9⟩ := read_both (T g0 gt) h4 g14 hN
  refine ⟨p1, ⟨p4, z0, z60, fun k k1 k2 => by rw [p3 _ (by omega) (by omega) (by omega)]; exact ht k k1 k2, P, p6, p7, p8, fun g sn e1 e2 e3 => ?_⟩, p3⟩
  obtain ⟨r1, r2, r3, r4, r5, P', r6, r7, r8, r9⟩ := read_both (T g e2) h4 e1 e3
  have : P' = P := stk_uniq P' P r6 p6 (by omega)
  subst this
  exact ⟨r2, r5, r9⟩
/-- what is seen -/
noncomputable def zsn (z : Int → Int) (nm nw : Nat) (j : Int) : Int := if j = 0 then zmax (zgauge z) 11 else if j = 1 then z (60 + Int.tmod (z 15) 24) else if j = 2 then z 7 else if j = 3 then zs (fun w => if zopen z w then 1 else 0) nw else if j = 4 then z 15 else zs (fun m => z (144 + m)) nm
theorem NM_of {g : pH} {nm nw : Nat} (hy : yl (g 249) nm nw) (htm : g 249 15 ≤ 1000000) : NM g (zsn (g 249) nm nw) := by
  intro g' eg ch hc
  obtain ⟨⟨b0, b0', b1, b1', b2, b2', b8, b8', bc, bk⟩, ⟨cn, c10, cm⟩, yp, y17, ⟨dn, d16, dh, dw⟩, ylo, y15, y16⟩ := hy
  rw [← eg] at b8 b8' cn cm dn y15 htm ⊢
  have G := great_M g' ⟨b8, b8'⟩
  have O := openWorks_M g' nw dn d16
  have F := failed_M g' nm cn c10 (fun m e1 e2 => (cm m e1 e2).2.2.2.2.2.2.1)
  have hm : 0 ≤ Int.tmod (g' 249 15) 24 ∧ Int.tmod (g' 249 15) 24 < 24 := by
    rw [Int.tmod_eq_emod_of_nonneg y15]
    omega
  have hP : P_X12_at 15 g' := ⟨by omega, by unfold fx_i; omega⟩
  unfold P_X12_named F_X12_named zsn
  rcases (ix_nn ch).1 hc with rfl | rfl | rfl | rfl | rfl | rfl
  · exact ⟨⟨fun _ => G.1, fun z => by omega⟩, by rw [if_pos rfl, show pm_ix 103 = 0 from rfl, if_pos rfl]; exact G.2⟩
  · exact ⟨⟨fun z => by omega, fun _ _ => ⟨fun _ => ⟨hP, by unfold fx_i; omega, by omega⟩, fun z => by omega⟩⟩, by rw [if_neg (by omega), if_neg (by omega), if_pos rfl, show pm_ix 112 = 1 from rfl, if_neg (by omega), if_pos rfl]⟩
  · exact ⟨⟨fun z => by omega, fun _ _ => ⟨fun z => by omega, fun _ z => by omega⟩⟩, by rw [if_neg (by omega), if_neg (by omega), if_neg (by omega), if_pos rfl, show pm_ix 115 = 2 from rfl, if_neg (by omega), if_neg (by omega), if_pos rfl]⟩
  · exact ⟨⟨fun z => by omega, fun _ _ => ⟨fun z => by omega, fun _ _ => ⟨fun _ => O.1, fun z => by omega⟩⟩⟩, by rw [if_neg (by omega), if_neg (by omega), if_neg (by omega), if_neg (by omega), if_pos rfl, show pm_ix 119 = 3 from rfl, if_neg (by omega), if_neg (by omega), if_neg (by omega), if_pos rfl]; exact O.2⟩
  · exact ⟨⟨fun z => by omega, fun _ z => by omega⟩, by rw [if_neg (by omega), if_pos rfl, show pm_ix 109 = 4 from rfl, if_neg (by omega), if_neg (by omega), if_neg (by omega), if_neg (by omega), if_pos rfl]⟩
  · exact ⟨⟨fun z => by omega, fun _ _ => ⟨fun z => by omega, fun _ _ => ⟨fun z => by omega, fun _ => F.1⟩⟩⟩, by rw [if_neg (by omega), if_neg (by omega), if_neg (by omega), if_neg (by omega), if_neg (by omega), show pm_ix 102 = 5 from rfl, if_neg (by omega), if_neg (by omega), if_neg (by omega), if_neg (by omega), if_neg (by omega)]; exact F.2⟩
/-- what the rules' part of a minute does -/
theorem tell_ok (b : Int) (h g : pH) (nm nw : Nat) (hr : rl b h (g 249) nm nw) (hy : yl (g 249) nm nw) (hz : zrul (b + 37) h (g 249)) (htm : g 249 15 ≤ 1000000) : tellOK b h g := by
  have hN := NM_of hy htm
  obtain ⟨⟨a0, a1, a2, a8, ac, ak⟩, ⟨mn, mm⟩, hp, h17, ⟨wn, wh, ww, wo⟩, hlo, h7, h8⟩ := hr
  obtain ⟨⟨b0, b0', b1, b1', b2, b2', b8, b8', bc, bk⟩, ⟨cn, c10, cm⟩, yp, y17, ⟨dn, d16, dh, dw⟩, ylo, y15, y16⟩ := hy
  obtain ⟨z1, z2, z3, z4, P, z5, z6, z7, z8⟩ := hz
  obtain ⟨⟨k1, k2, k3⟩, k4, k5⟩ := z8 g _ rfl (fun _ _ _ => rfl) hN
  have sg : ∀ c : Int, 0 ≤ c → c ≤ 11 → s_X0_gauge_1 (b + 1) c h = zgauge (g 249) c := fun c e1 e2 => by
    unfold s_X0_gauge_1 zgauge
    rw [show b + 1 + 1 = b + 2 by omega, show b + 1 + 4 = b + 5 by omega, a8, (ac c e1 (by omega)).1]
    by_cases w : g 249 8 = 0
    · rw [if_pos w, if_pos w]
    · rw [if_neg w, if_neg w, ak _ (by omega) (by omega), show 440 + ((g 249 8 - 1) * 12 + c) = 440 + 12 * (g 249 8 - 1) + c by omega]
  have GX := great_X (b + 1) h (by rw [a8]; exact ⟨b8, b8'⟩)
  have eG : F_X0_greatestGauge (b + 1) h = zmax (zgauge (g 249)) 11 := by rw [GX.2]; exact zmax_congr (fun i e1 e2 => sg i e1 e2)
  -- the seen row
  have m1 : ∀ a, a ≠ b + 45 → (pm_upd h (b + 45) 0 (F_X0_greatestGauge (b + 1) h)) a = h a := fun a e => up_cell _ e
  have hfm : Int.fmod (g 249 15) 24 = Int.tmod (g 249 15) 24 := by
    rw [Int.fmod_eq_emod_of_nonneg _ (by omega), Int.tmod_eq_emod_of_nonneg y15]
  have hmr : 0 ≤ Int.fmod (g 249 15) 24 ∧ Int.fmod (g 249 15) 24 < 24 := by
    rw [Int.fmod_eq_emod_of_nonneg _ (by omega)]; omega
  have e1 : s_X4_tellSpeed_1 b h = g 249 (60 + Int.tmod (g 249 15) 24) := by
    unfold s_X4_tellSpeed_1 F_X8_priceAt
    rw [m1 b (by omega), m1 _ (by omega), h7, hfm, show b + 18 + 2 = b + 20 by omega]
    rw [hfm] at hmr
    exact hp.2.2.2.2.2.2.1 _ hmr.1 hmr.2
  have m2 : ∀ a, a ≠ b + 45 → s_X4_tellSpeed_2 b h a = h a := fun a e => by unfold s_X4_tellSpeed_2; rw [up_cell _ e, up_cell _ e]
  have m3 : ∀ a, a ≠ b + 45 → s_X4_tellSpeed_3 b h a = h a := fun a e => by unfold s_X4_tellSpeed_3; rw [up_cell _ e]; exact m2 a e
  have m4 : ∀ a, a ≠ b + 45 → s_X4_tellSpeed_4 b h a = h a := fun a e => by unfold s_X4_tellSpeed_4; rw [up_cell _ e]; exact m3 a e
  have m5 : ∀ a, a ≠ b + 45 → s_X4_tellSpeed_5 b h a = h a := fun a e => by unfold s_X4_tellSpeed_5; rw [up_cell _ e]; exact m4 a e
  have m6 : ∀ a, a ≠ b + 45 → s_X4_tellSpeed_6 b h a = h a := fun a e => by unfold s_X4_tellSpeed_6; rw [up_cell _ e]; exact m5 a e
  have CX := cnt_X (b + 21) 1 (s_X4_tellSpeed_3 b h) nw (by rw [m3 _ (by omega)]; exact wn) d16
  have FX := failed_X (b + 7) (s_X4_tellSpeed_5 b h) nm (by rw [m5 _ (by omega)]; exact mn) c10 (fun m e1 e2 => by
    rw [m5 _ (by omega), show b + 7 + 7 = b + 14 by omega, (mm m e1 e2).2.2.2.2.2.2.1]; exact (cm m e1 e2).2.2.2.2.2.2.1)
  have eC : F_X10_countIn (b + 21) 1 (s_X4_tellSpeed_3 b h) = zs (fun w => if zopen (g 249) w then 1 else 0) nw := by
    rw [CX.2]
    refine zs_congr (fun w e1 e2 => ?_)
    rw [m3 _ (by omega), show b + 21 + 11 = b + 32 by omega, (ww w e1 e2).2.2.2.2.2.2.2.1]
    have := zst_open (dw w e1 e2).1
    by_cases o : zopen (g 249) w
    · rw [if_pos o, if_pos (this.mpr o)]
    · rw [if_neg o, if_neg (fun q => o (this.mp q))]
  have eF : F_X6_countFailed (b + 7) (s_X4_tellSpeed_5 b h) = zs (fun m => g 249 (144 + m)) nm := by
    rw [FX.2]
    refine zs_congr (fun m e1 e2 => ?_)
    rw [m5 _ (by omega), show b + 7 + 7 = b + 14 by omega]; exact (mm m e1 e2).2.2.2.2.2.2.1
  have seen : ∀ j : Int, 0 ≤ j → j < 6 → s_X4_tellSpeed_6 b h (b + 45) j = zsn (g 249) nm nw j := by
    intro j j1 j2
    unfold zsn
    have j3 : j = 0 ∨ j = 1 ∨ j = 2 ∨ j = 3 ∨ j = 4 ∨ j = 5 := by omega
    unfold s_X4_tellSpeed_6
    rw [eF]
    rcases j3 with rfl | rfl | rfl | rfl | rfl | rfl
    · rw [if_pos rfl, up_pl _ (by omega)]; unfold s_X4_tellSpeed_5; rw [up_pl _ (by omega)]; unfold s_X4_tellSpeed_4; rw [up_pl _ (by omega)]; unfold s_X4_tellSpeed_3; rw [up_pl _ (by omega)]; unfold s_X4_tellSpeed_2; rw [up_pl _ (by omega), up_eq]; exact eG
    · rw [if_neg (by omega), if_pos rfl, up_pl _ (by omega)]; unfold s_X4_tellSpeed_5; rw [up_pl _ (by omega)]; unfold s_X4_tellSpeed_4; rw [up_pl _ (by omega)]; unfold s_X4_tellSpeed_3; rw [up_pl _ (by omega)]; unfold s_X4_tellSpeed_2; rw [up_eq]; exact e1
    · rw [if_neg (by omega), if_neg (by omega), if_pos rfl, up_pl _ (by omega)]; unfold s_X4_tellSpeed_5; rw [up_pl _ (by omega)]; unfold s_X4_tellSpeed_4; rw [up_pl _ (by omega)]; unfold s_X4_tellSpeed_3; rw [up_eq, m2 _ (by omega)]; exact hp.2.2.2.2.1
    · rw [if_neg (by omega), if_neg (by omega), if_neg (by omega), if_pos rfl, up_pl _ (by omega)]; unfold s_X4_tellSpeed_5; rw [up_pl _ (by omega)]; unfold s_X4_tellSpeed_4; rw [up_eq]; exact eC
    · rw [if_neg (by omega), if_neg (by omega), if_neg (by omega), if_neg (by omega), if_pos rfl, up_pl _ (by omega)]; unfold s_X4_tellSpeed_5; rw [up_eq, m4 _ (by omega)]; exact h7
    · rw [if_neg (by omega), if_neg (by omega), if_neg (by omega), if_neg (by omega), if_neg (by omega), up_eq]
  have f5 : s_X4_tellSpeed_6 b h (b + 37) 5 = H_X12_workRules g 248 12 := by rw [m6 _ (by omega)]; exact k4.symm
  have V : s_X4_tellSpeed_6 b h (b + 37) 5 = -1 → P_X9_value (b + 37) (b + 45) (s_X4_tellSpeed_6 b h) ∧ (∀ a, a ≠ b + 41 → H_X9_value (b + 37) (b + 45) (s_X4_tellSpeed_6 b h) a = s_X4_tellSpeed_6 b h a) ∧ F_X9_value (b + 37) (b + 45) (s_X4_tellSpeed_6 b h) = H_X12_workRules g 248 11 := by
    intro w
    rw [m6 _ (by omega)] at w
    obtain ⟨u1, v, S, u2, u3⟩ := k5 w
    have VV := val_X (sn := zsn (g 249) nm nw) (c := b + 37) (d := b + 45) (h := s_X4_tellSpeed_6 b h) (P := P) (by rw [m6 _ (by omega)]; exact z5) (by rw [m6 _ (by omega)]; exact z6) z7 u1 seen (by omega)
    refine ⟨VV.1, fun a e => VV.2.1 a (by omega), ?_⟩
    rw [VV.2.2 v S u2, u3]
  have fr7 : ∀ a, a ≠ b + 41 → a ≠ b + 45 → s_X4_tellSpeed_7 b h a = h a := fun a e1 e2 => by
    unfold s_X4_tellSpeed_7
    by_cases w : s_X4_tellSpeed_6 b h (b + 37) 5 = -1
    · rw [if_pos w, (V w).2.1 a e1]; exact m6 a e2
    · rw [if_neg w]; exact m6 a e2
  have hmm : ∀ x : Int, 0 ≤ fx_max 0 (fx_min x 3) ∧ fx_max 0 (fx_min x 3) ≤ 3 := fun x => by
    unfold fx_max fx_min
    split <;> split <;> omega
  have e8 : s_X4_tellSpeed_8 b h = s_X12_minute_2 g := by
    unfold s_X4_tellSpeed_8 s_X12_minute_2 s_X12_minute_1
    rw [f5]
    by_cases w : H_X12_workRules g 248 12 = -1
    · rw [if_pos w, if_pos w, (V (by rw [f5]; exact w)).2.2, less_min]
      unfold fx_max fx_min
      split <;> split <;> split <;> omega
    · rw [if_neg w, if_neg w, if_pos (by omega), less_min]; rfl
  have r8 : 0 ≤ s_X4_tellSpeed_8 b h ∧ s_X4_tellSpeed_8 b h ≤ 3 := by
    unfold s_X4_tellSpeed_8
    split
    · exact hmm _
    · omega
  refine ⟨⟨GX.1, ?_, CX.1, FX.1, fun w => ⟨(V w).1, ?_⟩⟩, k1, fun a e1 e2 e3 => ?_, fun k e => ?_, k2, ?_, ?_, ?_, ?_⟩
  · unfold P_X8_priceAt
    rw [m1 b (by omega), h7]; exact hmr
  · have := hmm (F_X9_value (b + 37) (b + 45) (s_X4_tellSpeed_6 b h))
    unfold fx_i; omega
  · unfold H_X4_tellSpeed; rw [up_cell _ e1]; exact fr7 a e2 e3
  · unfold H_X4_tellSpeed; rw [up_pl _ e, fr7 b (by omega) (by omega)]
  · unfold H_X4_tellSpeed; rw [up_eq]; exact e8
  · rw [← e8]; exact r8.1
  · rw [← e8]; exact r8.2
  · exact k3
