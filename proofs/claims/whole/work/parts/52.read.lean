/-! A text read by both: the relation. -/
noncomputable def FR (c n : Int) (h0 g0 h g : pH) : Prop := (∀ a, a ≠ c → a ≠ c + 2 → a ≠ c + 3 → h a = h0 a) ∧ h c 4 = n ∧ (∀ a, a ≠ 248 → a ≠ 255 → a ≠ 256 → a ≠ 257 → g a = g0 a) ∧ (∀ k : Int, k ≠ 8 → k ≠ 9 → k ≠ 11 → k ≠ 12 → g 248 k = g0 248 k)
noncomputable def CB (c : Int) (h g : pH) (op : Int) : Prop := 0 ≤ h c 9 ∧ h c 9 < 512 ∧ ∀ j : Int, 0 ≤ j → j ≤ op → (bit (h c 9) j ↔ ¬ g 257 j = 0)
noncomputable def RLs (sn : Int → Int) (c : Int) (h g : pH) (op nd k : Int) : Prop := ∃ P U T, CS c h P (U ++ T) ∧ MS g (ev sn (auP U P)) T ∧ (∀ x, x ∈ U → unr x) ∧ (∀ x, x ∈ T → tok x) ∧ okT T ∧ (nd = 1 → U = []) ∧ (nd = 0 → ntu T) ∧ (((ev sn (auP U P)).length : Int) = nb T + (if nd = 1 then 0 else 1)) ∧ op = o4 T ∧ ((P.length + U.length + T.length : Nat) : Int) ≤ k ∧ (∀ x, x ∈ P → -126 ≤ x)
noncomputable def RR (sn : Int → Int) (c : Int) (tx : Int → Int) (n : Int) (h0 g0 h g : pH) (op nd k : Int) : Prop :=
  FR c n h0 g0 h g ∧ h c 5 = -1 ∧ g 248 12 = -1 ∧ (0 ≤ op ∧ op ≤ 8 ∧ h c 8 = op ∧ h c 12 = nd ∧ (nd = 0 ∨ nd = 1)) ∧ CB c h g op ∧ (k < n → 48 ≤ tx k → tx k ≤ 57 → h c 10 = 0) ∧ RLs sn c h g op nd k
noncomputable def FF (c n : Int) (h0 g0 h g : pH) : Prop := FR c n h0 g0 h g ∧ ¬ h c 5 = -1 ∧ h c 5 = g 248 12 ∧ ∃ P W, CS c h P W ∧ P.length + W.length ≤ 60 ∧ ∀ x, x ∈ W → 0 ≤ x ∧ x ≤ 127
noncomputable def EN (sn : Int → Int) (c : Int) (tx : Int → Int) (n : Int) (h0 g0 h' : pH) (r : Int × Int × Int × pH) : Prop := RR sn c tx n h0 g0 h' r.2.2.2 r.1 r.2.1 n ∨ FF c n h0 g0 h' r.2.2.2
noncomputable def SC (sn : Int → Int) (c : Int) (tx : Int → Int) (n : Int) (h0 g0 h g : pH) (op nd k : Int) : Prop := O_X9_readAll_23 c k h ∧ O_X12_workRules_24 n op nd k g ∧ EN sn c tx n h0 g0 (L_X9_readAll_23 c k h).2 (L_X12_workRules_24 n op nd k g)
noncomputable def CL (c k : Int) (h : pH) (k' : Int) (h' : pH) : Prop := O_X9_readAll_23 c k' h' → O_X9_readAll_23 c k h ∧ L_X9_readAll_23 c k h = L_X9_readAll_23 c k' h'
noncomputable def ML (n op nd k : Int) (g : pH) (op' nd' k' : Int) (g' : pH) : Prop := O_X12_workRules_24 n op' nd' k' g' → O_X12_workRules_24 n op nd k g ∧ L_X12_workRules_24 n op nd k g = L_X12_workRules_24 n op' nd' k' g'
theorem CL.refl (c k : Int) (h : pH) : CL c k h k h := fun o => ⟨o, rfl⟩
theorem CL.tr {c k k1 k2 : Int} {h h1 h2 : pH} (a : CL c k h k1 h1) (b : CL c k1 h1 k2 h2) : CL c k h k2 h2 := fun o => ⟨(a (b o).1).1, ((a (b o).1).2).trans (b o).2⟩
theorem sc_go {sn : Int → Int} {c : Int} {tx : Int → Int} {n : Int} {h0 g0 h g h' g' : pH} {op nd k op' nd' k' k2 : Int} (a : CL c k h k2 h') (b : ML n op nd k g op' nd' k' g') (e : k2 = k') (s : SC sn c tx n h0 g0 h' g' op' nd' k') : SC sn c tx n h0 g0 h g op nd k := by
  subst e
  have a' := a s.1
  have b' := b s.2.1
  refine ⟨a'.1, b'.1, ?_⟩
  rw [a'.2, b'.2]; exact s.2.2
theorem cl_st {c k : Int} {h : pH} (x : ¬ (k < h c 4 ∧ h c 5 = -1)) : O_X9_readAll_23 c k h ∧ L_X9_readAll_23 c k h = (k, h) :=
  fx_un_f (σ := Int × pH) (c := fun s => C_X9_readAll_23 c s.1 s.2) (f := fun s => B_X9_readAll_23 c s.1 s.2) (P := fun s => P_X9_readAll_23 c s.1 s.2) (s := (k, h)) (fun q => absurd q x) x
theorem ml_st {n op nd k : Int} {g : pH} (x : ¬ (k < n ∧ g 248 12 = -1)) : O_X12_workRules_24 n op nd k g ∧ L_X12_workRules_24 n op nd k g = (op, nd, k, g) :=
  fx_un_f (σ := Int × Int × Int × pH) (c := fun s => C_X12_workRules_24 n s.1 s.2.1 s.2.2.1 s.2.2.2) (f := fun s => B_X12_workRules_24 n s.1 s.2.1 s.2.2.1 s.2.2.2) (P := fun s => P_X12_workRules_24 n s.1 s.2.1 s.2.2.1 s.2.2.2) (s := (op, nd, k, g)) (fun q => absurd q x) x
theorem sc_bad {sn : Int → Int} {c : Int} {tx : Int → Int} {n : Int} {h0 g0 h g h' g' : pH} {op nd k op' nd' k' k2 : Int} (a : CL c k h k2 h') (b : ML n op nd k g op' nd' k' g') (f : FF c n h0 g0 h' g') : SC sn c tx n h0 g0 h g op nd k := by
  have a1 := cl_st (c := c) (k := k2) (h := h') (fun q => f.2.1 q.2)
  have b1 := ml_st (n := n) (op := op') (nd := nd') (k := k') (g := g') (fun q => f.2.1 (by rw [f.2.2.1]; exact q.2))
  have a' := a a1.1
  have b' := b b1.1
  refine ⟨a'.1, b'.1, ?_⟩
  rw [a'.2, b'.2, a1.2, b1.2]
  exact Or.inr f
theorem cl1 {c k : Int} {h : pH} (h4 : k < h c 4) (h5 : h c 5 = -1) (hk : 0 ≤ k ∧ k < 60) (p : P_X9_readAt c k h) : CL c k h (k + 1) (H_X9_readAt c k h) := fun o =>
  fx_un_t (σ := Int × pH) (c := fun s => C_X9_readAll_23 c s.1 s.2) (f := fun s => B_X9_readAll_23 c s.1 s.2) (P := fun s => P_X9_readAll_23 c s.1 s.2) (s := (k, h)) (fun _ => ⟨p, by unfold fx_i; omega⟩) ⟨h4, h5⟩ o
theorem ml1 {n op nd k op' nd' k' : Int} {g g' : pH} (hk : k < n) (h12 : g 248 12 = -1) (p : P_X12_workRules_24 n op nd k g) (e1 : s_X12_workRules_24 op nd k g = op') (e2 : s_X12_workRules_25 op nd k g = nd') (e3 : s_X12_workRules_26 n op nd k g = k') (e4 : s_X12_workRules_23 n op nd k g = g') : ML n op nd k g op' nd' k' g' := by
  subst e1; subst e2; subst e3; subst e4
  exact fun o => fx_un_t (σ := Int × Int × Int × pH) (c := fun s => C_X12_workRules_24 n s.1 s.2.1 s.2.2.1 s.2.2.2) (f := fun s => B_X12_workRules_24 n s.1 s.2.1 s.2.2.1 s.2.2.2) (P := fun s => P_X12_workRules_24 n s.1 s.2.1 s.2.2.1 s.2.2.2) (s := (op, nd, k, g)) p ⟨hk, h12⟩ o
/-- one character of the class -/
theorem rAt_digit {c k ch : Int} {h : pH} (e : h (c + 1) k = ch) (hd : 48 ≤ ch ∧ ch ≤ 57) : H_X9_readAt c k h = H_X9_readDigit c k (ch - 48) h ∧ (0 ≤ k ∧ k < 60 → P_X9_readDigit c k (ch - 48) h → P_X9_readAt c k h) := by
  unfold H_X9_readAt P_X9_readAt
  rw [e]
  refine ⟨by rw [if_neg (by omega), if_neg (by omega)], fun hk p => ⟨hk, fun z => by omega, fun _ => ⟨fun z => by omega, fun _ => ⟨by unfold fx_i; omega, p⟩⟩⟩⟩
theorem rAt_blank {c k : Int} {h : pH} (e : h (c + 1) k = 32) : H_X9_readAt c k h = pm_upd h c 10 0 ∧ (0 ≤ k ∧ k < 60 → P_X9_readAt c k h) := by
  unfold H_X9_readAt P_X9_readAt
  rw [e]
  refine ⟨by rw [if_pos (by omega), if_pos rfl], fun hk => ⟨hk, fun _ z => absurd rfl z, fun z => by omega⟩⟩
theorem rAt_else {c k ch : Int} {h : pH} (e : h (c + 1) k = ch) (hd : ¬ (48 ≤ ch ∧ ch ≤ 57)) (hb : ch ≠ 32) :
    (h c 12 ≠ 0 → H_X9_readAt c k h = H_X9_readUnit c k ch (pm_upd h c 10 0) ∧ (0 ≤ k ∧ k < 60 → P_X9_readUnit c k ch (pm_upd h c 10 0) → P_X9_readAt c k h)) ∧
    (h c 12 = 0 → ch = 41 → H_X9_readAt c k h = H_X9_readClosing c k (pm_upd h c 10 0) ∧ (0 ≤ k ∧ k < 60 → P_X9_readClosing c k (pm_upd h c 10 0) → P_X9_readAt c k h)) ∧
    (h c 12 = 0 → ch ≠ 41 → H_X9_readAt c k h = H_X9_readJoin c k ch (pm_upd h c 10 0) ∧ (0 ≤ k ∧ k < 60 → P_X9_readJoin c k ch (pm_upd h c 10 0) → P_X9_readAt c k h)) := by
  have e1 : H_X9_readAt c k h = s_X9_readAt_1 c k h := by
    unfold H_X9_readAt
    rw [e]
    by_cases z : ch < 48
    · rw [if_pos z, if_neg hb]
    · rw [if_neg z, if_pos (by omega), if_neg hb]
  have e12 : (pm_upd h c 10 0) c 12 = h c 12 := up_pl _ (by omega)
  rw [e1]
  unfold s_X9_readAt_1 P_X9_readAt
  rw [e, e12]
  refine ⟨fun z => ⟨by rw [if_neg z], fun hk p => ?_⟩, fun z z2 => ⟨by rw [if_pos z, if_pos z2], fun hk p => ?_⟩, fun z z2 => ⟨by rw [if_pos z, if_neg z2], fun hk p => ?_⟩⟩
  · exact ⟨hk, fun _ _ => ⟨fun y => absurd y z, fun _ => p⟩, fun _ => ⟨fun _ _ => ⟨fun y => absurd y z, fun _ => p⟩, fun y => by omega⟩⟩
  · exact ⟨hk, fun _ _ => ⟨fun _ => ⟨fun _ => p, fun y => absurd z2 y⟩, fun y => absurd z y⟩, fun _ => ⟨fun _ _ => ⟨fun _ => ⟨fun _ => p, fun y => absurd z2 y⟩, fun y => absurd z y⟩, fun y => by omega⟩⟩
  · exact ⟨hk, fun _ _ => ⟨fun _ => ⟨fun y => absurd y z2, fun _ => p⟩, fun y => absurd z y⟩, fun _ => ⟨fun _ _ => ⟨fun _ => ⟨fun y => absurd y z2, fun _ => p⟩, fun y => absurd z y⟩, fun y => by omega⟩⟩
theorem FR_fld {c n : Int} {h0 g0 h g : pH} (k v : Int) (hk : k ≠ 4) (q : FR c n h0 g0 h g) : FR c n h0 g0 (pm_upd h c k v) g :=
  ⟨fun a e1 e2 e3 => by rw [up_cell _ e1]; exact q.1 a e1 e2 e3, by rw [up_pl _ (fun z => hk z.symm)]; exact q.2.1, q.2.2.1, q.2.2.2⟩
theorem FR_wr {c n : Int} {h0 g0 h g : pH} (v : Int) (q : FR c n h0 g0 h g) : FR c n h0 g0 h (pm_upd g 248 12 v) :=
  ⟨q.1, q.2.1, fun a e1 e2 e3 e4 => by rw [up_cell _ e1]; exact q.2.2.1 a e1 e2 e3 e4, fun k e1 e2 e3 e4 => by rw [up_pl _ e4]; exact q.2.2.2 k e1 e2 e3 e4⟩
theorem FR_X {c n : Int} {h0 g0 h h' g : pH} (q : FR c n h0 g0 h g) (a1 : ∀ a, a ≠ c → a ≠ c + 2 → a ≠ c + 3 → h' a = h a) (a2 : h' c 4 = h c 4) : FR c n h0 g0 h' g :=
  ⟨fun a e1 e2 e3 => by rw [a1 a e1 e2 e3]; exact q.1 a e1 e2 e3, by rw [a2]; exact q.2.1, q.2.2.1, q.2.2.2⟩
theorem FR_M {c n : Int} {h0 g0 h g g' : pH} (q : FR c n h0 g0 h g) (a1 : ∀ a, a ≠ 248 → a ≠ 255 → a ≠ 256 → a ≠ 257 → g' a = g a) (a2 : ∀ k : Int, k ≠ 8 → k ≠ 9 → k ≠ 11 → k ≠ 12 → g' 248 k = g 248 k) : FR c n h0 g0 h g' :=
  ⟨q.1, q.2.1, fun a e1 e2 e3 e4 => by rw [a1 a e1 e2 e3 e4]; exact q.2.2.1 a e1 e2 e3 e4, fun k e1 e2 e3 e4 => by rw [a2 k e1 e2 e3 e4]; exact q.2.2.2 k e1 e2 e3 e4⟩
theorem UT_rng {U T : List Int} (hU : ∀ x, x ∈ U → unr x) (hT : ∀ x, x ∈ T → tok x) : ∀ x, x ∈ U ++ T → 0 ≤ x ∧ x ≤ 127 := by
  intro x hx
  have : tok x := by
    rcases List.mem_append.mp hx with w | w
    · exact Or.inl (hU x w)
    · exact hT x w
  have := tok_rng this
  omega
/-- a fault, at this character -/
theorem FF_of {sn : Int → Int} {c : Int} {tx : Int → Int} {n : Int} {h0 g0 h g : pH} {op nd k v : Int} (r : RR sn c tx n h0 g0 h g op nd k) (hk : k ≤ 60) (hv : v ≠ -1) : FF c n h0 g0 (pm_upd (pm_upd h c 10 0) c 5 v) (pm_upd g 248 12 v) := by
  obtain ⟨r1, r2, r3, r4, r5, r6, P, U, T, q1, q2, q3, q4, q5, q6, q7, q8, q9, q10, q11⟩ := r
  refine ⟨FR_wr _ (FR_fld 5 _ (by omega) (FR_fld 10 _ (by omega) r1)), ?_, ?_, P, U ++ T, CS_fld 5 _ (by omega) (by omega) (CS_fld 10 _ (by omega) (by omega) q1), ?_, UT_rng q3 q4⟩
  · rw [up_eq]; exact hv
  · rw [up_eq, up_eq]
  · rw [List.length_append]; omega
theorem FF_of2 {sn : Int → Int} {c : Int} {tx : Int → Int} {n : Int} {h0 g0 h g : pH} {op nd k v : Int} (r : RR sn c tx n h0 g0 h g op nd k) (hk : k ≤ 60) (hv : v ≠ -1) : FF c n h0 g0 (pm_upd h c 5 v) (pm_upd g 248 12 v) := by
  obtain ⟨r1, r2, r3, r4, r5, r6, P, U, T, q1, q2, q3, q4, q5, q6, q7, q8, q9, q10, q11⟩ := r
  refine ⟨FR_wr _ (FR_fld 5 _ (by omega) r1), ?_, ?_, P, U ++ T, CS_fld 5 _ (by omega) (by omega) q1, ?_, UT_rng q3 q4⟩
  · rw [up_eq]; exact hv
  · rw [up_eq, up_eq]
  · rw [List.length_append]; omega
theorem nb_un : ∀ (U T : List Int), (∀ x, x ∈ U → unr x) → nb (U ++ T) = nb T ∧ o4 (U ++ T) = o4 T
  | [], _, _ => ⟨rfl, rfl⟩
  | u :: U, T, h => by
    have ih := nb_un U T (fun x hx => h x (List.mem_cons_of_mem _ hx))
    have hu := h u (List.mem_cons_self ..)
    show nb (U ++ T) + _ = _ ∧ o4 (U ++ T) + _ = _
    rw [ih.1, ih.2]
    rcases hu with rfl | rfl
    · exact ⟨by simp, by simp⟩
    · exact ⟨by simp, by simp⟩
theorem okT_tl : ∀ (U T : List Int), okT (U ++ T) → okT T
  | [], _, h => h
  | _ :: U, T, h => okT_tl U T h.2
theorem auP_mem : ∀ (U P : List Int) (x : Int), x ∈ auP U P → x ∈ P ∨ -x ∈ U
  | [], _, _, h => Or.inl h
  | u :: U, P, x, h => by
    rcases auP_mem U (-u :: P) x h with w | w
    · rcases List.mem_cons.mp w with y | y
      · right; rw [y, Int.neg_neg]; exact List.mem_cons_self ..
      · exact Or.inl y
    · exact Or.inr (List.mem_cons_of_mem _ w)
/-- a unit read: v on the values -/
theorem RL_unit {sn : Int → Int} {c : Int} {h g : pH} {op k k' x v : Int} {P T : List Int} (hk : ((P.length + T.length : Nat) : Int) ≤ k) (hk' : k + 1 ≤ k') (hk60 : k ≤ 60) (hx : -126 ≤ x) (q1 : CS c h (x :: P) T) (q2 : MS g (ev sn P) T) (q4 : ∀ y, y ∈ T → tok y) (q5 : okT T) (q8 : ((ev sn P).length : Int) = nb T) (q9 : op = o4 T) (q11 : ∀ y, y ∈ P → -126 ≤ y) (hv : ev sn (x :: P) = v :: ev sn P) :
    P_X12_put v g ∧ RLs sn c h (H_X12_put v g) op 0 k' ∧ (∀ a, a ≠ 248 → a ≠ 255 → H_X12_put v g a = g a) ∧ (∀ k : Int, k ≠ 8 → k ≠ 9 → H_X12_put v g 248 k = g 248 k) := by
  have hel := ev_len sn P
  obtain ⟨p1, p2, p3, U, T', v', p4, p5, p6, p7, p8⟩ := MS_put (sn := sn) (v := v) q2 q4 (by omega) (by omega)
  have en := nb_un U T' p5
  have e := p8 (x :: P) _ hv
  refine ⟨p1, ⟨x :: P, U, T', ?_, ?_, p5, ?_, ?_, ?_, fun _ => p6, ?_, ?_, ?_, ?_⟩, p2, p3⟩
  · rw [← p4]; exact q1
  · rw [e]; exact p7
  · exact fun y hy => q4 y (by rw [p4]; exact List.mem_append_right _ hy)
  · rw [p4] at q5; exact okT_tl U T' q5
  · exact fun z => absurd z (by omega)
  · rw [e, ← en.1, ← p4, if_neg (by omega)]
    simp only [List.length_cons]; omega
  · rw [q9, p4]; exact en.2
  · rw [p4, List.length_append] at hk
    simp only [List.length_cons]; omega
  · intro y hy
    rcases List.mem_cons.mp hy with w | w
    · rw [w]; exact hx
    · exact q11 y w
