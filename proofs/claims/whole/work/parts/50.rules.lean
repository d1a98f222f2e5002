/-! The rules: rows as stacks, and the two machines that read a text. -/
noncomputable def stk (f : Int → Int) : List Int → Prop
  | [] => True
  | x :: l => f l.length = x ∧ stk f l
theorem stk_congr {f f' : Int → Int} : ∀ l : List Int, (∀ k : Int, 0 ≤ k → k < l.length → f' k = f k) → stk f l → stk f' l
  | [], _, _ => trivial
  | x :: l, e, h => by
    refine ⟨?_, stk_congr l (fun k h1 h2 => e k h1 (by simp only [List.length_cons]; omega)) h.2⟩
    rw [e _ (by omega) (by simp only [List.length_cons]; omega)]
    exact h.1
theorem stk_push {h : pH} {a : Int} {l : List Int} (n x : Int) (hn : n = l.length) (hs : stk (h a) l) : stk (pm_upd h a n x a) (x :: l) := by
  subst hn
  exact ⟨up_eq h a _ x, stk_congr l (fun k _ h2 => up_pl h (by omega)) hs⟩
theorem stk_app {f : Int → Int} {x : Int} {A : List Int} : ∀ B : List Int, stk f (B ++ x :: A) → f A.length = x
  | [], h => h.1
  | _ :: B, h => stk_app B h.2
theorem stk_tl {f : Int → Int} : ∀ B A : List Int, stk f (B ++ A) → stk f A
  | [], _, h => h
  | _ :: B, A, h => stk_tl B A h.2
/-- what joins, and how strongly: the heap counts for nothing -/
noncomputable def bd (x : Int) : Int := F_X9_binding x (fun _ _ => 0)
noncomputable def jn (c l r : Int) : Int := F_X9_joined c l r (fun _ _ => 0)
noncomputable def md (x : Int) : Int := if x = 33 then 6 else if x = 126 then 7 else if x = 40 then 0 else x
noncomputable def unr (x : Int) : Prop := x = 33 ∨ x = 126
noncomputable def opr (x : Int) : Prop := x = 124 ∨ x = 38 ∨ x = 60 ∨ x = 62 ∨ x = 61 ∨ x = 43 ∨ x = 45 ∨ x = 42 ∨ x = 47
noncomputable def tok (x : Int) : Prop := unr x ∨ x = 40 ∨ opr x
theorem bd_h (x : Int) (h : pH) : F_X9_binding x h = bd x := rfl
theorem bd_un {x : Int} (h : unr x) : bd x = 6 := by rcases h with rfl | rfl <;> rfl
theorem bd_40 : bd 40 = 0 := rfl
theorem bd_op {x : Int} (h : opr x) : 1 ≤ bd x ∧ bd x ≤ 5 ∧ F_X12_strength x (fun _ _ => 0) = bd x := by
  rcases h with rfl | rfl | rfl | rfl | rfl | rfl | rfl | rfl | rfl <;> decide
theorem sd_h (x : Int) (h : pH) : F_X12_strength x h = F_X12_strength x (fun _ _ => 0) := rfl
theorem md_op {x : Int} (h : opr x) : md x = x ∧ x ≠ 6 ∧ x ≠ 7 ∧ ¬ unr x ∧ x ≠ 40 := by
  unfold md unr
  rcases h with rfl | rfl | rfl | rfl | rfl | rfl | rfl | rfl | rfl <;> decide
theorem sd_un {x : Int} (h : unr x) : F_X12_strength (md x) (fun _ _ => 0) = 0 := by rcases h with rfl | rfl <;> rfl
theorem sd_40 : F_X12_strength (md 40) (fun _ _ => 0) = 0 := rfl
theorem wk_op {x : Int} (h : opr x) (l r : Int) (g : pH) : F_X12_worked x l r g = jn x l r := by
  rcases h with rfl | rfl | rfl | rfl | rfl | rfl | rfl | rfl | rfl <;> rfl
theorem opr_lo {x : Int} (h : opr x) : 33 < x ∧ x ≤ 124 ∧ x ≠ 33 ∧ x ≠ 126 := by
  rcases h with rfl | rfl | rfl | rfl | rfl | rfl | rfl | rfl | rfl <;> decide
theorem tok_rng {x : Int} (h : tok x) : 33 ≤ x ∧ x ≤ 126 := by
  rcases h with (rfl | rfl) | rfl | h
  · decide
  · decide
  · decide
  · have := opr_lo h; omega
/-- a step on the values -/
noncomputable def aps (sn : Int → Int) (x : Int) (S : List Int) : List Int :=
  if -6 ≤ x then (if x < 0 then sn (-1 - x) else x) :: S
  else if x = -33 then (match S with | v :: S' => (if v = 0 then 1 else 0) :: S' | [] => [])
  else if x = -126 then (match S with | v :: S' => pm_wl (-v) :: S' | [] => [])
  else match S with | r :: l :: S' => jn (-x) l r :: S' | S => S
noncomputable def ev (sn : Int → Int) : List Int → List Int
  | [] => []
  | x :: P => aps sn x (ev sn P)
theorem aps_len (sn : Int → Int) (x : Int) (S : List Int) : (aps sn x S).length ≤ S.length + 1 := by
  unfold aps
  split
  · simp
  · split
    · cases S <;> simp
    · split
      · cases S <;> simp
      · rcases S with _ | ⟨r, _ | ⟨l, S⟩⟩ <;> simp <;> omega
theorem ev_len (sn : Int → Int) : ∀ P : List Int, (ev sn P).length ≤ P.length
  | [] => Nat.le_refl _
  | x :: P => by
    have h1 := aps_len sn x (ev sn P)
    have h2 := ev_len sn P
    show (aps sn x (ev sn P)).length ≤ P.length + 1
    omega
theorem aps_op {sn : Int → Int} {x l r : Int} {S : List Int} (h : opr x) : aps sn (-x) (r :: l :: S) = jn x l r :: S := by
  have := opr_lo h
  unfold aps
  rw [if_neg (by omega), if_neg (by omega), if_neg (by omega)]
  simp only [Int.neg_neg]
theorem aps_33 {sn : Int → Int} {v : Int} {S : List Int} : aps sn (-33) (v :: S) = (if v = 0 then 1 else 0) :: S := by
  unfold aps
  rw [if_neg (by decide), if_pos rfl]
theorem aps_126 {sn : Int → Int} {v : Int} {S : List Int} : aps sn (-126) (v :: S) = pm_wl (-v) :: S := by
  unfold aps
  rw [if_neg (by decide), if_neg (by decide), if_pos rfl]
/-- the class's waiting ones are put -/
noncomputable def pw (s : Int) : List Int → List Int → List Int × List Int
  | [], P => (P, [])
  | x :: W, P => if s ≤ bd x then pw s W (-x :: P) else (P, x :: W)
noncomputable def auP : List Int → List Int → List Int
  | [], P => P
  | u :: U, P => auP U (-u :: P)
theorem auP_len : ∀ U P : List Int, (auP U P).length = U.length + P.length
  | [], P => by simp [auP]
  | u :: U, P => by
    show (auP U (-u :: P)).length = _
    rw [auP_len U]
    simp only [List.length_cons]; omega
theorem pw_un {s : Int} (hs : s ≤ 6) : ∀ (U T P : List Int), (∀ x, x ∈ U → unr x) → pw s (U ++ T) P = pw s T (auP U P)
  | [], _, _, _ => rfl
  | u :: U, T, P, h => by
    show (if s ≤ bd u then pw s (U ++ T) (-u :: P) else _) = _
    rw [bd_un (h u (List.mem_cons_self ..)), if_pos hs, pw_un hs U T (-u :: P) (fun x hx => h x (List.mem_cons_of_mem _ hx))]
    rfl
noncomputable def nb : List Int → Int
  | [] => 0
  | x :: T => nb T + (if x = 33 ∨ x = 126 ∨ x = 40 then 0 else 1)
noncomputable def o4 : List Int → Int
  | [] => 0
  | x :: T => o4 T + (if x = 40 then 1 else 0)
theorem nb_nn : ∀ T : List Int, 0 ≤ nb T
  | [] => Int.le_refl _
  | x :: T => by
    have := nb_nn T
    unfold nb
    split <;> omega
theorem o4_nn : ∀ T : List Int, 0 ≤ o4 T
  | [] => Int.le_refl _
  | x :: T => by
    have := o4_nn T
    unfold o4
    split <;> omega
noncomputable def ntu : List Int → Prop
  | [] => True
  | x :: _ => ¬ unr x
noncomputable def okT : List Int → Prop
  | [] => True
  | x :: T => (opr x → ntu T) ∧ okT T
theorem nb_op {x : Int} {T : List Int} (h : opr x) : nb (x :: T) = nb T + 1 := by
  have := md_op h
  show nb T + (if x = 33 ∨ x = 126 ∨ x = 40 then 0 else 1) = nb T + 1
  rw [if_neg]
  intro q
  rcases q with q | q | q
  · exact this.2.2.2.1 (Or.inl q)
  · exact this.2.2.2.1 (Or.inr q)
  · exact this.2.2.2.2 q
theorem o4_op {x : Int} {T : List Int} (h : opr x) : o4 (x :: T) = o4 T := by
  have := md_op h
  show o4 T + (if x = 40 then 1 else 0) = o4 T
  rw [if_neg this.2.2.2.2]; omega
/-- the model's reducing, over the class's signs -/
noncomputable def rd (s : Int) : List Int → List Int → List Int × List Int
  | [], V => (V, [])
  | x :: T, V => if s ≤ F_X12_strength (md x) (fun _ _ => 0) then (match V with | r :: l :: V' => rd s T (jn x l r :: V') | V => rd s T V) else (V, x :: T)
theorem pw_rd {sn : Int → Int} {s : Int} (h1 : 1 ≤ s) : ∀ (T P : List Int), (∀ x, x ∈ T → tok x) → okT T → ntu T → ((ev sn P).length : Int) = nb T + 1 →
    (pw s T P).2 = (rd s T (ev sn P)).2 ∧ ev sn (pw s T P).1 = (rd s T (ev sn P)).1 ∧ okT (pw s T P).2 ∧ ntu (pw s T P).2 ∧ (((ev sn (pw s T P).1).length : Int) = nb (pw s T P).2 + 1) ∧ o4 (pw s T P).2 = o4 T ∧ (∀ x, x ∈ (pw s T P).2 → tok x) ∧
      (pw s T P).1.length + (pw s T P).2.length = P.length + T.length ∧ (∀ x, x ∈ (pw s T P).2 → x ∈ T) ∧ (∀ x, x ∈ (pw s T P).1 → x ∈ P ∨ -x ∈ T) ∧ (∀ x R, (pw s T P).2 = x :: R → bd x < s)
  | [], P, ht, _, _, hl => ⟨rfl, rfl, trivial, trivial, hl, rfl, ht, rfl, fun _ h => h, fun _ h => Or.inl h, fun x R e => absurd e (by intro q; exact List.cons_ne_nil _ _ q.symm)⟩
  | x :: T, P, ht, ho, hn, hl => by
    by_cases c : s ≤ bd x
    · have hop : opr x := by
        rcases ht x (List.mem_cons_self ..) with q | q | q
        · exact absurd q hn
        · subst q
          have := bd_40
          omega
        · exact q
      have b := bd_op hop
      obtain ⟨r, l, V, hV⟩ : ∃ r l V, ev sn P = r :: l :: V := by
        rw [nb_op hop] at hl
        have := nb_nn T
        rcases e : ev sn P with _ | ⟨r, _ | ⟨l, V⟩⟩
        · rw [e] at hl; simp only [List.length_nil] at hl; omega
        · rw [e] at hl; simp only [List.length_cons, List.length_nil] at hl; omega
        · exact ⟨r, l, V, rfl⟩
      have hev : ev sn (-x :: P) = jn x l r :: V := by
        show aps sn (-x) (ev sn P) = _
        rw [hV, aps_op hop]
      have ih := pw_rd h1 T (-x :: P) (fun y hy => ht y (List.mem_cons_of_mem _ hy)) ho.2 (ho.1 hop) (by
        rw [hev]
        rw [nb_op hop, hV] at hl
        simp only [List.length_cons] at hl ⊢
        omega)
      have e1 : pw s (x :: T) P = pw s T (-x :: P) := if_pos c
      have e2 : rd s (x :: T) (ev sn P) = rd s T (ev sn (-x :: P)) := by
        rw [hev, hV]
        show (if _ then _ else _) = _
        rw [(md_op hop).1, if_pos (by omega)]
      rw [e1, e2, o4_op hop]
      refine ⟨ih.1, ih.2.1, ih.2.2.1, ih.2.2.2.1, ih.2.2.2.2.1, ih.2.2.2.2.2.1, ih.2.2.2.2.2.2.1, ?_, fun y hy => List.mem_cons_of_mem _ (ih.2.2.2.2.2.2.2.2.1 y hy), fun y hy => ?_, ih.2.2.2.2.2.2.2.2.2.2⟩
      · have := ih.2.2.2.2.2.2.2.1
        simp only [List.length_cons] at this ⊢
        omega
      · rcases ih.2.2.2.2.2.2.2.2.2.1 y hy with q | q
        · rcases List.mem_cons.mp q with q | q
          · right; rw [q, Int.neg_neg]; exact List.mem_cons_self ..
          · exact Or.inl q
        · exact Or.inr (List.mem_cons_of_mem _ q)
    · have e1 : pw s (x :: T) P = (P, x :: T) := if_neg c
      have e2 : rd s (x :: T) (ev sn P) = (ev sn P, x :: T) := by
        refine if_neg ?_
        rcases ht x (List.mem_cons_self ..) with q | q | q
        · exact absurd q hn
        · subst q; rw [sd_40]; omega
        · rw [(md_op q).1, (bd_op q).2.2]; exact c
      rw [e1, e2]
      exact ⟨rfl, rfl, ho, hn, hl, rfl, ht, rfl, fun _ h => h, fun _ h => Or.inl h, fun y R e => by have := (List.cons.inj e).1; subst this; omega⟩
/-- the class's rows -/
noncomputable def CS (c : Int) (h : pH) (P W : List Int) : Prop := stk (h (c + 2)) P ∧ h c 6 = P.length ∧ stk (h (c + 3)) W ∧ h c 7 = W.length
theorem CS_fld {c : Int} {h : pH} {P W : List Int} (k v : Int) (h6 : k ≠ 6) (h7 : k ≠ 7) (q : CS c h P W) : CS c (pm_upd h c k v) P W := by
  obtain ⟨q1, q2, q3, q4⟩ := q
  refine ⟨?_, ?_, ?_, ?_⟩
  · rw [up_cell _ (by omega)]; exact q1
  · rw [up_pl _ (by omega)]; exact q2
  · rw [up_cell _ (by omega)]; exact q3
  · rw [up_pl _ (by omega)]; exact q4
theorem CS_put {c x : Int} {h : pH} {P W : List Int} (q : CS c h P W) (hl : P.length < 60) : P_X9_put c x h ∧ CS c (H_X9_put c x h) (x :: P) W ∧ (∀ a, a ≠ c → a ≠ c + 2 → H_X9_put c x h a = h a) ∧ (∀ k : Int, k ≠ 6 → H_X9_put c x h c k = h c k) := by
  obtain ⟨q1, q2, q3, q4⟩ := q
  have e : H_X9_put c x h = pm_upd (pm_upd h (c + 2) (h c 6) x) c 6 (h c 6 + 1) := by
    unfold H_X9_put s_X9_put_1
    rw [if_neg (by omega), up_cell h (show c ≠ c + 2 by omega)]
  refine ⟨?_, ?_, ?_, ?_⟩
  · unfold P_X9_put fx_i
    intro _
    rw [up_cell h (show c ≠ c + 2 by omega)]
    omega
  · rw [e]
    refine ⟨?_, ?_, ?_, ?_⟩
    · rw [up_cell _ (by omega)]; exact stk_push _ _ q2 q1
    · rw [up_eq, q2]; simp only [List.length_cons]; omega
    · rw [up_cell _ (by omega), up_cell _ (by omega)]; exact q3
    · rw [up_pl _ (by omega), up_cell _ (by omega)]; exact q4
  · intro a e1 e2; rw [e, up_cell _ e1, up_cell _ e2]
  · intro k e1; rw [e, up_pl _ e1, up_cell _ (by omega)]
theorem CS_await {c x : Int} {h : pH} {P W : List Int} (q : CS c h P W) (hl : W.length < 60) : P_X9_await c x h ∧ CS c (H_X9_await c x h) P (x :: W) ∧ (∀ a, a ≠ c → a ≠ c + 3 → H_X9_await c x h a = h a) ∧ (∀ k : Int, k ≠ 7 → H_X9_await c x h c k = h c k) := by
  obtain ⟨q1, q2, q3, q4⟩ := q
  have e : H_X9_await c x h = pm_upd (pm_upd h (c + 3) (h c 7) x) c 7 (h c 7 + 1) := by
    unfold H_X9_await s_X9_await_1
    rw [if_neg (by omega), up_cell h (show c ≠ c + 3 by omega)]
  refine ⟨?_, ?_, ?_, ?_⟩
  · unfold P_X9_await fx_i
    intro _
    rw [up_cell h (show c ≠ c + 3 by omega)]
    omega
  · rw [e]
    refine ⟨?_, ?_, ?_, ?_⟩
    · rw [up_cell _ (by omega), up_cell _ (by omega)]; exact q1
    · rw [up_pl _ (by omega), up_cell _ (by omega)]; exact q2
    · rw [up_cell _ (by omega)]; exact stk_push _ _ q4 q3
    · rw [up_eq, q4]; simp only [List.length_cons]; omega
  · intro a e1 e2; rw [e, up_cell _ e1, up_cell _ e2]
  · intro k e1; rw [e, up_pl _ e1, up_cell _ (by omega)]
theorem CS_pw {c s : Int} : ∀ (W P : List Int) (h : pH), CS c h P W → P.length + W.length ≤ 60 → (∀ x, x ∈ W → 0 ≤ x ∧ x ≤ 127) →
    P_X9_putWaiting c s h ∧ CS c (H_X9_putWaiting c s h) (pw s W P).1 (pw s W P).2 ∧ (∀ a, a ≠ c → a ≠ c + 2 → H_X9_putWaiting c s h a = h a) ∧ (∀ k : Int, k ≠ 6 → k ≠ 7 → H_X9_putWaiting c s h c k = h c k)
  | [], P, h, q, _, _ => by
    have q4 := q.2.2.2
    have F := fx_un_f (c := fun t => C_X9_putWaiting_0 c s t) (f := fun t => B_X9_putWaiting_0 c s t) (P := fun t => P_X9_putWaiting_0 c s t) (s := h)
      (by
        show P_X9_putWaiting_0 c s h
        unfold P_X9_putWaiting_0
        simp only [List.length_nil] at q4
        exact ⟨fun z => by omega, fun z => by omega⟩)
      (by
        show ¬ C_X9_putWaiting_0 c s h
        unfold C_X9_putWaiting_0
        simp only [List.length_nil] at q4
        omega)
    have e : H_X9_putWaiting c s h = h := F.2
    refine ⟨F.1, ?_, ?_, ?_⟩
    · rw [e]; exact q
    · intro a _ _; rw [e]
    · intro k _ _; rw [e]
  | x :: W, P, h, q, hl, hw => by
    have q0 := q
    obtain ⟨q1, q2, q3, q4⟩ := q
    simp only [List.length_cons] at q4 hl
    have hx := hw x (List.mem_cons_self ..)
    have ex : h (c + 3) (h c 7 - 1) = x := by
      rw [show h c 7 - 1 = (W.length : Int) by omega]; exact q3.1
    have hput := CS_put (x := -x) (W := x :: W) q0 (by omega)
    have hP : P_X9_putWaiting_0 c s h := by
      unfold P_X9_putWaiting_0
      rw [ex]
      refine ⟨fun _ => ⟨by unfold fx_i; omega, by omega, by omega⟩, fun _ => ⟨by unfold fx_i; omega, ⟨by omega, by omega⟩, by unfold fx_i; omega, hput.1, ?_⟩⟩
      rw [hput.2.2.2 7 (by omega)]
      unfold fx_i; omega
    by_cases cc : s ≤ bd x
    · have eB : B_X9_putWaiting_0 c s h = pm_upd (H_X9_put c (-x) h) c 7 (h c 7 - 1) := by
        unfold B_X9_putWaiting_0 s_X9_putWaiting_1
        rw [ex, hput.2.2.2 7 (by omega)]
      have qn : CS c (pm_upd (H_X9_put c (-x) h) c 7 (h c 7 - 1)) (-x :: P) W := by
        obtain ⟨r1, r2, r3, r4⟩ := hput.2.1
        refine ⟨?_, ?_, ?_, ?_⟩
        · rw [up_cell _ (by omega)]; exact r1
        · rw [up_pl _ (by omega)]; exact r2
        · rw [up_cell _ (by omega)]; exact r3.2
        · rw [up_eq]; omega
      have ih := CS_pw (c := c) (s := s) W (-x :: P) _ qn (by simp only [List.length_cons]; omega) (fun y hy => hw y (List.mem_cons_of_mem _ hy))
      have F := fx_un_t (c := fun t => C_X9_putWaiting_0 c s t) (f := fun t => B_X9_putWaiting_0 c s t) (P := fun t => P_X9_putWaiting_0 c s t) (s := h) hP
        (by
          show C_X9_putWaiting_0 c s h
          unfold C_X9_putWaiting_0
          rw [ex]
          exact ⟨by omega, cc⟩)
        (by rw [eB]; exact ih.1)
      have e : H_X9_putWaiting c s h = H_X9_putWaiting c s (pm_upd (H_X9_put c (-x) h) c 7 (h c 7 - 1)) := by
        have := F.2
        rw [eB] at this
        exact this
      refine ⟨F.1, ?_, ?_, ?_⟩
      · rw [e, show pw s (x :: W) P = pw s W (-x :: P) from if_pos cc]; exact ih.2.1
      · intro a e1 e2; rw [e, ih.2.2.1 a e1 e2, up_cell _ e1, hput.2.2.1 a e1 e2]
      · intro k e1 e2; rw [e, ih.2.2.2 k e1 e2, up_pl _ e2, hput.2.2.2 k e1]
    · have F := fx_un_f (c := fun t => C_X9_putWaiting_0 c s t) (f := fun t => B_X9_putWaiting_0 c s t) (P := fun t => P_X9_putWaiting_0 c s t) (s := h) hP
        (by
          show ¬ C_X9_putWaiting_0 c s h
          unfold C_X9_putWaiting_0
          rw [ex]
          exact fun z => cc z.2)
      have e : H_X9_putWaiting c s h = h := F.2
      refine ⟨F.1, ?_, ?_, ?_⟩
      · rw [e, show pw s (x :: W) P = (P, x :: W) from if_neg cc]; exact q0
      · intro a _ _; rw [e]
      · intro k _ _; rw [e]
