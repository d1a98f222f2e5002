/-! OTHER. -/
theorem brt (v M : Int) (hM : 0 ≤ M) : s_X12_brought_1 v 0 M = fx_max 0 (fx_min v M) ∧ 0 ≤ fx_max 0 (fx_min v M) ∧ fx_max 0 (fx_min v M) ≤ M := by
  unfold s_X12_brought_1 fx_max fx_min
  refine ⟨?_, ?_, ?_⟩ <;> (repeat' split) <;> omega
theorem aims_M (a1 a2 a3 a4 y5 : Int) (g : pH) (hr : ∀ c : Int, 0 ≤ c → c < 12 → 0 ≤ g 249 (44 + c) ∧ g 249 (44 + c) ≤ 5000) (h2 : -100000 ≤ a2 ∧ a2 ≤ 100000) :
    O_X12_other_148 a1 a2 a3 a4 y5 0 g ∧ (∀ a, a ≠ 249 → (L_X12_other_148 a1 a2 a3 a4 y5 0 g).2 a = g a) ∧ ∀ k : Int, (L_X12_other_148 a1 a2 a3 a4 y5 0 g).2 249 k = if (44 ≤ k ∧ k < 56) ∧ a1 = 3 then fx_max 0 (fx_min (g 249 k + a2) 5000) else g 249 k := by
  have key := fx_rule (σ := Int × pH) (c := fun s => C_X12_other_148 a1 a2 a3 a4 y5 s.1 s.2) (f := fun s => B_X12_other_148 a1 a2 a3 a4 y5 s.1 s.2) (P := fun s => P_X12_other_148 a1 a2 a3 a4 y5 s.1 s.2) (s0 := (0, g)) 12
    (fun i s => i ≤ 12 ∧ s.1 = (i : Int) ∧ (∀ a, a ≠ 249 → s.2 a = g a) ∧ ∀ k : Int, s.2 249 k = if (44 ≤ k ∧ k < 44 + i) ∧ a1 = 3 then fx_max 0 (fx_min (g 249 k + a2) 5000) else g 249 k)
    ⟨by omega, rfl, fun _ _ => rfl, fun k => by rw [if_neg (by omega)]⟩
    (by
      rintro i ⟨x, hh⟩ hi ⟨i0, e1, e2, e3⟩
      dsimp only at e1 e2 e3
      subst e1
      have e4 : hh 249 (44 + (i : Int)) = g 249 (44 + i) := by rw [e3, if_neg (by omega)]
      have r := hr i (by omega) (by omega)
      refine ⟨fun _ => ?_, by show (i : Int) < 12; omega, by omega, by show (i : Int) + 1 = _; omega, fun a e => ?_, fun k => ?_⟩
      · show (fx_i (44 + (i : Int))) ∧ ((a1 = 3 → (0 ≤ 44 + (i : Int) ∧ 44 + (i : Int) < 620) ∧ fx_l (hh 249 (44 + (i : Int)) + a2)) ∧ (¬ a1 = 3 → (0 ≤ 44 + (i : Int) ∧ 44 + (i : Int) < 620))) ∧ (0 ≤ 44 + (i : Int) ∧ 44 + (i : Int) < 620) ∧ fx_i ((i : Int) + 1)
        rw [e4]
        unfold fx_i fx_l
        omega
      · show pm_upd hh 249 (44 + (i : Int)) _ a = _
        rw [up_cell _ e]; exact e2 a e
      · show pm_upd hh 249 (44 + (i : Int)) (s_X12_other_10 a1 a2 i hh) 249 k = _
        unfold s_X12_other_10
        rw [up_app, e4, (brt (g 249 (44 + i) + a2) 5000 (by omega)).1]
        by_cases y : k = 44 + i
        · rw [if_pos ⟨rfl, y⟩, y]
          by_cases z : a1 = 3
          · rw [if_pos z, if_pos ⟨by omega, z⟩]
          · rw [if_neg z, if_neg (fun w => z w.2)]
        · rw [if_neg (fun w => y w.2), e3]
          by_cases z : (44 ≤ k ∧ k < 44 + (i : Int)) ∧ a1 = 3
          · rw [if_pos z, if_pos ⟨by omega, z.2⟩]
          · rw [if_neg z, if_neg (fun w => z ⟨by omega, w.2⟩)])
    (by
      rintro ⟨x, hh⟩ ⟨i0, e1, e2, e3⟩
      dsimp only at e1
      subst e1
      exact ⟨fun z => by have z' : ((12 : Nat) : Int) < 12 := z; omega, by show ¬ (((12 : Nat) : Int) < 12); omega⟩)
  exact ⟨key.1, key.2.2.2.1, fun k => by
    have := key.2.2.2.2 k
    rw [show (44 : Int) + ((12 : Nat) : Int) = 56 by omega] at this
    exact this⟩
theorem aims_X (a v : Int) (h : pH) (hr : ∀ c : Int, 0 ≤ c → c < 12 → 0 ≤ h (a + 3) c ∧ h (a + 3) c ≤ 5000) (h2 : -100000 ≤ v ∧ v ≤ 100000) :
    P_X0_moveAims a v h ∧ (∀ a', a' ≠ a + 3 → H_X0_moveAims a v h a' = h a') ∧ ∀ c : Int, 0 ≤ c → c < 12 → H_X0_moveAims a v h (a + 3) c = fx_max 0 (fx_min (h (a + 3) c + v) 5000) := by
  have key := fx_rule (σ := Int × pH) (c := fun s => C_X0_moveAims_2 a v s.1 s.2) (f := fun s => B_X0_moveAims_2 a v s.1 s.2) (P := fun s => P_X0_moveAims_2 a v s.1 s.2) (s0 := (0, h)) 12
    (fun i s => i ≤ 12 ∧ s.1 = (i : Int) ∧ (∀ a', a' ≠ a + 3 → s.2 a' = h a') ∧ ∀ k : Int, 0 ≤ k → s.2 (a + 3) k = if k < i then fx_max 0 (fx_min (h (a + 3) k + v) 5000) else h (a + 3) k)
    ⟨by omega, rfl, fun _ _ => rfl, fun k e => by rw [if_neg (by omega)]⟩
    (by
      rintro i ⟨x, hh⟩ hi ⟨i0, e1, e2, e3⟩
      dsimp only at e1 e2 e3
      subst e1
      have e4 : hh (a + 3) (i : Int) = h (a + 3) i := by rw [e3 i (by omega), if_neg (by omega)]
      have r := hr i (by omega) (by omega)
      refine ⟨fun _ => ?_, by show (i : Int) < 12; omega, by omega, by show (i : Int) + 1 = _; omega, fun a' e => ?_, fun k k0 => ?_⟩
      · show (0 ≤ (i : Int) ∧ (i : Int) < 12) ∧ fx_i (hh (a + 3) (i : Int) + v) ∧ fx_i ((i : Int) + 1)
        rw [e4]
        unfold fx_i
        omega
      · show pm_upd hh (a + 3) (i : Int) _ a' = _
        rw [up_cell _ e]; exact e2 a' e
      · show pm_upd hh (a + 3) (i : Int) (fx_max 0 (fx_min (hh (a + 3) (i : Int) + v) 5000)) (a + 3) k = _
        rw [up_app, e4]
        by_cases y : k = i
        · rw [if_pos ⟨rfl, y⟩, y, if_pos (by omega)]
        · rw [if_neg (fun w => y w.2), e3 k k0]
          by_cases z : k < (i : Int)
          · rw [if_pos z, if_pos (by omega)]
          · rw [if_neg z, if_neg (by omega)])
    (by
      rintro ⟨x, hh⟩ ⟨i0, e1, e2, e3⟩
      dsimp only at e1
      subst e1
      exact ⟨fun z => by have z' : ((12 : Nat) : Int) < 12 := z; omega, by show ¬ (((12 : Nat) : Int) < 12); omega⟩)
  exact ⟨key.1, key.2.2.2.1, fun k k1 k2 => by
    have := key.2.2.2.2 k k1
    rw [if_pos (by omega)] at this
    exact this⟩
noncomputable def orow (z : Int → Int) (a1 a2 k : Int) : Int := if k = 0 then (if a1 = 0 then fx_max 0 (fx_min (z 0 + a2) 500) else z 0) else if k = 3 then (if a1 = 1 then fx_max 0 (fx_min (z 3 + a2) 100000) else z 3) else if k = 2 then (if a1 = 2 then fx_max 0 (fx_min (z 2 + a2) 200) else z 2) else if (44 ≤ k ∧ k < 56) ∧ a1 = 3 then fx_max 0 (fx_min (z k + a2) 5000) else if k = 5 then (if a1 = 4 then fx_max 0 (fx_min (z 5 + a2) 10000) else z 5) else z k
theorem orow_0 (z : Int → Int) (a2 k : Int) : orow z 0 a2 k = if (249 : Int) = 249 ∧ k = 0 then fx_max 0 (fx_min (z 0 + a2) 500) else z k := by unfold orow; grind
theorem orow_1 (z : Int → Int) (a2 k : Int) : orow z 1 a2 k = if (249 : Int) = 249 ∧ k = 3 then fx_max 0 (fx_min (z 3 + a2) 100000) else z k := by unfold orow; grind
theorem orow_2 (z : Int → Int) (a2 k : Int) : orow z 2 a2 k = if (249 : Int) = 249 ∧ k = 2 then fx_max 0 (fx_min (z 2 + a2) 200) else z k := by unfold orow; grind
theorem orow_3 (z : Int → Int) (a2 k : Int) : orow z 3 a2 k = if 44 ≤ k ∧ k < 56 then fx_max 0 (fx_min (z k + a2) 5000) else z k := by unfold orow; grind
theorem orow_4 (z : Int → Int) (a2 k : Int) : orow z 4 a2 k = if (249 : Int) = 249 ∧ k = 5 then fx_max 0 (fx_min (z 5 + a2) 10000) else z k := by unfold orow; grind
theorem orow_5 (z : Int → Int) (a2 k : Int) : orow z 5 a2 k = z k := by unfold orow; grind
theorem orow_far (z : Int → Int) (a1 a2 k : Int) (h : 56 ≤ k) : orow z a1 a2 k = z k := by unfold orow; grind
theorem orow_mk (z : Int → Int) (a1 a2 k : Int) (s5 s7 s9 s12 : Int → Int) (h5 : ∀ k, s5 k = if k = 0 then (if a1 = 0 then fx_max 0 (fx_min (z 0 + a2) 500) else z 0) else z k) (h7 : ∀ k, s7 k = if k = 3 then (if a1 = 1 then fx_max 0 (fx_min (z 3 + a2) 100000) else z 3) else s5 k)
    (h9 : ∀ k, s9 k = if k = 2 then (if a1 = 2 then fx_max 0 (fx_min (z 2 + a2) 200) else z 2) else s7 k) (h12 : ∀ k, s12 k = if (44 ≤ k ∧ k < 56) ∧ a1 = 3 then fx_max 0 (fx_min (s9 k + a2) 5000) else s9 k) :
    (if (249 : Int) = 249 ∧ k = 5 then (if a1 = 4 then fx_max 0 (fx_min (z 5 + a2) 10000) else z 5) else s12 k) = orow z a1 a2 k := by
  have e5 := h5 k
  have e7 := h7 k
  have e9 := h9 k
  have e12 := h12 k
  clear h5 h7 h9 h12
  unfold orow
  grind
/-- one thing other, on trial -/
theorem mk_other {h g : pH} {nm nw : Nat} {T a1 a2 : Int} (q : hl 47 h (g 249) nm nw T) (c1 : 0 ≤ a1 ∧ a1 ≤ 4) (c2 : -100000 ≤ a2 ∧ a2 ≤ 100000) {z' : Int → Int}
    (e : ∀ k : Int, 0 ≤ k → k < 620 → z' k = orow (g 249) a1 a2 k) :
    P_X4_makeOther 47 a1 a2 h ∧ hl 47 (H_X4_makeOther 47 a1 a2 h) z' nm nw T ∧ ∀ a, (a < 47 ∨ 93 ≤ a) → H_X4_makeOther 47 a1 a2 h a = h a := by
  obtain ⟨⟨a0, a01, a02, a8, ac, ak⟩, b0, b0', b1, b1', b2, b2', b8, b8', bc, bk⟩ := id q.1
  obtain ⟨⟨u1, u2, u3, u4, u5, u6, u7, u8⟩, h17, ⟨y1, y2, y3, y4, y5, y6, y7, y8, y9, y10, y11, y12, y13⟩, y17, y17'⟩ := id q.2.2.1
  unfold P_X4_makeOther H_X4_makeOther s_X4_makeOther_5
  have w : a1 = 0 ∨ a1 = 1 ∨ a1 = 2 ∨ a1 = 3 ∨ a1 = 4 := by omega
  rcases w with w | w | w | w | w
  · rw [if_pos w]
    unfold s_X4_makeOther_1
    have B := brt (g 249 0 + a2) 500 (by omega)
    rw [a0]
    refine ⟨⟨fun _ => by unfold fx_i; omega, fun z => absurd w z⟩, hl_cg (hl_out q B.2) (fun _ _ _ => rfl) (fun k k1 k2 => ?_), fun a e => up_cell _ (by omega)⟩
    rw [e k k1 k2, up_app, w, orow_0]
  · rw [if_neg (show ¬ a1 = 0 by omega), if_pos w]
    unfold s_X4_makeOther_2
    have B := brt (g 249 3 + a2) 100000 (by omega)
    rw [u1]
    refine ⟨⟨fun z => by omega, fun _ => ⟨fun _ => by unfold fx_i; omega, fun z => absurd w z⟩⟩, hl_cg (hl_net q B.2) (fun _ _ _ => rfl) (fun k k1 k2 => ?_), fun a e => up_cell _ (by omega)⟩
    rw [e k k1 k2, up_app, w, orow_1]
  · rw [if_neg (show ¬ a1 = 0 by omega), if_neg (show ¬ a1 = 1 by omega), if_pos w]
    unfold s_X4_makeOther_3
    have B := brt (g 249 2 + a2) 200 (by omega)
    rw [a02]
    refine ⟨⟨fun z => by omega, fun _ => ⟨fun z => by omega, fun _ => ⟨fun _ => by unfold fx_i; omega, fun z => absurd w z⟩⟩⟩, hl_cg (hl_flow q B.2) (fun _ _ _ => rfl) (fun k k1 k2 => ?_), fun a e => up_cell _ (by omega)⟩
    rw [e k k1 k2, up_app, w, orow_2]
  · rw [if_neg (show ¬ a1 = 0 by omega), if_neg (show ¬ a1 = 1 by omega), if_neg (show ¬ a1 = 2 by omega), if_pos w]
    obtain ⟨x1, x2, x3⟩ := aims_X (47 + 1) a2 h (fun c e1 e2 => by rw [show (47 : Int) + 1 + 3 = 47 + 4 by omega, (ac c e1 e2).2.2]; have := bc c e1 e2; exact ⟨this.2.2.2.2.1, this.2.2.2.2.2⟩) c2
    have x2 : ∀ a, a ≠ 51 → H_X0_moveAims (47 + 1) a2 h a = h a := fun a ea => x2 a (by omega)
    have x3 : ∀ c : Int, 0 ≤ c → c < 12 → H_X0_moveAims (47 + 1) a2 h 51 c = fx_max 0 (fx_min (h 51 c + a2) 5000) := x3
    have ez : ∀ k : Int, 0 ≤ k → k < 620 → z' k = if 44 ≤ k ∧ k < 56 then fx_max 0 (fx_min (g 249 k + a2) 5000) else g 249 k := fun k k1 k2 => by rw [e k k1 k2, w, orow_3]
    -- the row outside 0 .. 619 doesn't count
    obtain ⟨zr, ezr⟩ : ∃ zr : Int → Int, ∀ k, zr k = if 44 ≤ k ∧ k < 56 then fx_max 0 (fx_min (g 249 k + a2) 5000) else g 249 k := ⟨_, fun k => rfl⟩
    have q' : hl 47 (H_X0_moveAims (47 + 1) a2 h) zr nm nw T := by
      refine hl_A q ⟨⟨?_, ?_, ?_, ?_, fun c e1 e2 => ?_, fun k e1 e2 => ?_⟩, ?_, ?_, ?_, ?_, ?_, ?_, ?_, ?_, fun c e1 e2 => ?_, fun k e1 e2 => ?_⟩ (fun a e => x2 a (by omega)) (fun k e => by rw [ezr, if_neg (by omega)])
      · rw [x2 _ (by omega), ezr, if_neg (by omega)]; exact a0
      · rw [x2 _ (by omega), ezr, if_neg (by omega)]; exact a01
      · rw [x2 _ (by omega), ezr, if_neg (by omega)]; exact a02
      · rw [x2 _ (by omega), ezr, if_neg (by omega)]; exact a8
      · have := ac c e1 e2
        refine ⟨?_, ?_, ?_⟩
        · rw [x2 _ (by omega), ezr, if_neg (by omega)]; exact this.1
        · rw [x2 _ (by omega), ezr, if_neg (by omega)]; exact this.2.1
        · show H_X0_moveAims (47 + 1) a2 h 51 c = _
          rw [ezr, if_pos (by omega), x3 c e1 e2, show h 51 c = g 249 (44 + c) from this.2.2]
      · rw [x2 _ (by omega), ezr, if_neg (by omega)]; exact ak k e1 e2
      · rw [ezr, if_neg (by omega)]; exact b0
      · rw [ezr, if_neg (by omega)]; exact b0'
      · rw [ezr, if_neg (by omega)]; exact b1
      · rw [ezr, if_neg (by omega)]; exact b1'
      · rw [ezr, if_neg (by omega)]; exact b2
      · rw [ezr, if_neg (by omega)]; exact b2'
      · rw [ezr, if_neg (by omega)]; exact b8
      · rw [ezr, if_neg (by omega)]; exact b8'
      · have := bc c e1 e2
        have B := brt (g 249 (44 + c) + a2) 5000 (by omega)
        rw [ezr (20 + c), ezr (32 + c), ezr (44 + c), if_neg (show ¬ (44 ≤ 20 + c ∧ 20 + c < 56) by omega), if_neg (show ¬ (44 ≤ 32 + c ∧ 32 + c < 56) by omega), if_pos (show 44 ≤ 44 + c ∧ 44 + c < 56 by omega)]
        exact ⟨this.1, this.2.1, this.2.2.1, this.2.2.2.1, B.2.1, B.2.2⟩
      · rw [ezr, if_neg (by omega)]; exact bk k e1 e2
    exact ⟨⟨fun z => by omega, fun _ => ⟨fun z => by omega, fun _ => ⟨fun z => by omega, fun _ => ⟨fun _ => x1, fun z => absurd w z⟩⟩⟩⟩, hl_cg q' (fun _ _ _ => rfl) (fun k k1 k2 => by rw [ez k k1 k2, ezr]), fun a e => x2 a (by omega)⟩
  · rw [if_neg (show ¬ a1 = 0 by omega), if_neg (show ¬ a1 = 1 by omega), if_neg (show ¬ a1 = 2 by omega), if_neg (show ¬ a1 = 3 by omega), if_pos w]
    unfold s_X4_makeOther_4
    have B := brt (g 249 5 + a2) 10000 (by omega)
    rw [u3]
    refine ⟨⟨fun z => by omega, fun _ => ⟨fun z => by omega, fun _ => ⟨fun z => by omega, fun _ => ⟨fun z => by omega, fun _ => ⟨fun _ => by unfold fx_i; omega, fun z => absurd w z⟩⟩⟩⟩⟩, hl_cg (hl_rate q B.2) (fun _ _ _ => rfl) (fun k k1 k2 => ?_), fun a e => up_cell _ (by omega)⟩
    rw [e k k1 k2, up_app, w, orow_4]
theorem m_other {h g : pH} (al : AL h g) (a1 a2 a3 a4 : Int) : P_X11_other a1 a2 a3 a4 h ∧ P_X12_other a1 a2 a3 a4 g ∧ F_X11_other a1 a2 a3 a4 h = F_X12_other a1 a2 a3 a4 g ∧ RET h g (H_X11_other a1 a2 a3 a4 h) (H_X12_other a1 a2 a3 a4 g) := by
  obtain ⟨⟨nm, nw, q, n9⟩, ai, ab, ad⟩ := id al
  have d16 := q.2.2.2.1.2.2.1
  have c10 := q.2.1.2.2.1
  have mn : h 8 10 = nm := q.2.1.1.1
  have cn : g 249 12 = nm := q.2.1.2.1
  by_cases c : (0 ≤ a1 ∧ a1 ≤ 5) ∧ (-100000 ≤ a2 ∧ a2 ≤ 100000) ∧ (a1 = 5 → 0 ≤ a2 ∧ a2 ≤ 11) ∧ (1 ≤ a3 ∧ a3 ≤ 30) ∧ (0 ≤ a4 ∧ a4 ≤ 1)
  · obtain ⟨c1, c2, c5, c3, c4⟩ := c
    have o1 : ¬ s_X11_other_1 a1 a2 = 0 := by
      unfold s_X11_other_1
      by_cases y : a1 = 5
      · rw [if_pos y, if_pos (c5 y)]; omega
      · rw [if_neg y, if_pos c2]; omega
    -- the first going
    obtain ⟨p1, p2, p3⟩ := copy_M 249 250 g (by omega)
    obtain ⟨gk, egk⟩ : ∃ x, x = H_X12_copy 249 250 g := ⟨_, rfl⟩
    rw [← egk] at p2 p3
    obtain ⟨q1, f1⟩ := hl_copy (d := 47) (s := 1) (z' := gk 249) (by omega) q (fun k _ _ => by rw [p2 249 (by omega)])
    obtain ⟨ht, eht⟩ : ∃ x, x = H_X4_copyFrom 47 1 h := ⟨_, rfl⟩
    rw [← eht] at q1 f1
    obtain ⟨n, en⟩ : ∃ n : Nat, a3 = n := ⟨a3.toNat, by omega⟩
    obtain ⟨G1, G2, G3⟩ := go_ok q1 n a3 en (by omega) (by omega)
    obtain ⟨i1, i2, i3, i4, i5, i6⟩ := its q1 n (by omega)
    have ML := mloop (c := fun s => C_X12_other_58 a1 a2 a3 a4 s.1 s.2) (f := fun s => B_X12_other_58 a1 a2 a3 a4 s.1 s.2) (P := fun s => P_X12_other_58 a1 a2 a3 a4 s.1 s.2) a3 n gk en (fun x y z => z) (fun i hi => by show (i : Int) < a3; omega) (fun i hi => rfl)
      (fun i hi z => by
        have z' : (i : Int) < a3 := z
        obtain ⟨y1, y2, y3⟩ := it_step q1 i (by omega)
        exact ⟨y2, by show fx_i ((i : Int) + 1); unfold fx_i; omega⟩)
    have e2 : s_X12_other_2 a1 a2 a3 a4 g = mit n gk := by
      unfold s_X12_other_2
      rw [← egk]
      exact congrArg Prod.snd ML.2
    have BB : P_X12_broken (mit n gk) ∧ F_X12_broken (mit n gk) = nbr (mit n gk 249) nw := broken_nbr i1
    have coin1 : xit 47 n ht 65 8 = mit n gk 249 18 := i1.2.2.1.1.2.2.2.2.2.1
    have e3 : s_X12_other_3 a1 a2 a3 a4 g = if a4 = 0 then nbr (mit n gk 249) nw else mit n gk 249 18 := by
      unfold s_X12_other_3
      rw [e2, BB.2]
    -- as it was
    have kp : ∀ k : Int, 0 ≤ k → k < 620 → mit n gk 250 k = g 249 k := fun k k1 k2 => by rw [i3 250 (by omega)]; exact p3 k k1 k2
    obtain ⟨r1, r2, r3⟩ := back kp
    obtain ⟨gr, egr⟩ : ∃ x, x = H_X12_copy 250 249 (mit n gk) := ⟨_, rfl⟩
    rw [← egr] at r2 r3
    have q2 : hl 1 (xit 47 n ht) (gr 249) nm nw 9999 := hl_cg q (fun a y1 y2 => by rw [i2 a (by omega), f1 a (by omega)]) r3
    obtain ⟨q3, f3⟩ := hl_copy (d := 47) (s := 1) (z' := gr 249) (by omega) q2 (fun _ _ _ => rfl)
    obtain ⟨hu, ehu⟩ : ∃ x, x = H_X4_copyFrom 47 1 (xit 47 n ht) := ⟨_, rfl⟩
    rw [← ehu] at q3 f3
    have fu : ∀ a, (a < 47 ∨ 93 ≤ a) → hu a = h a := fun a e => by rw [f3 a (by omega), i2 a (by omega), f1 a (by omega)]
    -- the model's row, other
    obtain ⟨⟨-, -, -, -, -, -⟩, b0, b0', b1, b1', b2, b2', b8, b8', bc, bk⟩ := id q3.1
    obtain ⟨-, -, ⟨y1, y2, y3, y4, y5, y6, -⟩, -, -⟩ := id q3.2.2.1
    have t0 := brt (gr 249 0 + a2) 500 (by omega)
    have t3 := brt (gr 249 3 + a2) 100000 (by omega)
    have t2 := brt (gr 249 2 + a2) 200 (by omega)
    have t5 := brt (gr 249 5 + a2) 10000 (by omega)
    have s5k : ∀ k : Int, s_X12_other_5 a1 a2 a3 a4 g 249 k = if k = 0 then (if a1 = 0 then fx_max 0 (fx_min (gr 249 0 + a2) 500) else gr 249 0) else gr 249 k := fun k => by
      unfold s_X12_other_5 s_X12_other_4
      rw [e2, ← egr, t0.1, up_app]
      by_cases y : k = 0
      · rw [if_pos ⟨rfl, y⟩, if_pos y]
      · rw [if_neg (fun z => y z.2), if_neg y]
    have s53 : s_X12_other_5 a1 a2 a3 a4 g 249 3 = gr 249 3 := by rw [s5k, if_neg (by omega)]
    have s7k : ∀ k : Int, s_X12_other_7 a1 a2 a3 a4 g 249 k = if k = 3 then (if a1 = 1 then fx_max 0 (fx_min (gr 249 3 + a2) 100000) else gr 249 3) else s_X12_other_5 a1 a2 a3 a4 g 249 k := fun k => by
      unfold s_X12_other_7 s_X12_other_6
      rw [s53, t3.1, up_app]
      by_cases y : k = 3
      · rw [if_pos ⟨rfl, y⟩, if_pos y]
      · rw [if_neg (fun z => y z.2), if_neg y]
    have s72 : s_X12_other_7 a1 a2 a3 a4 g 249 2 = gr 249 2 := by rw [s7k, if_neg (by omega), s5k, if_neg (by omega)]
    have s9k : ∀ k : Int, s_X12_other_9 a1 a2 a3 a4 g 249 k = if k = 2 then (if a1 = 2 then fx_max 0 (fx_min (gr 249 2 + a2) 200) else gr 249 2) else s_X12_other_7 a1 a2 a3 a4 g 249 k := fun k => by
      unfold s_X12_other_9 s_X12_other_8
      rw [s72, t2.1, up_app]
      by_cases y : k = 2
      · rw [if_pos ⟨rfl, y⟩, if_pos y]
      · rw [if_neg (fun z => y z.2), if_neg y]
    have s9o : ∀ k : Int, 4 ≤ k → s_X12_other_9 a1 a2 a3 a4 g 249 k = gr 249 k := fun k e => by rw [s9k, if_neg (by omega), s7k, if_neg (by omega), s5k, if_neg (by omega)]
    have s9a : ∀ a, a ≠ 249 → s_X12_other_9 a1 a2 a3 a4 g a = gr a := fun a e => by
      unfold s_X12_other_9 s_X12_other_7 s_X12_other_5
      rw [up_cell _ e, up_cell _ e, up_cell _ e, e2, egr]
    obtain ⟨A1, A2, A3⟩ := aims_M a1 a2 a3 a4 (s_X12_other_3 a1 a2 a3 a4 g) (s_X12_other_9 a1 a2 a3 a4 g) (fun cc z1 z2 => by rw [s9o _ (by omega)]; have := bc cc z1 z2; exact ⟨this.2.2.2.2.1, this.2.2.2.2.2⟩) c2
    have s12k : ∀ k : Int, s_X12_other_12 a1 a2 a3 a4 g 249 k = if (44 ≤ k ∧ k < 56) ∧ a1 = 3 then fx_max 0 (fx_min (s_X12_other_9 a1 a2 a3 a4 g 249 k + a2) 5000) else s_X12_other_9 a1 a2 a3 a4 g 249 k := A3
    have s12a : ∀ a, a ≠ 249 → s_X12_other_12 a1 a2 a3 a4 g a = gr a := fun a e => (A2 a e).trans (s9a a e)
    have s125 : s_X12_other_12 a1 a2 a3 a4 g 249 5 = gr 249 5 := by rw [s12k, if_neg (by omega), s9o 5 (by omega)]
    obtain ⟨g4, eg4⟩ : ∃ x, x = s_X12_other_14 a1 a2 a3 a4 g := ⟨_, rfl⟩
    have s14a : ∀ a, a ≠ 249 → g4 a = gr a := fun a e => by
      rw [eg4]; unfold s_X12_other_14
      rw [up_cell _ e]; exact s12a a e
    have s14k : ∀ k : Int, g4 249 k = orow (gr 249) a1 a2 k := fun k => by
      rw [eg4]; unfold s_X12_other_14 s_X12_other_13
      rw [s125, t5.1, up_app]
      exact orow_mk (gr 249) a1 a2 k _ _ _ _ s5k s7k s9k s12k
    -- the second going, once the change stands
    have SEC : ∀ (nm' : Nat) (hx gx : pH), hl 47 hx (gx 249) nm' nw 9999 → (∀ a, (a < 47 ∨ 93 ≤ a) → hx a = h a) → (∀ a, a ≠ 249 → gx a = gr a) → (∀ w : Int, 0 ≤ w → w < nw → gx 249 (328 + w) = gr 249 (328 + w)) →
        P_X4_go 47 a3 hx ∧ (∀ y5 : Int, O_X12_other_228 a3 a4 y5 0 gx ∧ (L_X12_other_228 a3 a4 y5 0 gx).2 = mit n gx) ∧ P_X12_broken (mit n gx) ∧ F_X12_broken (mit n gx) = nbr (mit n gx 249) nw ∧ P_X12_copy 250 249 (mit n gx) ∧
        F_X4_go 47 a3 hx - F_X4_go 47 a3 ht = nbr (mit n gx 249) nw - nbr (mit n gk 249) nw ∧ H_X4_go 47 a3 hx 65 8 = mit n gx 249 18 ∧ RET h g (H_X4_go 47 a3 hx) (H_X12_copy 250 249 (mit n gx)) := by
      intro nm' hx gx qx fx gxa gxw
      obtain ⟨J1, J2, J3⟩ := go_ok qx n a3 en (by omega) (by omega)
      obtain ⟨j1, j2, j3, j4, j5, j6⟩ := its qx n (by omega)
      have BX : P_X12_broken (mit n gx) ∧ F_X12_broken (mit n gx) = nbr (mit n gx 249) nw := broken_nbr j1
      have kx : ∀ k : Int, 0 ≤ k → k < 620 → mit n gx 250 k = g 249 k := fun k k1 k2 => by rw [j3 250 (by omega), gxa 250 (by omega), r2 250 (by omega)]; exact kp k k1 k2
      obtain ⟨x1, x2, x3⟩ := back kx
      have cc : nbr (gx 249) nw = nbr (gr 249) nw := nbr_cg gxw
      have cg : nbr (gr 249) nw = nbr (g 249) nw := nbr_cg (fun w e1 e2 => r3 _ (by omega) (by omega))
      have ck : nbr (gk 249) nw = nbr (g 249) nw := nbr_cg (fun w e1 e2 => by rw [p2 249 (by omega)])
      refine ⟨J1, fun y5 => ?_, BX.1, BX.2, x1, by rw [J2, G2]; omega, by rw [J3]; exact j1.2.2.1.1.2.2.2.2.2.1, ?_⟩
      · have M2 := mloop (c := fun s => C_X12_other_228 a3 a4 y5 s.1 s.2) (f := fun s => B_X12_other_228 a3 a4 y5 s.1 s.2) (P := fun s => P_X12_other_228 a3 a4 y5 s.1 s.2) a3 n gx en (fun x y z => z) (fun i hi => by show (i : Int) < a3; omega) (fun i hi => rfl)
          (fun i hi z => by
            have z' : (i : Int) < a3 := z
            obtain ⟨y1, y2, y3⟩ := it_step qx i (by omega)
            exact ⟨y2, by show fx_i ((i : Int) + 1); unfold fx_i; omega⟩)
        exact ⟨M2.1, congrArg Prod.snd M2.2⟩
      · rw [J3]
        refine ret_hall al (fun a e => by rw [j2 a (by omega), fx a (by omega)]) (fun a e => by rw [x2 a (by omega), j3 a (by omega), gxa a (by omega), r2 a (by omega), i3 a (by omega), p2 a (by omega)]) ?_ ?_ (hal_cg al.1 (fun a e1 e2 => by rw [j2 a (by omega), fx a (by omega)]) x3)
        · rw [x2 248 (by omega), j4 20 (by omega) (by omega) (by omega) (by omega), gxa 248 (by omega), r2 248 (by omega), i4 20 (by omega) (by omega) (by omega) (by omega), p2 248 (by omega)]
        · rw [x2 248 (by omega), j4 21 (by omega) (by omega) (by omega) (by omega), gxa 248 (by omega), r2 248 (by omega), i4 21 (by omega) (by omega) (by omega) (by omega), p2 248 (by omega)]
    have bn1 := nbr_bd (mit n gk 249) nw
    have es2 : s_X11_other_2 a1 a2 a3 h = H_X4_makeOther 47 a1 a2 hu := by
      unfold s_X11_other_2
      rw [← eht, G3, ← ehu]
    have PH0 : P_X12_copy 249 250 g ∧ O_X12_other_58 a1 a2 a3 a4 0 (H_X12_copy 249 250 g) ∧ (a4 = 0 → P_X12_broken (s_X12_other_2 a1 a2 a3 a4 g)) ∧ P_X12_copy 250 249 (s_X12_other_2 a1 a2 a3 a4 g) ∧ (a1 = 0 → fx_l (((H_X12_copy 250 249 (s_X12_other_2 a1 a2 a3 a4 g)) 249 0) + a2)) ∧ (a1 = 1 → fx_l (((s_X12_other_5 a1 a2 a3 a4 g) 249 3) + a2)) ∧ (a1 = 2 → fx_l (((s_X12_other_7 a1 a2 a3 a4 g) 249 2) + a2)) ∧ O_X12_other_148 a1 a2 a3 a4 (s_X12_other_3 a1 a2 a3 a4 g) 0 (s_X12_other_9 a1 a2 a3 a4 g) ∧ (a1 = 4 → fx_l (((s_X12_other_12 a1 a2 a3 a4 g) 249 5) + a2)) := by
      rw [e2, s53, s72, s125, ← egk, ← egr]
      exact ⟨p1, ML.1, fun _ => BB.1, r1, fun _ => by unfold fx_l; omega, fun _ => by unfold fx_l; omega, fun _ => by unfold fx_l; omega, A1, fun _ => by unfold fx_l; omega⟩
    obtain ⟨z1, z2, z3, z4, z5, z6, z7, z8, z9⟩ := PH0
    unfold F_X11_other F_X12_other H_X11_other H_X12_other
    rw [if_pos c1, if_neg o1, if_pos c3, if_pos c4, if_pos c1, if_pos c2, if_pos c1, if_neg o1, if_pos c3, if_pos c4, if_pos c1, if_pos c2, mn, cn]
    by_cases w5 : a1 = 5
    · rw [if_pos w5, if_pos w5, if_pos (c5 w5), if_pos c3, if_pos c4, if_pos w5, if_pos w5, if_pos (c5 w5), if_pos c3, if_pos c4]
      by_cases wm : 1 ≤ (nm : Int) ∧ (nm : Int) ≤ 9
      · rw [if_pos wm, if_neg (show ¬ (nm : Int) = 0 by omega), if_neg (show ¬ (nm : Int) = 10 by omega), if_pos wm, if_neg (show ¬ (nm : Int) = 0 by omega), if_neg (show ¬ (nm : Int) = 10 by omega)]
        -- a machine more
        have e4k : ∀ k : Int, 0 ≤ k → k < 620 → g4 249 k = gr 249 k := fun k k1 k2 => by rw [s14k, w5, orow_5]
        have q4 : hl 47 hu (g4 249) nm nw 9999 := hl_cg q3 (fun _ _ _ => rfl) e4k
        obtain ⟨⟨-, mm⟩, -, -, cm⟩ := id q4.2.1
        have m0 := mm 0 (by omega) (by omega)
        have d0 := cm 0 (by omega) (by omega)
        simp only [Int.reduceAdd] at m0 d0
        obtain ⟨H1, H2, H3, H4, H5, H6, H7, H8⟩ := hl_add (b := 47) (h := hu) (g := g4) (a1 := a2) (a2 := g4 249 94) (a3 := g4 249 104) (a4 := g4 249 114) (a5 := g4 249 124) q4 (by omega) (c5 w5) d0.2.1 d0.2.2.1 d0.2.2.2.1 d0.2.2.2.2.1
        have eh : H_X4_makeOther 47 a1 a2 hu = H_X6_add (47 + 7) a2 (g4 249 94) (g4 249 104) (g4 249 114) (g4 249 124) hu := by
          unfold H_X4_makeOther s_X4_makeOther_5
          rw [if_neg (show ¬ a1 = 0 by omega), if_neg (show ¬ a1 = 1 by omega), if_neg (show ¬ a1 = 2 by omega), if_neg (show ¬ a1 = 3 by omega), if_neg (show ¬ a1 = 4 by omega)]
          unfold H_X6_addLikeFirst s_X6_addLikeFirst_1
          simp only [Int.reduceAdd]
          rw [m0.2.1, m0.2.2.1, m0.2.2.2.1, m0.2.2.2.2.1]
        have ep : P_X4_makeOther 47 a1 a2 hu := by
          unfold P_X4_makeOther
          refine ⟨fun z => by omega, fun _ => ⟨fun z => by omega, fun _ => ⟨fun z => by omega, fun _ => ⟨fun z => by omega, fun _ => ⟨fun z => by omega, fun _ => ?_⟩⟩⟩⟩⟩
          unfold P_X6_addLikeFirst
          simp only [Int.reduceAdd] at H1 ⊢
          rw [m0.2.1, m0.2.2.1, m0.2.2.2.1, m0.2.2.2.2.1]
          exact H1
        have e15 : s_X12_other_15 a1 a2 a3 a4 g = H_X12_addMachine a2 (g4 249 94) (g4 249 104) (g4 249 114) (g4 249 124) g4 := by
          unfold s_X12_other_15; rw [← eg4]
        obtain ⟨S1, S2, S3, S4, S5, S6, S7, S8⟩ := SEC (nm + 1) _ _ H3 (fun a e => by rw [H6 a (by omega), fu a e]) (fun a e => by rw [H7 a e, s14a a e]) (fun w e1 e2 => by rw [H8 _ (by omega) (by omega), e4k _ (by omega) (by omega)])
        rw [← eh] at S1 S6 S7 S8
        rw [← e15] at S2 S3 S4 S5 S6 S7 S8
        have e17 : s_X12_other_17 a1 a2 a3 a4 g = mit n (s_X12_other_15 a1 a2 a3 a4 g) := (S2 _).2
        have b2 := nbr_bd (mit n (s_X12_other_15 a1 a2 a3 a4 g) 249) nw
        refine ⟨?_, ?_, ?_, ?_⟩
        · intro _ _ _ _
          refine ⟨fun _ _ => ?_, fun z => absurd w5 z⟩
          rw [es2, ← eht, G3, ← ehu]
          exact ⟨G1, ep, S1, fun _ => by rw [S6]; unfold fx_i; omega⟩
        · intro _ _
          refine ⟨fun _ _ _ _ _ _ => ?_, fun z => absurd w5 z⟩
          rw [e17, ← eg4]
          exact ⟨z1, z2, z3, z4, z5, z6, z7, z8, z9, H2, (S2 _).1, fun _ => S3, S5⟩
        · unfold s_X11_other_3 s_X12_other_18
          rw [es2, ← eht, e3, e17, S4]
          by_cases wa : a4 = 0
          · rw [if_pos wa, if_pos wa, if_pos wa, S6, fx_wl (by unfold fx_l; omega)]
          · rw [if_neg wa, if_neg wa, if_neg wa, S7, G3, coin1]
        · rw [es2, e17]; exact S8
      · rw [if_neg wm, if_neg wm]
        have X : ∀ (α : Type) (A B : α), (if (nm : Int) = 0 then B else if (nm : Int) = 10 then B else A) = B := by
          intro α A B
          by_cases y : (nm : Int) = 0
          · rw [if_pos y]
          · rw [if_neg y, if_pos (by omega)]
        rw [X, X]
        refine ⟨?_, ?_, rfl, RET.refl al⟩
        · intro _ _ _ _
          rw [mn]
          exact ⟨fun _ z => absurd z wm, fun z => absurd w5 z⟩
        · intro _ _
          rw [cn]
          exact ⟨fun _ _ _ _ x0 x10 => by omega, fun z => absurd w5 z⟩
    · rw [if_neg w5, if_neg w5, if_pos c3, if_pos c4, if_neg w5, if_neg w5, if_pos c3, if_pos c4]
      obtain ⟨o2, o3, o4⟩ := mk_other (a1 := a1) (a2 := a2) q3 (by omega) c2 (fun k k1 k2 => s14k k)
      obtain ⟨S1, S2, S3, S4, S5, S6, S7, S8⟩ := SEC nm _ _ o3 (fun a e => by rw [o4 a e, fu a e]) s14a (fun w e1 e2 => by
        rw [s14k, orow_far _ _ _ _ (by omega)])
      rw [eg4] at S2 S3 S4 S5 S6 S7 S8
      have e20 : s_X12_other_20 a1 a2 a3 a4 g = mit n (s_X12_other_14 a1 a2 a3 a4 g) := (S2 _).2
      have b2 := nbr_bd (mit n (s_X12_other_14 a1 a2 a3 a4 g) 249) nw
      refine ⟨?_, ?_, ?_, ?_⟩
      · intro _ _ _ _
        refine ⟨fun z => absurd z w5, fun _ => ?_⟩
        rw [es2, ← eht, G3, ← ehu]
        exact ⟨G1, o2, S1, fun _ => by rw [S6]; unfold fx_i; omega⟩
      · intro _ _
        refine ⟨fun z => absurd z w5, fun _ _ _ => ?_⟩
        rw [e20]
        exact ⟨z1, z2, z3, z4, z5, z6, z7, z8, z9, (S2 _).1, fun _ => S3, S5⟩
      · unfold s_X11_other_3 s_X12_other_21
        rw [es2, ← eht, e3, e20, S4]
        by_cases wa : a4 = 0
        · rw [if_pos wa, if_pos wa, if_pos wa, S6, fx_wl (by unfold fx_l; omega)]
        · rw [if_neg wa, if_neg wa, if_neg wa, S7, G3, coin1]
      · rw [es2, e20, if_pos c3, if_pos c4]; exact S8
  · -- refused
    have X1 : ∀ (α : Type) (A B C : α), (if 0 ≤ a1 ∧ a1 ≤ 5 then if s_X11_other_1 a1 a2 = 0 then B else if 1 ≤ a3 ∧ a3 ≤ 30 then if 0 ≤ a4 ∧ a4 ≤ 1 then A else B else B else B) = B := by
      intro α A B C
      by_cases c1 : 0 ≤ a1 ∧ a1 ≤ 5
      · rw [if_pos c1]
        by_cases o1 : s_X11_other_1 a1 a2 = 0
        · rw [if_pos o1]
        · rw [if_neg o1]
          by_cases c3 : 1 ≤ a3 ∧ a3 ≤ 30
          · rw [if_pos c3]
            by_cases c4 : 0 ≤ a4 ∧ a4 ≤ 1
            · exfalso
              unfold s_X11_other_1 at o1
              by_cases y : a1 = 5
              · rw [if_pos y] at o1
                by_cases y2 : 0 ≤ a2 ∧ a2 ≤ 11
                · exact c ⟨c1, by omega, fun _ => y2, c3, c4⟩
                · rw [if_neg y2] at o1; exact o1 rfl
              · rw [if_neg y] at o1
                by_cases y2 : -100000 ≤ a2 ∧ a2 ≤ 100000
                · exact c ⟨c1, y2, fun z => absurd z y, c3, c4⟩
                · rw [if_neg y2] at o1; exact o1 rfl
            · rw [if_neg c4]
          · rw [if_neg c3]
      · rw [if_neg c1]
    have PX : P_X11_other a1 a2 a3 a4 h := by
      intro c1 o1 c3 c4
      exfalso
      have := X1 Bool true false false
      rw [if_pos c1, if_neg o1, if_pos c3, if_pos c4] at this
      exact Bool.noConfusion this
    have PM : P_X12_other a1 a2 a3 a4 g := by
      intro c1 c2
      exact ⟨fun y y2 c3 c4 => absurd ⟨c1, c2, fun _ => y2, c3, c4⟩ c, fun y c3 c4 => absurd ⟨c1, c2, fun z => absurd z y, c3, c4⟩ c⟩
    have X2 : ∀ (α : Type) (A A' B : α), (if 0 ≤ a1 ∧ a1 ≤ 5 then if -100000 ≤ a2 ∧ a2 ≤ 100000 then if a1 = 5 then if 0 ≤ a2 ∧ a2 ≤ 11 then if 1 ≤ a3 ∧ a3 ≤ 30 then if 0 ≤ a4 ∧ a4 ≤ 1 then A else B else B else B else if 1 ≤ a3 ∧ a3 ≤ 30 then if 0 ≤ a4 ∧ a4 ≤ 1 then A' else B else B else B else B) = B := by
      intro α A A' B
      by_cases c1 : 0 ≤ a1 ∧ a1 ≤ 5
      · rw [if_pos c1]
        by_cases c2 : -100000 ≤ a2 ∧ a2 ≤ 100000
        · rw [if_pos c2]
          by_cases y : a1 = 5
          · rw [if_pos y]
            by_cases y2 : 0 ≤ a2 ∧ a2 ≤ 11
            · rw [if_pos y2]
              by_cases c3 : 1 ≤ a3 ∧ a3 ≤ 30
              · rw [if_pos c3, if_neg (fun c4 => c ⟨c1, c2, fun _ => y2, c3, c4⟩)]
              · rw [if_neg c3]
            · rw [if_neg y2]
          · rw [if_neg y]
            by_cases c3 : 1 ≤ a3 ∧ a3 ≤ 30
            · rw [if_pos c3, if_neg (fun c4 => c ⟨c1, c2, fun z => absurd z y, c3, c4⟩)]
            · rw [if_neg c3]
        · rw [if_neg c2]
      · rw [if_neg c1]
    refine ⟨PX, PM, ?_, ?_⟩
    · unfold F_X11_other F_X12_other
      rw [X1 _ _ _ 0, X2]
    · unfold H_X11_other H_X12_other
      rw [X1 _ _ _ h, X2]
      exact RET.refl al
