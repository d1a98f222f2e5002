/-! Machines, houses, works, rules; counts; records and images. -/
section C2
variable {h g : pH}
/-- a machine more -/
theorem hl_add {b : Int} {nm nw : Nat} {T a1 a2 a3 a4 a5 : Int} (q : hl b h (g 249) nm nw T) (h10 : nm < 10) (c1 : 0 ≤ a1 ∧ a1 ≤ 11) (c2 : 0 ≤ a2 ∧ a2 ≤ 500) (c3 : 0 ≤ a3 ∧ a3 ≤ 500) (c4 : 1 ≤ a4 ∧ a4 ≤ 5000) (c5 : 0 ≤ a5 ∧ a5 ≤ 3) :
    P_X6_add (b + 7) a1 a2 a3 a4 a5 h ∧ P_X12_addMachine a1 a2 a3 a4 a5 g ∧ hl b (H_X6_add (b + 7) a1 a2 a3 a4 a5 h) (H_X12_addMachine a1 a2 a3 a4 a5 g 249) (nm + 1) nw T ∧ F_X6_add (b + 7) a1 a2 a3 a4 a5 h = nm ∧ H_X12_addMachine a1 a2 a3 a4 a5 g 249 12 = nm + 1 ∧
    (∀ a, (a < b + 7 ∨ b + 16 < a) → H_X6_add (b + 7) a1 a2 a3 a4 a5 h a = h a) ∧ (∀ a, a ≠ 249 → H_X12_addMachine a1 a2 a3 a4 a5 g a = g a) ∧ (∀ k : Int, (k < 84 ∨ 174 ≤ k) → k ≠ 12 → H_X12_addMachine a1 a2 a3 a4 a5 g 249 k = g 249 k) := by
  obtain ⟨⟨mn, mm⟩, cn, c10, cm⟩ := id q.2.1
  have e1 : H_X6_add (b + 7) a1 a2 a3 a4 a5 h = pm_upd (pm_upd (pm_upd (pm_upd (pm_upd (pm_upd (pm_upd (pm_upd (pm_upd (pm_upd h (b + 8) nm a1) (b + 9) nm a2) (b + 10) nm a3) (b + 11) nm a4) (b + 12) nm a5) (b + 13) nm 0) (b + 14) nm 0) (b + 15) nm (-1)) (b + 16) nm 0) (b + 7) 10 (nm + 1) := by
    unfold H_X6_add s_X6_add_9 s_X6_add_8 s_X6_add_7 s_X6_add_6 s_X6_add_5 s_X6_add_4 s_X6_add_3 s_X6_add_2 s_X6_add_1
    simp only [Int.add_assoc, Int.reduceAdd]
    simp (disch := omega) only [up_cell, mn]
    rw [if_pos (by omega)]
  have e2 : H_X12_addMachine a1 a2 a3 a4 a5 g = pm_upd (pm_upd (pm_upd (pm_upd (pm_upd (pm_upd (pm_upd (pm_upd (pm_upd (pm_upd g 249 (84 + nm) a1) 249 (94 + nm) a2) 249 (104 + nm) a3) 249 (114 + nm) a4) 249 (124 + nm) a5) 249 (134 + nm) 0) 249 (144 + nm) 0) 249 (154 + nm) (-1)) 249 (164 + nm) 0) 249 12 (nm + 1) := by
    unfold H_X12_addMachine s_X12_addMachine_9 s_X12_addMachine_8 s_X12_addMachine_7 s_X12_addMachine_6 s_X12_addMachine_5 s_X12_addMachine_4 s_X12_addMachine_3 s_X12_addMachine_2 s_X12_addMachine_1
    rw [cn]
    simp (disch := omega) only [up_pl, cn]
  have f1 : ∀ a, (a < b + 7 ∨ b + 16 < a) → H_X6_add (b + 7) a1 a2 a3 a4 a5 h a = h a := fun a e => by rw [e1]; simp (disch := omega) only [up_cell]
  have f2 : ∀ a, a ≠ 249 → H_X12_addMachine a1 a2 a3 a4 a5 g a = g a := fun a e => by rw [e2]; simp (disch := omega) only [up_cell]
  have f3 : ∀ k : Int, (k < 84 ∨ 174 ≤ k) → k ≠ 12 → H_X12_addMachine a1 a2 a3 a4 a5 g 249 k = g 249 k := fun k k1 k2 => by rw [e2]; simp (disch := omega) only [up_pl]
  refine ⟨?_, ?_, hl_M q ⟨⟨?_, fun m m1 m2 => ?_⟩, ?_, by omega, fun m m1 m2 => ?_⟩ (by omega) (fun a e => f1 a (by omega)) (fun k e => f3 k (by omega) (by omega)), ?_, ?_, f1, f2, f3⟩
  · unfold P_X6_add s_X6_add_9 s_X6_add_8 s_X6_add_7 s_X6_add_6 s_X6_add_5 s_X6_add_4 s_X6_add_3 s_X6_add_2 s_X6_add_1
    simp only [Int.add_assoc, Int.reduceAdd]
    simp (disch := omega) only [up_cell, up_eq, mn]
    unfold fx_i
    omega
  · unfold P_X12_addMachine s_X12_addMachine_8 s_X12_addMachine_7 s_X12_addMachine_6 s_X12_addMachine_5 s_X12_addMachine_4 s_X12_addMachine_3 s_X12_addMachine_2 s_X12_addMachine_1 P_X12_at
    rw [cn]
    simp (disch := omega) only [up_pl, cn]
    unfold fx_i fx_l
    omega
  · rw [e1, up_eq]; omega
  · rw [e1, e2]
    by_cases w : m = nm
    · subst w
      simp (disch := omega) only [up_cell, up_pl, up_eq]
      exact ⟨trivial, trivial, trivial, trivial, trivial, trivial, trivial, trivial, trivial⟩
    · simp (disch := omega) only [up_cell, up_pl]
      exact mm m m1 (by omega)
  · rw [e2, up_eq]; omega
  · rw [e2]
    by_cases w : m = nm
    · subst w
      simp (disch := omega) only [up_cell, up_pl, up_eq]
      omega
    · simp (disch := omega) only [up_cell, up_pl]
      exact cm m m1 (by omega)
  · unfold F_X6_add
    have : H_X6_add (b + 7) a1 a2 a3 a4 a5 h (b + 7) 10 = nm + 1 := by rw [e1, up_eq]
    unfold H_X6_add at this
    rw [if_pos (by omega)] at this ⊢
    omega
  · rw [e2, up_eq]
theorem m_machine (al : AL h g) (a1 a2 a3 a4 a5 : Int) : P_X11_machine a1 a2 a3 a4 a5 h ∧ P_X12_machine a1 a2 a3 a4 a5 g ∧ F_X11_machine a1 a2 a3 a4 a5 h = F_X12_machine a1 a2 a3 a4 a5 g ∧ RET h g (H_X11_machine a1 a2 a3 a4 a5 h) (H_X12_machine a1 a2 a3 a4 a5 g) := by
  obtain ⟨nm, nw, q, n9⟩ := id al.1
  obtain ⟨⟨mn, -⟩, cn, c10, -⟩ := id q.2.1
  have mn : h 8 10 = nm := mn
  unfold P_X11_machine P_X12_machine F_X11_machine F_X12_machine H_X11_machine H_X12_machine
  rw [cn]
  by_cases c1 : 0 ≤ a1 ∧ a1 ≤ 11
  · by_cases c2 : 0 ≤ a2 ∧ a2 ≤ 500
    · by_cases c3 : 0 ≤ a3 ∧ a3 ≤ 500
      · by_cases c4 : 1 ≤ a4 ∧ a4 ≤ 5000
        · by_cases c5 : 0 ≤ a5 ∧ a5 ≤ 3
          · rw [if_pos c1, if_pos c2, if_pos c3, if_pos c4, if_pos c5, if_pos c1, if_pos c2, if_pos c3, if_pos c4, if_pos c5, if_pos c1, if_pos c2, if_pos c3, if_pos c4, if_pos c5, if_pos c1, if_pos c2, if_pos c3, if_pos c4, if_pos c5]
            by_cases c6 : (nm : Int) = 10
            · rw [if_pos c6, if_pos c6]
              refine ⟨fun _ _ _ _ _ z => by omega, fun _ _ _ _ _ z => absurd c6 z, ?_, ?_⟩
              · unfold F_X6_add; rw [if_neg (by omega)]
              · unfold H_X6_add; rw [if_neg (by omega)]; exact RET.refl al
            · rw [if_neg c6, if_neg c6]
              obtain ⟨p1, p2, p3, p4, p5, p6, p7, p8⟩ := hl_add (b := 1) q (by omega) c1 c2 c3 c4 c5
              have p4 : F_X6_add 8 a1 a2 a3 a4 a5 h = nm := p4
              refine ⟨fun _ _ _ _ _ => p1, fun _ _ _ _ _ _ => ⟨p2, ⟨by omega, by rw [p5]; unfold fx_i; omega⟩, by rw [p5]; unfold fx_i; omega⟩, by rw [p4, p5]; omega, ?_⟩
              exact set_hall al (fun a e => p6 a (by omega)) p7 ⟨nm + 1, nw, p3, fun w e1 e2 => by rw [p8 _ (by omega) (by omega)]; exact n9 w e1 e2⟩
          · rw [if_pos c1, if_pos c2, if_pos c3, if_pos c4, if_neg c5, if_pos c1, if_pos c2, if_pos c3, if_pos c4, if_neg c5, if_pos c1, if_pos c2, if_pos c3, if_pos c4, if_neg c5, if_pos c1, if_pos c2, if_pos c3, if_pos c4, if_neg c5]
            exact ⟨fun _ _ _ _ z => absurd z c5, fun _ _ _ _ z => absurd z c5, rfl, RET.refl al⟩
        · rw [if_pos c1, if_pos c2, if_pos c3, if_neg c4, if_pos c1, if_pos c2, if_pos c3, if_neg c4, if_pos c1, if_pos c2, if_pos c3, if_neg c4, if_pos c1, if_pos c2, if_pos c3, if_neg c4]
          exact ⟨fun _ _ _ z => absurd z c4, fun _ _ _ z => absurd z c4, rfl, RET.refl al⟩
      · rw [if_pos c1, if_pos c2, if_neg c3, if_pos c1, if_pos c2, if_neg c3, if_pos c1, if_pos c2, if_neg c3, if_pos c1, if_pos c2, if_neg c3]
        exact ⟨fun _ _ z => absurd z c3, fun _ _ z => absurd z c3, rfl, RET.refl al⟩
    · rw [if_pos c1, if_neg c2, if_pos c1, if_neg c2, if_pos c1, if_neg c2, if_pos c1, if_neg c2]
      exact ⟨fun _ z => absurd z c2, fun _ z => absurd z c2, rfl, RET.refl al⟩
  · rw [if_neg c1, if_neg c1, if_neg c1, if_neg c1]
    exact ⟨fun z => absurd z c1, fun z => absurd z c1, rfl, RET.refl al⟩
/-- the order, behind a change of works or houses -/
theorem WKS_ord {b : Int} {h1 : pH} {z : Int → Int} {nm nw : Nat} (wn : h1 (b + 21) 15 = nw) (wh : ∀ k : Int, 0 ≤ k → k < 8 → h1 (b + 22) k = z (174 + k) ∧ h1 (b + 23) k = z (182 + k) ∧ h1 (b + 24) k = z (190 + k))
    (ww : ∀ w : Int, 0 ≤ w → w < nw → h1 (b + 25) w = z (200 + w) ∧ h1 (b + 26) w = z (216 + w) ∧ h1 (b + 27) w = z (232 + w) ∧ h1 (b + 28) w = z (248 + w) ∧ h1 (b + 29) w = z (264 + w) ∧ h1 (b + 30) w = z (280 + w) ∧ h1 (b + 31) w = z (296 + w) ∧ h1 (b + 32) w = zst z w ∧ h1 (b + 33) w = z (312 + w) ∧ h1 (b + 35) w = z (344 + w))
    (hy : yl_wks z nm nw) : P_X10_putInOrder (b + 21) h1 ∧ WKSs b (H_X10_putInOrder (b + 21) h1) z nm nw ∧ ∀ a, a ≠ b + 36 → H_X10_putInOrder (b + 21) h1 a = h1 a := by
  obtain ⟨dn, d16, dh, dw⟩ := id hy
  have O := ord_X (b + 21) h1 nw wn d16 (fun w e1 e2 => by rw [show b + 21 + 5 = b + 26 by omega, (ww w e1 e2).2.1]; exact (dw w e1 e2).2.1) (fun k e1 e2 => by rw [show b + 21 + 1 = b + 22 by omega, (wh k e1 e2).1]; exact (dh k e1 e2).1)
  obtain ⟨o1, o2, o3⟩ := O
  have f : ∀ a, a ≠ b + 36 → H_X10_putInOrder (b + 21) h1 a = h1 a := fun a e => o2 a (by omega)
  refine ⟨o1, ⟨⟨?_, fun k e1 e2 => ?_, fun w e1 e2 => ?_, fun k e1 e2 => ?_⟩, hy⟩, f⟩
  · rw [f _ (by omega)]; exact wn
  · rw [f (b + 22) (by omega), f (b + 23) (by omega), f (b + 24) (by omega)]; exact wh k e1 e2
  · rw [f (b + 25) (by omega), f (b + 26) (by omega), f (b + 27) (by omega), f (b + 28) (by omega), f (b + 29) (by omega), f (b + 30) (by omega), f (b + 31) (by omega), f (b + 32) (by omega), f (b + 33) (by omega), f (b + 35) (by omega)]
    exact ww w e1 e2
  · rw [show b + 36 = b + 21 + 15 by omega, o3 k e1 e2]
    have := zins_congr (key := fun w => ((h1 (b + 21 + 1) (h1 (b + 21 + 5) w) * 8 + h1 (b + 21 + 5) w) * 16) + w) (key' := zkey z) (n := nw) (fun w e1 e2 => by
      have q := (dw w e1 e2).2.1
      unfold zkey
      rw [show b + 21 + 1 = b + 22 by omega, show b + 21 + 5 = b + 26 by omega, (ww w e1 e2).2.1, (wh _ q.1 q.2).1]) nw (Nat.le_refl _)
    rw [this]
theorem m_house (al : AL h g) (a1 a2 a3 a4 : Int) : P_X11_house a1 a2 a3 a4 h ∧ P_X12_house a1 a2 a3 a4 g ∧ F_X11_house a1 a2 a3 a4 h = F_X12_house a1 a2 a3 a4 g ∧ RET h g (H_X11_house a1 a2 a3 a4 h) (H_X12_house a1 a2 a3 a4 g) := by
  obtain ⟨nm, nw, q, n9⟩ := id al.1
  obtain ⟨⟨wn, wh, ww, wo⟩, dn, d16, dh, dw⟩ := id q.2.2.2.1
  have W : 0 ≤ a1 ∧ a1 ≤ 7 → 0 ≤ a2 ∧ a2 ≤ 99 → 0 ≤ a3 ∧ a3 ≤ 1000 → 0 ≤ a4 ∧ a4 ≤ 1000 → P_X10_putInOrder (1 + 21) (s_X10_setHouse_1 22 a1 a2 a3 a4 h) ∧ WKSs 1 (H_X10_putInOrder (1 + 21) (s_X10_setHouse_1 22 a1 a2 a3 a4 h)) (s_X12_house_1 a1 a2 a3 a4 g 249) nm nw ∧ ∀ a, a ≠ 1 + 36 → H_X10_putInOrder (1 + 21) (s_X10_setHouse_1 22 a1 a2 a3 a4 h) a = s_X10_setHouse_1 22 a1 a2 a3 a4 h a := by
    intro c1 c2 c3 c4
    simp only [Int.reduceAdd] at wn wh ww
    refine WKS_ord ?_ (fun k e1 e2 => ?_) (fun w e1 e2 => ?_) ⟨?_, d16, fun k e1 e2 => ?_, fun w e1 e2 => ?_⟩
    · unfold s_X10_setHouse_1
      simp (disch := omega) only [Int.reduceAdd, up_cell]; exact wn
    · have := wh k e1 e2
      unfold s_X10_setHouse_1 s_X12_house_1
      simp only [Int.reduceAdd]
      by_cases w : k = a1
      · subst w
        simp (disch := omega) only [up_cell, up_pl, up_eq]
        exact ⟨trivial, trivial, trivial⟩
      · simp (disch := omega) only [up_cell, up_pl]
        exact this
    · have := ww w e1 e2
      unfold zst at this ⊢
      unfold s_X10_setHouse_1 s_X12_house_1
      simp only [Int.reduceAdd]
      simp (disch := omega) only [up_cell, up_pl]
      exact this
    · unfold s_X12_house_1
      simp (disch := omega) only [up_pl]; exact dn
    · have := dh k e1 e2
      unfold s_X12_house_1
      by_cases w : k = a1
      · subst w
        simp (disch := omega) only [up_pl, up_eq]
        exact ⟨c2, c3, c4⟩
      · simp (disch := omega) only [up_pl]
        exact this
    · have := dw w e1 e2
      unfold zwk at this ⊢
      unfold s_X12_house_1
      simp (disch := omega) only [up_pl]
      exact this
  refine ⟨fun c1 c2 c3 c4 => ⟨by omega, (W c1 c2 c3 c4).1⟩, fun c1 c2 c3 c4 => ⟨by unfold fx_i; omega, by omega, by unfold fx_i; omega, by omega, by unfold fx_i; omega, by omega⟩, rfl, ?_⟩
  unfold H_X11_house H_X12_house H_X10_setHouse
  by_cases c1 : 0 ≤ a1 ∧ a1 ≤ 7
  · by_cases c2 : 0 ≤ a2 ∧ a2 ≤ 99
    · by_cases c3 : 0 ≤ a3 ∧ a3 ≤ 1000
      · by_cases c4 : 0 ≤ a4 ∧ a4 ≤ 1000
        · rw [if_pos c1, if_pos c2, if_pos c3, if_pos c4, if_pos c1, if_pos c2, if_pos c3, if_pos c4]
          obtain ⟨w1, w2, w3⟩ := W c1 c2 c3 c4
          simp only [Int.reduceAdd] at w2 w3
          have f : ∀ a, (a < 22 ∨ 37 < a) → H_X10_putInOrder 22 (s_X10_setHouse_1 22 a1 a2 a3 a4 h) a = h a := fun a e => by
            rw [w3 a (by omega)]
            unfold s_X10_setHouse_1
            simp (disch := omega) only [Int.reduceAdd, up_cell]
          have fz : ∀ k : Int, (k < 174 ∨ 198 ≤ k) → s_X12_house_1 a1 a2 a3 a4 g 249 k = g 249 k := fun k e => by
            unfold s_X12_house_1
            simp (disch := omega) only [up_pl]
          refine set_hall al (fun a e => f a (by omega)) (fun a e => ?_) ⟨nm, nw, hl_W q w2 (Nat.le_refl _) (fun a e => f a (by omega)) (fun k e => fz k (by omega)), fun w e1 e2 => by rw [fz _ (by omega)]; exact n9 w e1 e2⟩
          unfold s_X12_house_1
          simp (disch := omega) only [up_cell]
        · rw [if_pos c1, if_pos c2, if_pos c3, if_neg c4, if_pos c1, if_pos c2, if_pos c3, if_neg c4]; exact RET.refl al
      · rw [if_pos c1, if_pos c2, if_neg c3, if_pos c1, if_pos c2, if_neg c3]; exact RET.refl al
    · rw [if_pos c1, if_neg c2, if_pos c1, if_neg c2]; exact RET.refl al
  · rw [if_neg c1, if_neg c1]; exact RET.refl al
end C2
