/-! Counts, bills, the record, images; the digest. -/
theorem zst_2 {z : Int → Int} {w : Int} (q : zwk z w) : (zst z w = 2 ↔ z (328 + w) = 2) ∧ (zst z w = 3 ↔ z (328 + w) = 3) := by
  obtain ⟨-, -, -, -, f5, -, -⟩ := zwk_f q
  unfold zst nst
  by_cases c9 : z (328 + w) = 9
  · rw [if_pos c9]; omega
  · rw [if_neg c9]
    by_cases c0 : z (328 + w) = 0
    · rw [if_neg (fun y => y c0)]
      split <;> omega
    · rw [if_pos c0]; exact ⟨Iff.rfl, Iff.rfl⟩
theorem ite_iff (p q : Prop) [Decidable p] [Decidable q] (a b : Int) (h : p ↔ q) : (if p then a else b) = (if q then a else b) := by
  by_cases c : p
  · rw [if_pos c, if_pos (h.mp c)]
  · rw [if_neg c, if_neg (fun y => c (h.mpr y))]
section C4
variable {h g : pH}
/-- works in a state, counted -/
theorem cnt_both {b : Int} {nm nw : Nat} {T : Int} (q : hl b h (g 249) nm nw T) : (P_X10_countIn (b + 21) 1 h ∧ P_X12_openWorks g ∧ F_X10_countIn (b + 21) 1 h = F_X12_openWorks g) ∧ (P_X10_countIn (b + 21) 2 h ∧ P_X12_overs 2 g ∧ F_X10_countIn (b + 21) 2 h = F_X12_overs 2 g) ∧ (P_X10_countIn (b + 21) 3 h ∧ P_X12_overs 3 g ∧ F_X10_countIn (b + 21) 3 h = F_X12_overs 3 g) := by
  obtain ⟨⟨wn, wh, ww, wo⟩, dn, d16, dh, dw⟩ := id q.2.2.2.1
  have st : ∀ w : Int, 0 ≤ w → w < nw → h (b + 21 + 11) w = zst (g 249) w := fun w e1 e2 => by rw [show b + 21 + 11 = b + 32 by omega]; exact (ww w e1 e2).2.2.2.2.2.2.2.1
  have c1 := cnt_X (b + 21) 1 h nw wn d16
  have c2 := cnt_X (b + 21) 2 h nw wn d16
  have c3 := cnt_X (b + 21) 3 h nw wn d16
  have m1 := openWorks_M g nw dn d16
  have m2 := overs_M 2 g nw dn d16
  have m3 := overs_M 3 g nw dn d16
  refine ⟨⟨c1.1, m1.1, ?_⟩, ⟨c2.1, m2.1, ?_⟩, ⟨c3.1, m3.1, ?_⟩⟩
  · rw [c1.2, m1.2]
    exact zs_congr (fun w e1 e2 => by rw [st w e1 e2]; exact ite_iff _ _ _ _ (zst_open (dw w e1 e2).1))
  · rw [c2.2, m2.2]
    exact zs_congr (fun w e1 e2 => by rw [st w e1 e2]; exact ite_iff _ _ _ _ (zst_2 (dw w e1 e2).1).1)
  · rw [c3.2, m3.2]
    exact zs_congr (fun w e1 e2 => by rw [st w e1 e2]; exact ite_iff _ _ _ _ (zst_2 (dw w e1 e2).1).2)
/-- the sum of heat -/
theorem sum_both {b : Int} {nm nw : Nat} {T : Int} (q : hl b h (g 249) nm nw T) : P_X0_sum (b + 1) h ∧ P_X12_allHeat g ∧ F_X0_sum (b + 1) h = F_X12_allHeat g := by
  obtain ⟨⟨-, -, -, -, ac, -⟩, -, -, -, -, -, -, -, -, bc, -⟩ := id q.1
  have c := sum_X (b + 1) h (fun c e1 e2 => by rw [show b + 1 + 1 = b + 2 by omega, (ac c e1 e2).1]; have := bc c e1 e2; omega)
  have m := sum_M g (fun c e1 e2 => by have := bc c e1 e2; omega)
  refine ⟨c.1, m.1, ?_⟩
  rw [c.2, m.2]
  exact zs_congr (fun i e1 e2 => by rw [show b + 1 + 1 = b + 2 by omega]; exact (ac i e1 (by omega)).1)
theorem m_now (al : AL h g) (a1 : Int) : P_X11_now a1 h ∧ P_X12_now a1 g ∧ F_X11_now a1 h = F_X12_now a1 g := by
  obtain ⟨nm, nw, q, n9⟩ := id al.1
  obtain ⟨⟨mn, mm⟩, cn, c10, cm⟩ := id q.2.1
  have FX := failed_X 8 h nm mn c10 (fun m e1 e2 => by have := (mm m e1 e2).2.2.2.2.2.2.1; have w : h 15 m = g 249 (144 + m) := this; show 0 ≤ h 15 m ∧ h 15 m ≤ 1; rw [w]; exact (cm m e1 e2).2.2.2.2.2.2.1)
  have FM := failed_M g nm cn c10 (fun m e1 e2 => (cm m e1 e2).2.2.2.2.2.2.1)
  have eF : F_X6_countFailed 8 h = F_X12_failedOnes g := by
    rw [FX.2, FM.2]
    exact zs_congr (fun m e1 e2 => (mm m e1 e2).2.2.2.2.2.2.1)
  have C := (cnt_both q).1
  have C3 : F_X10_countIn 22 1 h = F_X12_openWorks g := C.2.2
  have S := sum_both q
  have S3 : F_X0_sum 2 h = F_X12_allHeat g := S.2.2
  obtain ⟨t1, t2, -, -, -⟩ := id q.2.2.2.2.2.2.1
  have t1 : h 1 7 = g 249 15 := t1
  have t2 : h 1 8 = g 249 16 := t2
  obtain ⟨⟨u1, u2, u3, u4, u5, u6, u7, u8⟩, h17, -⟩ := id q.2.2.1
  have u5 : h 19 6 = g 249 7 := u5
  have u6 : h 19 8 = g 249 18 := u6
  have h17 : h 19 7 = g 249 17 := h17
  refine ⟨fun _ _ _ _ => ⟨fun _ => C.1, fun _ => ⟨fun _ => FX.1, fun _ _ => S.1⟩⟩, fun _ _ _ _ => ⟨fun _ => C.2.1, fun _ => ⟨fun _ => FM.1, fun _ _ => S.2.1⟩⟩, ?_⟩
  unfold F_X11_now F_X12_now
  rw [t1, t2, u5, h17, C3, eF, S3, u6]
theorem m_count (al : AL h g) (a1 : Int) : P_X11_count a1 h ∧ P_X12_count a1 g ∧ F_X11_count a1 h = F_X12_count a1 g := by
  obtain ⟨nm, nw, q, n9⟩ := id al.1
  obtain ⟨⟨mn, mm⟩, cn, c10, cm⟩ := id q.2.1
  obtain ⟨⟨wn, wh, ww, wo⟩, dn, d16, dh, dw⟩ := id q.2.2.2.1
  obtain ⟨-, C2, C3⟩ := cnt_both q
  have C23 : F_X10_countIn 22 2 h = F_X12_overs 2 g := C2.2.2
  have C33 : F_X10_countIn 22 3 h = F_X12_overs 3 g := C3.2.2
  have m1 : h 8 10 = g 249 12 := by rw [cn]; exact mn
  have w1 : h 22 15 = g 249 13 := by rw [dn]; exact wn
  have r1 : h 38 4 = g 249 14 := q.2.2.2.2.2.1.1
  have z14 := q.2.2.2.2.2.1.2.1
  have z14' := q.2.2.2.2.2.1.2.2.1
  have l1 : h 43 3 = g 249 19 := q.2.2.2.2.1.1.2.2.2.1
  have yl := q.2.2.2.2.1.2
  have b1 := al.2.2.1.1
  refine ⟨fun _ _ => ⟨fun _ => C2.1, fun _ _ => C3.1⟩, ⟨fun _ => ⟨by omega, by unfold fx_i; omega⟩, fun _ => ⟨fun _ => ⟨by omega, by unfold fx_i; omega⟩, fun _ => ⟨fun _ => C2.2.1, fun _ => ⟨fun _ => C3.2.1, fun _ => ⟨fun _ => ⟨by omega, by unfold fx_i; omega⟩, fun _ _ _ => ⟨by omega, ?_⟩⟩⟩⟩⟩⟩, ?_⟩
  · have y6 := yl.2.2.2.2.2.1
    have y7 := yl.2.2.2.2.2.2.1
    unfold fx_i; omega
  · unfold F_X11_count F_X12_count
    rw [m1, w1, C23, C33, r1, b1, l1]
theorem m_bill (al : AL h g) (a1 : Int) : P_X11_bill a1 h ∧ P_X12_bill a1 g ∧ F_X11_bill a1 h = F_X12_bill a1 g ∧ (0 ≤ a1 ∧ a1 ≤ 7 → P_X10_billOf 22 a1 h ∧ F_X10_billOf 22 a1 h = F_X12_bill a1 g) := by
  obtain ⟨nm, nw, q, n9⟩ := id al.1
  obtain ⟨⟨wn, wh, ww, wo⟩, dn, d16, dh, dw⟩ := id q.2.2.2.1
  have B : 0 ≤ a1 ∧ a1 ≤ 7 → P_X10_billOf 22 a1 h ∧ P_X12_bill a1 g ∧ F_X10_billOf 22 a1 h = F_X12_bill a1 g := fun c => by
    have hk := wh a1 c.1 (by omega)
    simp only [Int.reduceAdd] at hk
    have dk := dh a1 c.1 (by omega)
    have bx := bill_X 22 a1 h nw wn d16 (by omega) (by show 0 ≤ h 24 a1 ∧ h 24 a1 ≤ 1000; rw [hk.2.1]; exact dk.2.1) (by show 0 ≤ h 25 a1 ∧ h 25 a1 ≤ 1000; rw [hk.2.2]; exact dk.2.2)
    have bm := bill_M a1 g nw dn d16 (by omega) dk.2.1 dk.2.2
    refine ⟨bx.1, bm.1, ?_⟩
    rw [bx.2, bm.2]
    refine zs_congr (fun w e1 e2 => ?_)
    have hw := ww w e1 e2
    have z2 := zst_2 (dw w e1 e2).1
    simp only [Int.reduceAdd] at hw ⊢
    rw [hw.2.1, hw.2.2.2.2.2.2.2.1, hk.2.1, hk.2.2]
    by_cases y : g 249 (216 + w) = a1
    · rw [if_pos y, if_pos y]
      by_cases y2 : g 249 (328 + w) = 2
      · rw [if_pos y2, if_pos (z2.1.mpr y2)]
      · rw [if_neg y2, if_neg (fun x => y2 (z2.1.mp x))]
        by_cases y3 : g 249 (328 + w) = 3
        · rw [if_pos y3, if_pos (z2.2.mpr y3)]
        · rw [if_neg y3, if_neg (fun x => y3 (z2.2.mp x))]
    · rw [if_neg y, if_neg y]
  refine ⟨fun c => (B c).1, fun c => (B c).2.1 c, ?_, fun c => ⟨(B c).1, (B c).2.2⟩⟩
  unfold F_X11_bill s_X11_bill_1
  by_cases c : 0 ≤ a1 ∧ a1 ≤ 7
  · rw [if_pos c]; exact (B c).2.2
  · rw [if_neg c]; unfold F_X12_bill; rw [if_neg c]
theorem m_record (al : AL h g) (a1 : Int) : P_X11_record a1 h ∧ P_X12_record a1 g ∧ F_X11_record a1 h = F_X12_record a1 g := by
  obtain ⟨b1, b2, b3, b4, b5, b6, b7, b8⟩ := al.2.2.1
  refine ⟨fun _ _ => by omega, fun _ _ => by omega, ?_⟩
  unfold F_X11_record F_X12_record s_X11_record_1 s_X12_record_1
  rw [b1]
  by_cases c : 0 ≤ a1
  · rw [if_pos c, if_pos c]
    by_cases c2 : g 248 20 ≤ a1
    · rw [if_pos c2, if_pos c2]
    · rw [if_neg c2, if_neg c2]; exact b8 a1 c (by omega)
  · rw [if_neg c, if_neg c]
theorem m_forge (al : AL h g) (a1 a2 : Int) : P_X11_forge a1 a2 h ∧ P_X12_forge a1 a2 g ∧ F_X11_forge a1 a2 h = F_X12_forge a1 a2 g ∧ RET h g (H_X11_forge a1 a2 h) (H_X12_forge a1 a2 g) := by
  obtain ⟨a0, ai, ab, ad⟩ := id al
  obtain ⟨b1, b2, b3, b4, b5, b6, b7, b8⟩ := id ab
  refine ⟨⟨by unfold fx_i; omega, fun c => by omega⟩, ⟨by unfold fx_i; omega, fun c => by omega⟩, ?_, ?_⟩
  · unfold F_X11_forge F_X12_forge; rw [b1]
  · unfold H_X11_forge H_X12_forge
    rw [b1]
    by_cases c : 0 ≤ a1 ∧ a1 ≤ g 248 20 - 1
    · rw [if_pos c, if_pos c]
      refine ⟨⟨?_, fun i i1 i2 => ?_, ?_, fun d d1 d2 => ?_⟩, fun a e => up_cell _ (by omega), fun a e => up_cell _ (by omega)⟩
      · rw [up_cell _ (by omega)]
        exact hal_cg a0 (fun a e1 e2 => up_cell _ (by omega)) (fun _ _ _ => rfl)
      · rw [up_cell _ (by omega), up_cell _ (by omega), up_cell _ (by omega)]
        obtain ⟨j1, j2, j3⟩ := ai i i1 i2
        exact ⟨j1, j2, fun z => hal_cg (j3 z) (fun a e1 e2 => up_cell _ (by omega)) (fun _ _ _ => rfl)⟩
      · unfold BOK
        rw [up_cell _ (show (99 : Int) ≠ 146 by omega), up_cell _ (show (248 : Int) ≠ 264 by omega), up_cell _ (show (253 : Int) ≠ 264 by omega)]
        refine ⟨b1, b2, b3, b4, b5, b6, fun z => hal_cg (b7 z) (fun a e1 e2 => up_cell _ (by omega)) (fun _ _ _ => rfl), fun i i1 i2 => ?_⟩
        by_cases y : i = a1
        · rw [y, up_eq, up_eq]
        · rw [up_pl _ y, up_pl _ y]; exact b8 i i1 i2
      · rw [up_cell _ (by omega), up_cell _ (by omega), up_cell _ (by omega), up_cell _ (by omega), up_cell _ (by omega), up_cell _ (by omega), up_cell _ (by omega)]
        exact ad d d1 d2
    · rw [if_neg c, if_neg c]; exact RET.refl al
theorem m_drill (al : AL h g) (a1 a2 a3 a4 : Int) : P_X11_drill a1 a2 a3 a4 h ∧ P_X12_drill a1 a2 a3 a4 g ∧ F_X11_drill a1 a2 a3 a4 h = F_X12_drill a1 a2 a3 a4 g ∧ RET h g (H_X11_drill a1 a2 a3 a4 h) (H_X12_drill a1 a2 a3 a4 g) := by
  obtain ⟨a0, ai, ab, ad⟩ := id al
  refine ⟨fun _ _ _ _ => by omega, fun _ _ _ _ => by omega, rfl, ?_⟩
  unfold H_X11_drill H_X12_drill
  by_cases c1 : 0 ≤ a1 ∧ a1 ≤ 3
  · by_cases c2 : 0 ≤ a2 ∧ a2 ≤ 500
    · by_cases c3 : 0 ≤ a3 ∧ a3 ≤ 100000
      · by_cases c4 : 1 ≤ a4 ∧ a4 ≤ 30
        · rw [if_pos c1, if_pos c2, if_pos c3, if_pos c4, if_pos c1, if_pos c2, if_pos c3, if_pos c4]
          obtain ⟨h1, eh⟩ : ∃ x, x = pm_upd (pm_upd (pm_upd h 96 a1 a4) 97 a1 a2) 98 a1 a3 := ⟨_, rfl⟩
          obtain ⟨g1, eg⟩ : ∃ x, x = s_X12_drill_1 a1 a2 a3 a4 g := ⟨_, rfl⟩
          rw [← eh, ← eg]
          have fh : ∀ a, (a < 96 ∨ 98 < a) → h1 a = h a := fun a e => by rw [eh]; simp (disch := omega) only [up_cell]
          have fg : ∀ a, (a < 270 ∨ 273 < a) → g1 a = g a := fun a e => by rw [eg]; unfold s_X12_drill_1; simp (disch := omega) only [up_cell]
          refine ⟨⟨?_, fun i i1 i2 => ?_, ?_, fun d d1 d2 => ?_⟩, fun a e => fh a (by omega), fun a e => fg a (by omega)⟩
          · rw [fg 249 (by omega)]
            exact hal_cg a0 (fun a e1 e2 => fh a (by omega)) (fun _ _ _ => rfl)
          · rw [fh 94 (by omega), fg 254 (by omega), fg _ (by omega)]
            obtain ⟨j1, j2, j3⟩ := ai i i1 i2
            exact ⟨j1, j2, fun z => hal_cg (j3 z) (fun a e1 e2 => fh a (by omega)) (fun _ _ _ => rfl)⟩
          · unfold BOK
            rw [fh 99 (by omega), fh 146 (by omega), fg 248 (by omega), fg 253 (by omega), fg 264 (by omega)]
            obtain ⟨b1, b2, b3, b4, b5, b6, b7, b8⟩ := id ab
            exact ⟨b1, b2, b3, b4, b5, b6, fun z => hal_cg (b7 z) (fun a e1 e2 => fh a (by omega)) (fun _ _ _ => rfl), b8⟩
          · have := ad d d1 d2
            rw [eh, eg]
            unfold s_X12_drill_1
            by_cases y : d = a1
            · subst y
              right
              simp (disch := omega) only [up_cell, up_eq]
              exact ⟨trivial, trivial, trivial, trivial, c4.1, c4.2, c2.1, c2.2, c3.1, c3.2⟩
            · simp (disch := omega) only [up_cell, up_pl]
              exact this
        · rw [if_pos c1, if_pos c2, if_pos c3, if_neg c4, if_pos c1, if_pos c2, if_pos c3, if_neg c4]; exact RET.refl al
      · rw [if_pos c1, if_pos c2, if_neg c3, if_pos c1, if_pos c2, if_neg c3]; exact RET.refl al
    · rw [if_pos c1, if_neg c2, if_pos c1, if_neg c2]; exact RET.refl al
  · rw [if_neg c1, if_neg c1]; exact RET.refl al
/-- an image of a hall -/
theorem hal_copy {d s : Int} {z z' : Int → Int} (hd : d + 46 ≤ s ∨ s + 46 ≤ d) (q : hal s h z) (ez : ∀ k : Int, 0 ≤ k → k < 620 → z' k = z k) : hal d (H_X4_copyFrom d s h) z' ∧ ∀ a, (a < d ∨ d + 46 ≤ a) → H_X4_copyFrom d s h a = h a := by
  obtain ⟨nm, nw, q, n9⟩ := q
  have c := hl_copy hd q ez
  have := q.2.2.2.1.2.2.1
  exact ⟨⟨nm, nw, c.1, fun w e1 e2 => by rw [ez _ (by omega) (by omega)]; exact n9 w e1 e2⟩, c.2⟩
theorem m_begin (al : AL h g) : P_X12_begin g ∧ F_X11_begin h = F_X12_begin g ∧ RET h g (H_X11_begin h) (H_X12_begin g) := by
  obtain ⟨a0, ai, ab, ad⟩ := id al
  obtain ⟨p1, p2, p3⟩ := copy_M 249 253 g (by omega)
  obtain ⟨c1, c2⟩ := hal_copy (d := 100) (s := 1) (z' := H_X12_copy 249 253 g 253) (by omega) a0 p3
  obtain ⟨h1, eh⟩ : ∃ x, x = H_X11_begin h := ⟨_, rfl⟩
  obtain ⟨g1, eg⟩ : ∃ x, x = H_X12_begin g := ⟨_, rfl⟩
  have eh' : h1 = pm_upd (pm_upd (H_X4_copyFrom 100 1 h) 99 2 1) 99 3 0 := eh
  have eg' : g1 = pm_upd (pm_upd (H_X12_copy 249 253 g) 248 20 0) 248 21 1 := eg
  refine ⟨p1, ab.1, ?_⟩
  rw [← eh, ← eg]
  have fh : ∀ a, (a < 99 ∨ 146 ≤ a) → h1 a = h a := fun a e => by rw [eh', up_cell _ (by omega), up_cell _ (by omega)]; exact c2 a (by omega)
  have fg : ∀ a, a ≠ 248 → a ≠ 253 → g1 a = g a := fun a e1 e2 => by rw [eg', up_cell _ e1, up_cell _ e1]; exact p2 a e2
  refine ⟨⟨?_, fun i i1 i2 => ?_, ?_, fun d d1 d2 => ?_⟩, fun a e => fh a (by omega), fun a e => fg a (by omega) (by omega)⟩
  · rw [fg 249 (by omega) (by omega)]
    exact hal_cg a0 (fun a e1 e2 => fh a (by omega)) (fun _ _ _ => rfl)
  · rw [fh 94 (by omega), fg 254 (by omega) (by omega), fg _ (by omega) (by omega)]
    obtain ⟨j1, j2, j3⟩ := ai i i1 i2
    exact ⟨j1, j2, fun z => hal_cg (j3 z) (fun a e1 e2 => fh a (by omega)) (fun _ _ _ => rfl)⟩
  · have e3 : h1 99 3 = 0 := by rw [eh', up_eq]
    have e2 : h1 99 2 = 1 := by rw [eh', up_pl _ (by omega), up_eq]
    have e20 : g1 248 20 = 0 := by rw [eg', up_pl _ (by omega), up_eq]
    have e21 : g1 248 21 = 1 := by rw [eg', up_eq]
    unfold BOK
    rw [e3, e2, e20, e21]
    refine ⟨rfl, by omega, by omega, Or.inr rfl, rfl, fun z => rfl, fun _ => hal_cg c1 (fun a e1 e2 => ?_) (fun k _ _ => ?_), fun i i1 i2 => by omega⟩
    · rw [eh', up_cell _ (by omega), up_cell _ (by omega)]
    · rw [eg', up_cell _ (by omega), up_cell _ (by omega)]
  · rw [fh 96 (by omega), fh 97 (by omega), fh 98 (by omega), fg 270 (by omega) (by omega), fg 271 (by omega) (by omega), fg 272 (by omega) (by omega), fg 273 (by omega) (by omega)]
    exact ad d d1 d2
theorem m_image (al : AL h g) (a1 : Int) : P_X11_image a1 h ∧ P_X12_image a1 g ∧ F_X11_image a1 h = F_X12_image a1 g ∧ RET h g (H_X11_image a1 h) (H_X12_image a1 g) := by
  obtain ⟨a0, ai, ab, ad⟩ := id al
  refine ⟨fun _ => by omega, fun _ => ⟨⟨fun _ => (copy_M 249 251 g (by omega)).1, fun _ => (copy_M 249 252 g (by omega)).1⟩, by omega⟩, rfl, ?_⟩
  unfold H_X11_image H_X12_image
  by_cases c : 0 ≤ a1 ∧ a1 ≤ 1
  · rw [if_pos c, if_pos c]
    have eg0 : s_X12_image_1 a1 g = H_X12_copy 249 (251 + a1) g := by
      unfold s_X12_image_1
      by_cases y : a1 = 0
      · rw [if_pos y, y]; rfl
      · rw [if_neg y, show a1 = 1 by omega]; rfl
    obtain ⟨p1, p2, p3⟩ := copy_M 249 (251 + a1) g (by omega)
    obtain ⟨c1, c2⟩ := hal_copy (d := 156 + 46 * a1) (s := 1) (z' := H_X12_copy 249 (251 + a1) g (251 + a1)) (by omega) a0 p3
    rw [eg0]
    obtain ⟨h1, eh⟩ : ∃ x, x = pm_upd (H_X4_copyFrom (156 + 46 * a1) 1 h) 94 a1 1 := ⟨_, rfl⟩
    obtain ⟨g1, eg⟩ : ∃ x, x = pm_upd (H_X12_copy 249 (251 + a1) g) 254 a1 1 := ⟨_, rfl⟩
    rw [← eh, ← eg]
    have fh : ∀ a, a ≠ 94 → (a < 156 + 46 * a1 ∨ 156 + 46 * a1 + 46 ≤ a) → h1 a = h a := fun a e1 e2 => by rw [eh, up_cell _ e1]; exact c2 a e2
    have fg : ∀ a, a ≠ 254 → a ≠ 251 + a1 → g1 a = g a := fun a e1 e2 => by rw [eg, up_cell _ e1]; exact p2 a e2
    refine ⟨⟨?_, fun i i1 i2 => ?_, ?_, fun d d1 d2 => ?_⟩, fun a e => fh a (by omega) (by omega), fun a e => fg a (by omega) (by omega)⟩
    · rw [fg 249 (by omega) (by omega)]
      exact hal_cg a0 (fun a e1 e2 => fh a (by omega) (by omega)) (fun _ _ _ => rfl)
    · by_cases y : i = a1
      · subst y
        have e1 : h1 94 i = 1 := by rw [eh, up_eq]
        have e2 : g1 254 i = 1 := by rw [eg, up_eq]
        rw [e1, e2]
        refine ⟨Or.inr rfl, rfl, fun _ => hal_cg c1 (fun a e1 e2 => ?_) (fun k _ _ => ?_)⟩
        · rw [eh, up_cell _ (by omega)]
        · rw [eg, up_cell _ (by omega)]
      · have e1 : h1 94 i = h 94 i := by rw [eh, up_pl _ y, c2 94 (by omega)]
        have e2 : g1 254 i = g 254 i := by rw [eg, up_pl _ y, p2 254 (by omega)]
        rw [e1, e2, fg (251 + i) (by omega) (by omega)]
        obtain ⟨j1, j2, j3⟩ := ai i i1 i2
        exact ⟨j1, j2, fun z => hal_cg (j3 z) (fun a e1 e2 => fh a (by omega) (by omega)) (fun _ _ _ => rfl)⟩
    · unfold BOK
      rw [fh 99 (by omega) (by omega), fh 146 (by omega) (by omega), fg 248 (by omega) (by omega), fg 253 (by omega) (by omega), fg 264 (by omega) (by omega)]
      obtain ⟨b1, b2, b3, b4, b5, b6, b7, b8⟩ := id ab
      exact ⟨b1, b2, b3, b4, b5, b6, fun z => hal_cg (b7 z) (fun a e1 e2 => fh a (by omega) (by omega)) (fun _ _ _ => rfl), b8⟩
    · rw [fh 96 (by omega) (by omega), fh 97 (by omega) (by omega), fh 98 (by omega) (by omega), fg 270 (by omega) (by omega), fg 271 (by omega) (by omega), fg 272 (by omega) (by omega), fg 273 (by omega) (by omega)]
      exact ad d d1 d2
  · rw [if_neg c, if_neg c]; exact RET.refl al
theorem m_from (al : AL h g) (a1 : Int) : P_X11_from a1 h ∧ P_X12_from a1 g ∧ F_X11_from a1 h = F_X12_from a1 g ∧ RET h g (H_X11_from a1 h) (H_X12_from a1 g) := by
  obtain ⟨a0, ai, ab, ad⟩ := id al
  refine ⟨fun _ => by omega, fun _ => ⟨by omega, fun _ => ⟨fun _ => (copy_M 251 249 g (by omega)).1, fun _ => (copy_M 252 249 g (by omega)).1⟩⟩, ?_, ?_⟩
  · unfold F_X11_from F_X12_from
    by_cases c : 0 ≤ a1 ∧ a1 ≤ 1
    · rw [if_pos c, if_pos c, (ai a1 c.1 c.2).2.1]
    · rw [if_neg c, if_neg c]
  · unfold H_X11_from H_X12_from
    by_cases c : 0 ≤ a1 ∧ a1 ≤ 1
    · obtain ⟨j1, j2, j3⟩ := ai a1 c.1 c.2
      rw [if_pos c, if_pos c, j2]
      by_cases z0 : g 254 a1 = 0
      · rw [if_pos z0, if_pos z0]; exact RET.refl al
      · rw [if_neg z0, if_neg z0]
        have eg0 : s_X12_from_1 a1 g = H_X12_copy (251 + a1) 249 g := by
          unfold s_X12_from_1
          by_cases y : a1 = 0
          · rw [if_pos y, y]; rfl
          · rw [if_neg y, show a1 = 1 by omega]; rfl
        rw [eg0]
        obtain ⟨p1, p2, p3⟩ := copy_M (251 + a1) 249 g (by omega)
        obtain ⟨c1, c2⟩ := hal_copy (d := 1) (s := 156 + 46 * a1) (z' := H_X12_copy (251 + a1) 249 g 249) (by omega) (j3 (by omega)) p3
        exact set_hall al (fun a e => c2 a (by omega)) p2 c1
    · rw [if_neg c, if_neg c]; exact RET.refl al
end C4
