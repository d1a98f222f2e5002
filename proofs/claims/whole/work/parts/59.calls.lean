/-! The relation of the whole, and the plain calls. -/
noncomputable def hal (b : Int) (h : pH) (z : Int → Int) : Prop := ∃ nm nw : Nat, hl b h z nm nw 9999 ∧ ∀ w : Int, 0 ≤ w → w < nw → z (328 + w) ≠ 9
noncomputable def IMG (h g : pH) : Prop := ∀ i : Int, 0 ≤ i → i ≤ 1 → (h 94 i = 0 ∨ h 94 i = 1) ∧ h 94 i = g 254 i ∧ (h 94 i = 1 → hal (156 + 46 * i) h (g (251 + i)))
noncomputable def BOK (h g : pH) : Prop := h 99 3 = g 248 20 ∧ 0 ≤ h 99 3 ∧ h 99 3 ≤ 40 ∧ (h 99 2 = 0 ∨ h 99 2 = 1) ∧ h 99 2 = g 248 21 ∧ (h 99 2 = 0 → h 99 3 = 0) ∧ (h 99 2 = 1 → hal 100 h (g 253)) ∧ ∀ i : Int, 0 ≤ i → i < h 99 3 → h 146 i = g 264 i
noncomputable def DRL (h g : pH) : Prop := ∀ d : Int, 0 ≤ d → d < 4 → (g 270 d = 0 ∧ h 96 d = 0) ∨ (g 270 d = 1 ∧ h 96 d = g 273 d ∧ h 97 d = g 271 d ∧ h 98 d = g 272 d ∧ 1 ≤ h 96 d ∧ h 96 d ≤ 30 ∧ 0 ≤ h 97 d ∧ h 97 d ≤ 500 ∧ 0 ≤ h 98 d ∧ h 98 d ≤ 100000)
noncomputable def AL (h g : pH) : Prop := hal 1 h (g 249) ∧ IMG h g ∧ BOK h g ∧ DRL h g
noncomputable def RET (h g h' g' : pH) : Prop := AL h' g' ∧ (∀ a, (a = 153 ∨ 248 ≤ a) → h' a = h a) ∧ (∀ a, a < 248 → g' a = g a)
theorem hal_cg {b : Int} {h h' : pH} {z z' : Int → Int} (q : hal b h z) (e : ∀ a, b ≤ a → a < b + 46 → h' a = h a) (ez : ∀ k : Int, 0 ≤ k → k < 620 → z' k = z k) : hal b h' z' := by
  obtain ⟨nm, nw, q, n9⟩ := q
  have := q.2.2.2.1.2.2.1
  exact ⟨nm, nw, hl_cg q e ez, fun w e1 e2 => by rw [ez _ (by omega) (by omega)]; exact n9 w e1 e2⟩
theorem RET.refl {h g : pH} (al : AL h g) : RET h g h g := ⟨al, fun _ _ => rfl, fun _ _ => rfl⟩
/-- the first hall changed, scratch changed -/
theorem ret_hall {h g h' g' : pH} (al : AL h g) (e1 : ∀ a, ((94 ≤ a ∧ a ≤ 146) ∨ a = 153 ∨ 156 ≤ a) → h' a = h a) (e2 : ∀ a, (a < 248 ∨ (251 ≤ a ∧ a ≤ 254) ∨ a = 264 ∨ (270 ≤ a ∧ a ≤ 273)) → g' a = g a) (e3 : g' 248 20 = g 248 20) (e4 : g' 248 21 = g 248 21) (hh : hal 1 h' (g' 249)) : RET h g h' g' := by
  obtain ⟨-, i, b, d⟩ := al
  refine ⟨⟨hh, fun j j1 j2 => ?_, ?_, fun j j1 j2 => ?_⟩, fun a e => e1 a (by omega), fun a e => e2 a (by omega)⟩
  · rw [e1 94 (by omega), e2 254 (by omega), e2 (251 + j) (by omega)]
    obtain ⟨i1, i2, i3⟩ := i j j1 j2
    exact ⟨i1, i2, fun z => hal_cg (i3 z) (fun a a1 a2 => e1 a (by omega)) (fun _ _ _ => rfl)⟩
  · unfold BOK
    rw [e1 99 (by omega), e1 146 (by omega), e2 253 (by omega), e2 264 (by omega), e3, e4]
    obtain ⟨b1, b2, b3, b4, b5, b6, b7, b8⟩ := b
    exact ⟨b1, b2, b3, b4, b5, b6, fun z => hal_cg (b7 z) (fun a a1 a2 => e1 a (by omega)) (fun _ _ _ => rfl), b8⟩
  · rw [e1 96 (by omega), e1 97 (by omega), e1 98 (by omega), e2 270 (by omega), e2 271 (by omega), e2 272 (by omega), e2 273 (by omega)]
    exact d j j1 j2
theorem set_hall {h g h' g' : pH} (al : AL h g) (e1 : ∀ a, (a < 1 ∨ 46 < a) → h' a = h a) (e2 : ∀ a, a ≠ 249 → g' a = g a) (hh : hal 1 h' (g' 249)) : RET h g h' g' :=
  ret_hall al (fun a e => e1 a (by omega)) (fun a e => e2 a (by omega)) (by rw [e2 248 (by omega)]) (by rw [e2 248 (by omega)]) hh
section PL
variable {h g : pH}
theorem m_room (al : AL h g) (a1 a2 a3 : Int) : F_X11_room a1 a2 a3 h = F_X12_room a1 a2 a3 g ∧ RET h g (H_X11_room a1 a2 a3 h) (H_X12_room a1 a2 a3 g) := by
  refine ⟨rfl, ?_⟩
  unfold H_X11_room H_X12_room
  by_cases c1 : 0 ≤ a1 ∧ a1 ≤ 500
  · by_cases c2 : 0 ≤ a2 ∧ a2 ≤ 500
    · by_cases c3 : 0 ≤ a3 ∧ a3 ≤ 200
      · rw [if_pos c1, if_pos c2, if_pos c3, if_pos c1, if_pos c2, if_pos c3]
        obtain ⟨nm, nw, q, n9⟩ := id al.1
        exact set_hall al (fun a e => by rw [up_cell _ (by omega), up_cell _ (by omega), up_cell _ (by omega)]) (fun a e => by rw [up_cell _ e, up_cell _ e, up_cell _ e]) ⟨nm, nw, hl_flow (hl_wall (hl_out q c1) c2) c3, fun w e1 e2 => by rw [up_pl _ (by omega), up_pl _ (by omega), up_pl _ (by omega)]; exact n9 w e1 e2⟩
      · rw [if_pos c1, if_pos c2, if_neg c3, if_pos c1, if_pos c2, if_neg c3]; exact RET.refl al
    · rw [if_pos c1, if_neg c2, if_pos c1, if_neg c2]; exact RET.refl al
  · rw [if_neg c1, if_neg c1]; exact RET.refl al
theorem m_heat (al : AL h g) (a1 a2 : Int) : P_X11_heat a1 a2 h ∧ P_X12_heat a1 a2 g ∧ F_X11_heat a1 a2 h = F_X12_heat a1 a2 g ∧ RET h g (H_X11_heat a1 a2 h) (H_X12_heat a1 a2 g) := by
  obtain ⟨nm, nw, q, n9⟩ := id al.1
  have qa := q.1
  refine ⟨fun c _ => by omega, fun c1 c2 => ⟨by unfold fx_i; omega, ⟨by omega, by have := qa.2.2.2.2.2.2.2.2.2.1 a1 c1.1 (by omega); unfold fx_i; omega⟩⟩, ?_, ?_⟩
  · unfold F_X11_heat F_X12_heat s_X12_heat_2 F_X12_change
    by_cases c1 : 0 ≤ a1 ∧ a1 ≤ 11
    · rw [if_pos c1, if_pos c1]
      have : h 3 a1 = g 249 (20 + a1) := (qa.1.2.2.2.2.1 a1 c1.1 (by omega)).1
      rw [this]
    · rw [if_neg c1, if_neg c1]
  · unfold H_X11_heat H_X12_heat s_X12_heat_1 H_X12_change
    by_cases c1 : 0 ≤ a1 ∧ a1 ≤ 11
    · by_cases c2 : 0 ≤ a2 ∧ a2 ≤ 100000
      · rw [if_pos c1, if_pos c2, if_pos c1, if_pos c2]
        exact set_hall al (fun a e => by rw [up_cell _ (by omega)]) (fun a e => by rw [up_cell _ e]) ⟨nm, nw, hl_heat q (by omega) (by omega), fun w e1 e2 => by rw [up_pl _ (by omega)]; exact n9 w e1 e2⟩
      · rw [if_pos c1, if_neg c2, if_pos c1, if_neg c2]; exact RET.refl al
    · rw [if_neg c1, if_neg c1]; exact RET.refl al
theorem m_cooler (al : AL h g) (a1 a2 a3 : Int) : P_X11_cooler a1 a2 a3 h ∧ P_X12_cooler a1 a2 a3 g ∧ F_X11_cooler a1 a2 a3 h = F_X12_cooler a1 a2 a3 g ∧ RET h g (H_X11_cooler a1 a2 a3 h) (H_X12_cooler a1 a2 a3 g) := by
  obtain ⟨nm, nw, q, n9⟩ := id al.1
  refine ⟨fun c _ _ => by omega, fun c1 c2 c3 => ⟨by unfold fx_i; omega, by omega, by unfold fx_i; omega, by omega⟩, rfl, ?_⟩
  unfold H_X11_cooler H_X12_cooler
  by_cases c1 : 0 ≤ a1 ∧ a1 ≤ 11
  · by_cases c2 : 0 ≤ a2 ∧ a2 ≤ 10000
    · by_cases c3 : 0 ≤ a3 ∧ a3 ≤ 5000
      · rw [if_pos c1, if_pos c2, if_pos c3, if_pos c1, if_pos c2, if_pos c3]
        exact set_hall al (fun a e => by rw [up_cell _ (by omega), up_cell _ (by omega)]) (fun a e => by rw [up_cell _ e, up_cell _ e]) ⟨nm, nw, hl_aim (hl_takes q (by omega) c2) (by omega) c3, fun w e1 e2 => by rw [up_pl _ (by omega), up_pl _ (by omega)]; exact n9 w e1 e2⟩
      · rw [if_pos c1, if_pos c2, if_neg c3, if_pos c1, if_pos c2, if_neg c3]; exact RET.refl al
    · rw [if_pos c1, if_neg c2, if_pos c1, if_neg c2]; exact RET.refl al
  · rw [if_neg c1, if_neg c1]; exact RET.refl al
theorem m_feed (al : AL h g) (a1 a2 : Int) : P_X11_feed a1 a2 h ∧ P_X12_feed a1 a2 g ∧ F_X11_feed a1 a2 h = F_X12_feed a1 a2 g ∧ RET h g (H_X11_feed a1 a2 h) (H_X12_feed a1 a2 g) := by
  obtain ⟨nm, nw, q, n9⟩ := id al.1
  have qa := q.2.2.1
  refine ⟨fun c _ => by omega, fun c1 c2 => ⟨by unfold fx_i; omega, ⟨by omega, by have := qa.2.2.1.2.2.2.2.2.2.2.2.2.2.2.2 a1 c1.1 (by omega); unfold fx_i; omega⟩⟩, ?_, ?_⟩
  · unfold F_X11_feed F_X12_feed s_X12_feed_2 F_X12_change
    by_cases c1 : 0 ≤ a1 ∧ a1 ≤ 3
    · rw [if_pos c1, if_pos c1]
      have : h 20 a1 = g 249 (56 + a1) := qa.1.2.2.2.2.2.2.2 a1 c1.1 (by omega)
      rw [this]
    · rw [if_neg c1, if_neg c1]
  · unfold H_X11_feed H_X12_feed s_X12_feed_1 H_X12_change
    by_cases c1 : 0 ≤ a1 ∧ a1 ≤ 3
    · by_cases c2 : 0 ≤ a2 ∧ a2 ≤ 10000
      · rw [if_pos c1, if_pos c2, if_pos c1, if_pos c2]
        exact set_hall al (fun a e => by rw [up_cell _ (by omega)]) (fun a e => by rw [up_cell _ e]) ⟨nm, nw, hl_feed q (by omega) (by omega), fun w e1 e2 => by rw [up_pl _ (by omega)]; exact n9 w e1 e2⟩
      · rw [if_pos c1, if_neg c2, if_pos c1, if_neg c2]; exact RET.refl al
    · rw [if_neg c1, if_neg c1]; exact RET.refl al
theorem m_net (al : AL h g) (a1 : Int) : P_X12_net a1 g ∧ F_X11_net a1 h = F_X12_net a1 g ∧ RET h g (H_X11_net a1 h) (H_X12_net a1 g) := by
  obtain ⟨nm, nw, q, n9⟩ := id al.1
  have qa := q.2.2.1
  refine ⟨fun c1 => ⟨by omega, by have := qa.2.2.1.1; have := qa.2.2.1.2.1; unfold fx_i; omega⟩, ?_, ?_⟩
  · unfold F_X11_net F_X12_net s_X12_net_1 F_X12_change
    have : h 19 2 = g 249 3 := qa.1.1
    rw [this]
  · unfold H_X11_net H_X12_net H_X12_change
    by_cases c1 : 0 ≤ a1 ∧ a1 ≤ 100000
    · rw [if_pos c1, if_pos c1]
      exact set_hall al (fun a e => by rw [up_cell _ (by omega)]) (fun a e => by rw [up_cell _ e]) ⟨nm, nw, hl_net q c1, fun w e1 e2 => by rw [up_pl _ (by omega)]; exact n9 w e1 e2⟩
    · rw [if_neg c1, if_neg c1]; exact RET.refl al
theorem m_price (al : AL h g) (a1 a2 : Int) : P_X11_price a1 a2 h ∧ P_X12_price a1 a2 g ∧ F_X11_price a1 a2 h = F_X12_price a1 a2 g ∧ RET h g (H_X11_price a1 a2 h) (H_X12_price a1 a2 g) := by
  obtain ⟨nm, nw, q, n9⟩ := id al.1
  have qa := q.2.2.1
  refine ⟨fun c _ => by omega, fun c1 c2 => ⟨by unfold fx_i; omega, ⟨by omega, by have := qa.2.2.1.2.2.2.2.2.2.2.2.2.2.2.1 a1 c1.1 (by omega); unfold fx_i; omega⟩⟩, ?_, ?_⟩
  · unfold F_X11_price F_X12_price s_X12_price_2 F_X12_change
    by_cases c1 : 0 ≤ a1 ∧ a1 ≤ 23
    · rw [if_pos c1, if_pos c1]
      have : h 21 a1 = g 249 (60 + a1) := qa.1.2.2.2.2.2.2.1 a1 c1.1 (by omega)
      rw [this]
    · rw [if_neg c1, if_neg c1]
  · unfold H_X11_price H_X12_price s_X12_price_1 H_X12_change
    by_cases c1 : 0 ≤ a1 ∧ a1 ≤ 23
    · by_cases c2 : 0 ≤ a2 ∧ a2 ≤ 1000
      · rw [if_pos c1, if_pos c2, if_pos c1, if_pos c2]
        exact set_hall al (fun a e => by rw [up_cell _ (by omega)]) (fun a e => by rw [up_cell _ e]) ⟨nm, nw, hl_price q (by omega) (by omega), fun w e1 e2 => by rw [up_pl _ (by omega)]; exact n9 w e1 e2⟩
      · rw [if_pos c1, if_neg c2, if_pos c1, if_neg c2]; exact RET.refl al
    · rw [if_neg c1, if_neg c1]; exact RET.refl al
theorem m_store (al : AL h g) (a1 a2 a3 : Int) : F_X11_store a1 a2 a3 h = F_X12_store a1 a2 a3 g ∧ RET h g (H_X11_store a1 a2 a3 h) (H_X12_store a1 a2 a3 g) := by
  obtain ⟨nm, nw, q, n9⟩ := id al.1
  have e7 : h 19 6 = g 249 7 := q.2.2.1.1.2.2.2.2.1
  unfold F_X11_store F_X12_store H_X11_store H_X12_store
  rw [e7]
  refine ⟨rfl, ?_⟩
  by_cases c1 : 0 ≤ a1 ∧ a1 ≤ 100000
  · by_cases c2 : 0 ≤ a2 ∧ a2 ≤ 10000
    · by_cases c3 : 0 ≤ a3 ∧ a3 ≤ 1000
      · by_cases c4 : g 249 7 ≤ a1
        · rw [if_pos c1, if_pos c2, if_pos c3, if_pos c4, if_pos c1, if_pos c2, if_pos c3, if_pos c4]
          exact set_hall al (fun a e => by rw [up_cell _ (by omega), up_cell _ (by omega), up_cell _ (by omega)]) (fun a e => by rw [up_cell _ e, up_cell _ e, up_cell _ e]) ⟨nm, nw, hl_high (hl_rate (hl_stor q c1 c4) c2) c3, fun w e1 e2 => by rw [up_pl _ (by omega), up_pl _ (by omega), up_pl _ (by omega)]; exact n9 w e1 e2⟩
        · rw [if_pos c1, if_pos c2, if_pos c3, if_neg c4, if_pos c1, if_pos c2, if_pos c3, if_neg c4]; exact RET.refl al
      · rw [if_pos c1, if_pos c2, if_neg c3, if_pos c1, if_pos c2, if_neg c3]; exact RET.refl al
    · rw [if_pos c1, if_neg c2, if_pos c1, if_neg c2]; exact RET.refl al
  · rw [if_neg c1, if_neg c1]; exact RET.refl al
theorem m_late (al : AL h g) (a1 : Int) : P_X12_late a1 g ∧ F_X11_late a1 h = F_X12_late a1 g ∧ RET h g (H_X11_late a1 h) (H_X12_late a1 g) := by
  obtain ⟨nm, nw, q, n9⟩ := id al.1
  have qa := q.1
  refine ⟨fun c1 => ⟨by omega, by have := qa.2.2.2.2.2.2.2.1; have := qa.2.2.2.2.2.2.2.2.1; unfold fx_i; omega⟩, ?_, ?_⟩
  · unfold F_X11_late F_X12_late s_X12_late_1 F_X12_change
    have : h 2 8 = g 249 8 := qa.1.2.2.2.1
    rw [this]
  · unfold H_X11_late H_X12_late H_X12_change
    by_cases c1 : 0 ≤ a1 ∧ a1 ≤ 5
    · rw [if_pos c1, if_pos c1]
      exact set_hall al (fun a e => by rw [up_cell _ (by omega)]) (fun a e => by rw [up_cell _ e]) ⟨nm, nw, hl_late q c1, fun w e1 e2 => by rw [up_pl _ (by omega)]; exact n9 w e1 e2⟩
    · rw [if_neg c1, if_neg c1]; exact RET.refl al
theorem m_odds (al : AL h g) (a1 a2 a3 : Int) (h3 : fx_i a3) : F_X11_odds a1 a2 a3 h = F_X12_odds a1 a2 a3 g ∧ RET h g (H_X11_odds a1 a2 a3 h) (H_X12_odds a1 a2 a3 g) := by
  obtain ⟨nm, nw, q, n9⟩ := id al.1
  refine ⟨rfl, ?_⟩
  unfold H_X11_odds H_X12_odds
  by_cases c1 : 0 ≤ a1 ∧ a1 ≤ 100
  · by_cases c2 : 0 ≤ a2 ∧ a2 ≤ 100
    · rw [if_pos c1, if_pos c2, if_pos c1, if_pos c2]
      exact set_hall al (fun a e => by rw [up_cell _ (by omega), up_cell _ (by omega), up_cell _ (by omega)]) (fun a e => by rw [up_cell _ e, up_cell _ e, up_cell _ e]) ⟨nm, nw, hl_odds q c1 c2 h3, fun w e1 e2 => by rw [up_pl _ (by omega), up_pl _ (by omega), up_pl _ (by omega)]; exact n9 w e1 e2⟩
    · rw [if_pos c1, if_neg c2, if_pos c1, if_neg c2]; exact RET.refl al
  · rw [if_neg c1, if_neg c1]; exact RET.refl al
end PL
