/-! The digest. -/
theorem dig_rel {σ : Type} (N : Nat) (M1 M2 : Int) (fx fm : Int → Int) (hh : ∀ i : Nat, i < N → fx i = fm i) {c d : Int × Int → Prop} {f gg : Int × Int → Int × Int} {P Q : Int × Int → Prop} (x : Int) (hc : ∀ (y : Int) (i : Nat), i < N → c (y, (i : Int))) (hd : ∀ (y : Int) (i : Nat), i < N → d (y, (i : Int))) (nc : ∀ (y : Int), ¬ c (y, (N : Int))) (nd : ∀ (y : Int), ¬ d (y, (N : Int)))
    (hf : ∀ (y : Int) (i : Nat), i < N → f (y, (i : Int)) = (pm_wl (pm_wl (31 * y) + fx i), (i : Int) + 1)) (hg : ∀ (y : Int) (i : Nat), i < N → gg (y, (i : Int)) = (pm_wl (pm_wl (31 * y) + fm i), (i : Int) + 1)) (hP : ∀ (y : Int) (i : Nat), i ≤ N → P (y, (i : Int))) (hQ : ∀ (y : Int) (i : Nat), i ≤ N → Q (y, (i : Int))) :
    fx_ok c f P (x, 0) ∧ fx_ok d gg Q (x, 0) ∧ (fx_wh c f (x, 0)).1 = (fx_wh d gg (x, 0)).1 := by
  have R := fx_rel (c := c) (f := f) (P := P) (s0 := (x, 0)) (d := d) (g := gg) (P' := Q) (t0 := (x, 0)) N (fun i s t => i ≤ N ∧ s = t ∧ s.2 = (i : Int)) ⟨by omega, rfl, rfl⟩
    (by
      rintro i ⟨y, j⟩ ⟨y', j'⟩ hi ⟨i0, e1, e2⟩
      dsimp only at e2
      subst e2
      obtain ⟨rfl, rfl⟩ := Prod.mk.inj e1
      refine ⟨⟨hP y i i0, hc y i hi⟩, ⟨hQ y i i0, hd y i hi⟩, by omega, ?_, ?_⟩
      · rw [hf y i hi, hg y i hi, hh i hi]
      · rw [hf y i hi]
        show (i : Int) + 1 = _
        omega)
    (by
      rintro ⟨y, j⟩ ⟨y', j'⟩ ⟨i0, e1, e2⟩
      dsimp only at e2
      subst e2
      obtain ⟨rfl, rfl⟩ := Prod.mk.inj e1
      exact ⟨⟨hP y N i0, nc y⟩, ⟨hQ y N i0, nd y⟩⟩)
  exact ⟨R.1, R.2.1, congrArg Prod.fst R.2.2.2.1⟩
theorem dig_rel2 (N : Nat) {c d : Int × Int → Prop} {f gg : Int × Int → Int × Int} {P Q : Int × Int → Prop} (x : Int) (hc : ∀ (y : Int) (i : Nat), i < N → c (y, (i : Int))) (hd : ∀ (y : Int) (i : Nat), i < N → d (y, (i : Int))) (nc : ∀ (y : Int), ¬ c (y, (N : Int))) (nd : ∀ (y : Int), ¬ d (y, (N : Int)))
    (hf : ∀ (y : Int) (i : Nat), i < N → f (y, (i : Int)) = gg (y, (i : Int)) ∧ (f (y, (i : Int))).2 = (i : Int) + 1) (hP : ∀ (y : Int) (i : Nat), i ≤ N → P (y, (i : Int))) (hQ : ∀ (y : Int) (i : Nat), i ≤ N → Q (y, (i : Int))) :
    fx_ok c f P (x, 0) ∧ fx_ok d gg Q (x, 0) ∧ (fx_wh c f (x, 0)).1 = (fx_wh d gg (x, 0)).1 := by
  have R := fx_rel (c := c) (f := f) (P := P) (s0 := (x, 0)) (d := d) (g := gg) (P' := Q) (t0 := (x, 0)) N (fun i s t => i ≤ N ∧ s = t ∧ s.2 = (i : Int)) ⟨by omega, rfl, rfl⟩
    (by
      rintro i ⟨y, j⟩ ⟨y', j'⟩ hi ⟨i0, e1, e2⟩
      dsimp only at e2
      subst e2
      obtain ⟨rfl, rfl⟩ := Prod.mk.inj e1
      refine ⟨⟨hP y i i0, hc y i hi⟩, ⟨hQ y i i0, hd y i hi⟩, by omega, (hf y i hi).1, ?_⟩
      rw [(hf y i hi).2]
      omega)
    (by
      rintro ⟨y, j⟩ ⟨y', j'⟩ ⟨i0, e1, e2⟩
      dsimp only at e2
      subst e2
      obtain ⟨rfl, rfl⟩ := Prod.mk.inj e1
      exact ⟨⟨hP y N i0, nc y⟩, ⟨hQ y N i0, nd y⟩⟩)
  exact ⟨R.1, R.2.1, congrArg Prod.fst R.2.2.2.1⟩
theorem m_digest {h g : pH} (al : AL h g) : P_X11_digest h ∧ P_X12_digest g ∧ F_X11_digest h = F_X12_digest g := by
  obtain ⟨nm, nw, q, n9⟩ := id al.1
  have mn : h 8 10 = nm := q.2.1.1.1
  have cn : g 249 12 = nm := q.2.1.2.1
  have c10 := q.2.1.2.2.1
  have wn : h 22 15 = nw := q.2.2.2.1.1.1
  have dn : g 249 13 = nw := q.2.2.2.1.2.1
  have d16 := q.2.2.2.1.2.2.1
  have lot : h 43 2 = g 249 11 := q.2.2.2.2.1.1.2.2.1
  have fi : ∀ i : Nat, i ≤ 20 → fx_i ((i : Int) + 1) := fun i e => by unfold fx_i; omega
  have D1 := dig_rel (σ := Int) 7 0 0 (fun i => F_X11_count i h) (fun i => F_X12_count i g) (fun i _ => (m_count al i).2.2) (c := fun s => C_X11_digest_4 h s.1 s.2) (f := fun s => B_X11_digest_4 h s.1 s.2) (P := fun s => P_X11_digest_4 h s.1 s.2) (d := fun s => C_X12_digest_4 g s.1 s.2) (gg := fun s => B_X12_digest_4 g s.1 s.2) (Q := fun s => P_X12_digest_4 g s.1 s.2) 359
    (fun y i hi => by show (i : Int) ≤ 6; omega) (fun y i hi => by show (i : Int) < 7; omega) (fun y => by show ¬ (((7 : Nat) : Int) ≤ 6); omega) (fun y => by show ¬ (((7 : Nat) : Int) < 7); omega) (fun y i hi => rfl) (fun y i hi => rfl) (fun y i hi _ => ⟨(m_count al i).1, fi i (by omega)⟩) (fun y i hi _ => ⟨(m_count al i).2.1, fi i (by omega)⟩)
  obtain ⟨x1, y1, e1⟩ := D1
  have e1 : (L_X11_digest_4 h 359 0).1 = (L_X12_digest_4 g 359 0).1 := e1
  have D2 := dig_rel (σ := Int) 8 0 0 (fun i => F_X11_now i h) (fun i => F_X12_now i g) (fun i _ => (m_now al i).2.2) (c := fun s => C_X11_digest_20 h s.1 s.2) (f := fun s => B_X11_digest_20 h s.1 s.2) (P := fun s => P_X11_digest_20 h s.1 s.2) (d := fun s => C_X12_digest_20 g s.1 s.2) (gg := fun s => B_X12_digest_20 g s.1 s.2) (Q := fun s => P_X12_digest_20 g s.1 s.2) (L_X12_digest_4 g 359 0).1
    (fun y i hi => by show (i : Int) ≤ 7; omega) (fun y i hi => by show (i : Int) < 8; omega) (fun y => by show ¬ (((8 : Nat) : Int) ≤ 7); omega) (fun y => by show ¬ (((8 : Nat) : Int) < 8); omega) (fun y i hi => rfl) (fun y i hi => rfl) (fun y i hi _ => ⟨(m_now al i).1, fi i (by omega)⟩) (fun y i hi _ => ⟨(m_now al i).2.1, fi i (by omega)⟩)
  obtain ⟨x2, y2, e2⟩ := D2
  have e2 : s_X11_digest_1 h = s_X12_digest_1 g := by unfold s_X11_digest_1 s_X12_digest_1; rw [e1]; exact e2
  have gau : ∀ i : Nat, i < 12 → h 3 i = g 249 (20 + i) ∧ s_X0_gauge_1 2 i h = s_X12_gauge_1 i g ∧ P_X0_gauge 2 i h ∧ P_X12_gauge i g := fun i hi => by
    obtain ⟨p1, p2, p3⟩ := m_cell al i 1
    obtain ⟨-, -, r3⟩ := m_cell al i 0
    have ci : 0 ≤ (i : Int) ∧ (i : Int) ≤ 11 := by omega
    unfold F_X11_cell F_X12_cell s_X12_cell_2 s_X11_cell_1 s_X12_cell_1 at p3 r3
    rw [if_pos ci, if_pos (by omega), if_neg (by omega), if_pos ci, if_pos (by omega), if_neg (by omega)] at p3
    rw [if_pos ci, if_pos (by omega), if_pos rfl, if_pos ci, if_pos (by omega), if_pos rfl] at r3
    exact ⟨r3, p3, (p1 ci (by omega)).2 (by omega), (p2 ci (by omega)).1.2 (by omega)⟩
  have D3 := dig_rel2 12 (c := fun s => C_X11_digest_35 h s.1 s.2) (f := fun s => B_X11_digest_35 h s.1 s.2) (P := fun s => P_X11_digest_35 h s.1 s.2) (d := fun s => C_X12_digest_35 g s.1 s.2) (gg := fun s => B_X12_digest_35 g s.1 s.2) (Q := fun s => P_X12_digest_35 g s.1 s.2) (s_X12_digest_1 g)
    (fun y i hi => by show (i : Int) < 12; omega) (fun y i hi => by show (i : Int) < 12; omega) (fun y => by show ¬ (((12 : Nat) : Int) < 12); omega) (fun y => by show ¬ (((12 : Nat) : Int) < 12); omega)
    (fun y i hi => ⟨by
      show B_X11_digest_35 h y i = B_X12_digest_35 g y i
      unfold B_X11_digest_35 B_X12_digest_35
      rw [(gau i hi).1, (gau i hi).2.1], rfl⟩)
    (fun y i hi z => by
      have z' : (i : Int) < 12 := z
      exact ⟨by show 0 ≤ (i : Int) ∧ (i : Int) < 12; omega, (gau i (by omega)).2.2.1, fi i (by omega)⟩)
    (fun y i hi z => by
      have z' : (i : Int) < 12 := z
      exact ⟨by show fx_i (20 + (i : Int)); unfold fx_i; omega, by show 0 ≤ 20 + (i : Int) ∧ 20 + (i : Int) < 620; omega, (gau i (by omega)).2.2.2, fi i (by omega)⟩)
  obtain ⟨x3, y3, e3⟩ := D3
  have e3 : s_X11_digest_3 h = s_X12_digest_3 g := by unfold s_X11_digest_3 s_X12_digest_3; rw [e2]; exact e3
  -- machines
  have I4 : ∀ (i : Nat) (y : Int), i < nm → O_X11_digest_73 i h y 0 ∧ O_X12_digest_69 i g y 0 ∧ (L_X11_digest_73 i h y 0).1 = (L_X12_digest_69 i g y 0).1 := fun i y hi =>
    dig_rel (σ := Int) 5 0 0 (fun j => F_X6_tell 8 i j h) (fun j => s_X12_digest_5 i j g) (fun j _ => (m_of al i j).2.2) (c := fun s => C_X11_digest_73 i h s.1 s.2) (f := fun s => B_X11_digest_73 i h s.1 s.2) (P := fun s => P_X11_digest_73 i h s.1 s.2) (d := fun s => C_X12_digest_69 i g s.1 s.2) (gg := fun s => B_X12_digest_69 i g s.1 s.2) (Q := fun s => P_X12_digest_69 i g s.1 s.2) y
      (fun y j hj => by show (j : Int) ≤ 4; omega) (fun y j hj => by show (j : Int) < 5; omega) (fun y => by show ¬ (((5 : Nat) : Int) ≤ 4); omega) (fun y => by show ¬ (((5 : Nat) : Int) < 5); omega) (fun y j hj => rfl) (fun y j hj => rfl) (fun y j hj _ => ⟨(m_of al i j).1, fi j (by omega)⟩) (fun y j hj _ => ⟨(m_of al i j).2.1, fi j (by omega)⟩)
  have D4 := dig_rel2 nm (c := fun s => C_X11_digest_65 h s.1 s.2) (f := fun s => B_X11_digest_65 h s.1 s.2) (P := fun s => P_X11_digest_65 h s.1 s.2) (d := fun s => C_X12_digest_59 g s.1 s.2) (gg := fun s => B_X12_digest_59 g s.1 s.2) (Q := fun s => P_X12_digest_59 g s.1 s.2) (s_X12_digest_3 g)
    (fun y i hi => by show (i : Int) < h 8 10; omega) (fun y i hi => by show (i : Int) < g 249 12; omega) (fun y => by show ¬ ((nm : Int) < h 8 10); omega) (fun y => by show ¬ ((nm : Int) < g 249 12); omega)
    (fun y i hi => ⟨by
      show B_X11_digest_65 h y i = B_X12_digest_59 g y i
      unfold B_X11_digest_65 B_X12_digest_59
      rw [(I4 i y hi).2.2], rfl⟩)
    (fun y i hi z => by
      have z' : (i : Int) < h 8 10 := z
      exact ⟨(I4 i y (by omega)).1, fi i (by omega)⟩)
    (fun y i hi z => by
      have z' : (i : Int) < g 249 12 := z
      exact ⟨(I4 i y (by omega)).2.1, fi i (by omega)⟩)
  obtain ⟨x4, y4, e4⟩ := D4
  have e4 : s_X11_digest_5 h = s_X12_digest_6 g := by unfold s_X11_digest_5 s_X12_digest_6; rw [e3]; exact e4
  -- works
  have I5 : ∀ (i : Nat) (y : Int), i < nw → O_X11_digest_102 i h y 0 ∧ O_X12_digest_98 i g y 0 ∧ (L_X11_digest_102 i h y 0).1 = (L_X12_digest_98 i g y 0).1 := fun i y hi =>
    dig_rel (σ := Int) 5 0 0 (fun j => F_X10_tell 22 i j h) (fun j => s_X12_digest_8 i j g) (fun j _ => (m_work al i j).2.2) (c := fun s => C_X11_digest_102 i h s.1 s.2) (f := fun s => B_X11_digest_102 i h s.1 s.2) (P := fun s => P_X11_digest_102 i h s.1 s.2) (d := fun s => C_X12_digest_98 i g s.1 s.2) (gg := fun s => B_X12_digest_98 i g s.1 s.2) (Q := fun s => P_X12_digest_98 i g s.1 s.2) y
      (fun y j hj => by show (j : Int) ≤ 4; omega) (fun y j hj => by show (j : Int) < 5; omega) (fun y => by show ¬ (((5 : Nat) : Int) ≤ 4); omega) (fun y => by show ¬ (((5 : Nat) : Int) < 5); omega) (fun y j hj => rfl) (fun y j hj => rfl) (fun y j hj _ => ⟨(m_work al i j).1, fi j (by omega)⟩) (fun y j hj _ => ⟨(m_work al i j).2.1, fi j (by omega)⟩)
  have D5 := dig_rel2 nw (c := fun s => C_X11_digest_94 h s.1 s.2) (f := fun s => B_X11_digest_94 h s.1 s.2) (P := fun s => P_X11_digest_94 h s.1 s.2) (d := fun s => C_X12_digest_88 g s.1 s.2) (gg := fun s => B_X12_digest_88 g s.1 s.2) (Q := fun s => P_X12_digest_88 g s.1 s.2) (s_X12_digest_6 g)
    (fun y i hi => by show (i : Int) < h 22 15; omega) (fun y i hi => by show (i : Int) < g 249 13; omega) (fun y => by show ¬ ((nw : Int) < h 22 15); omega) (fun y => by show ¬ ((nw : Int) < g 249 13); omega)
    (fun y i hi => ⟨by
      show B_X11_digest_94 h y i = B_X12_digest_88 g y i
      unfold B_X11_digest_94 B_X12_digest_88
      rw [(I5 i y hi).2.2], rfl⟩)
    (fun y i hi z => by
      have z' : (i : Int) < h 22 15 := z
      exact ⟨(I5 i y (by omega)).1, fi i (by omega)⟩)
    (fun y i hi z => by
      have z' : (i : Int) < g 249 13 := z
      exact ⟨(I5 i y (by omega)).2.1, fi i (by omega)⟩)
  obtain ⟨x5, y5, e5⟩ := D5
  have e5 : s_X11_digest_7 h = s_X12_digest_9 g := by unfold s_X11_digest_7 s_X12_digest_9; rw [e4]; exact e5
  have D6 := dig_rel (σ := Int) 8 0 0 (fun i => F_X10_billOf 22 i h) (fun i => F_X12_bill i g) (fun i hi => ((m_bill al i).2.2.2 (by omega)).2) (c := fun s => C_X11_digest_123 h s.1 s.2) (f := fun s => B_X11_digest_123 h s.1 s.2) (P := fun s => P_X11_digest_123 h s.1 s.2) (d := fun s => C_X12_digest_117 g s.1 s.2) (gg := fun s => B_X12_digest_117 g s.1 s.2) (Q := fun s => P_X12_digest_117 g s.1 s.2) (s_X12_digest_9 g)
    (fun y i hi => by show (i : Int) < 8; omega) (fun y i hi => by show (i : Int) < 8; omega) (fun y => by show ¬ (((8 : Nat) : Int) < 8); omega) (fun y => by show ¬ (((8 : Nat) : Int) < 8); omega) (fun y i hi => rfl) (fun y i hi => rfl)
    (fun y i hi z => by
      have z' : (i : Int) < 8 := z
      exact ⟨((m_bill al i).2.2.2 (by omega)).1, fi i (by omega)⟩)
    (fun y i hi _ => ⟨(m_bill al i).2.1, fi i (by omega)⟩)
  obtain ⟨x6, y6, e6⟩ := D6
  have e6 : s_X11_digest_9 h = s_X12_digest_11 g := by unfold s_X11_digest_9 s_X12_digest_11; rw [e5]; exact e6
  refine ⟨⟨x1, ?_, ?_, ?_, ?_, ?_⟩, ⟨y1, y2, y3, y4, y5, y6⟩, ?_⟩
  · rw [e1]; exact x2
  · rw [e2]; exact x3
  · rw [e3]; exact x4
  · rw [e4]; exact x5
  · rw [e5]; exact x6
  · unfold F_X11_digest F_X12_digest
    rw [e6, lot]
