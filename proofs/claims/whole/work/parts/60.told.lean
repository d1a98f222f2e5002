/-! What is told. -/
theorem zwk_f {z : Int → Int} {w : Int} (q : zwk z w) : 0 ≤ z (296 + w) ∧ z (296 + w) ≤ 20000 ∧ 0 ≤ z (312 + w) ∧ z (312 + w) ≤ 6 ∧ (z (328 + w) = 0 ∨ z (328 + w) = 2 ∨ z (328 + w) = 3 ∨ z (328 + w) = 9) ∧ (z (328 + w) = 0 → z 15 ≤ z (264 + w)) ∧ (z (200 + w) = 0 ∨ z (200 + w) = 1) := by
  obtain ⟨hK, -, -, -, -, -, -, -, -, -, hD1, hD2, hC1, hC2, hO, -, h0⟩ := q
  exact ⟨hD1, hD2, hC1, hC2, hO, fun e => (h0 e).1, hK⟩
section TL
variable {h g : pH}
theorem m_cell (al : AL h g) (a1 a2 : Int) : P_X11_cell a1 a2 h ∧ P_X12_cell a1 a2 g ∧ F_X11_cell a1 a2 h = F_X12_cell a1 a2 g := by
  obtain ⟨nm, nw, q, n9⟩ := id al.1
  obtain ⟨⟨a0, a01, a02, a8, ac, ak⟩, b0, b0', b1, b1', b2, b2', b8, b8', bc, bk⟩ := q.1
  have a8 : h 2 8 = g 249 8 := a8
  have e : ∀ c : Int, 0 ≤ c → c < 12 → s_X0_gauge_1 2 c h = s_X12_gauge_1 c g ∧ -150022500 ≤ s_X12_gauge_1 c g ∧ s_X12_gauge_1 c g ≤ 100000000 := fun c e1 e2 => by
    unfold s_X0_gauge_1 s_X12_gauge_1
    rw [a8]
    by_cases w : g 249 8 = 0
    · rw [if_pos w, if_pos w]
      exact ⟨(ac c e1 e2).1, (bc c e1 e2).1, (bc c e1 e2).2.1⟩
    · rw [if_neg w, if_neg w]
      have := ak ((g 249 8 - 1) * 12 + c) (by omega) (by omega)
      have w2 := bk ((g 249 8 - 1) * 12 + c) (by omega) (by omega)
      rw [show 440 + 12 * (g 249 8 - 1) + c = 440 + ((g 249 8 - 1) * 12 + c) by omega]
      exact ⟨this, w2⟩
  refine ⟨fun c1 c2 => ⟨fun _ => by omega, fun _ => (gauge_X 2 a1 h (by omega) (by omega)).1⟩, fun c1 c2 => ⟨⟨fun _ => ⟨by unfold fx_i; omega, by omega⟩, fun _ => (gauge_M a1 g (by omega) (by omega)).1⟩, ?_⟩, ?_⟩
  · have := e a1 c1.1 (by omega)
    have w2 := bc a1 c1.1 (by omega)
    unfold s_X12_cell_1 fx_i
    split <;> omega
  · unfold F_X11_cell F_X12_cell s_X12_cell_2 s_X11_cell_1 s_X12_cell_1
    by_cases c1 : 0 ≤ a1 ∧ a1 ≤ 11
    · rw [if_pos c1, if_pos c1, (e a1 c1.1 (by omega)).1, show h 3 a1 = g 249 (20 + a1) from (ac a1 c1.1 (by omega)).1]
    · rw [if_neg c1, if_neg c1]
theorem m_of (al : AL h g) (a1 a2 : Int) : P_X11_of a1 a2 h ∧ P_X12_of a1 a2 g ∧ F_X11_of a1 a2 h = F_X12_of a1 a2 g := by
  obtain ⟨nm, nw, q, n9⟩ := id al.1
  obtain ⟨⟨mn, mm⟩, cn, c10, cm⟩ := q.2.1
  obtain ⟨-, dn, d16, -⟩ := q.2.2.2.1
  have mn : h 8 10 = nm := mn
  unfold P_X11_of P_X6_tell P_X12_of P_X12_isMachine F_X11_of F_X6_tell F_X12_of s_X12_of_1 P_X12_at
  rw [mn, cn]
  refine ⟨⟨by unfold fx_i; omega, fun c => ⟨fun _ => by omega, fun _ => ⟨fun _ => by omega, fun _ => ⟨fun _ => by omega, fun _ => ⟨fun _ => by omega, fun _ _ => by omega⟩⟩⟩⟩⟩, ⟨by unfold fx_l; omega, fun c1 c2 => ⟨⟨fun _ => by unfold fx_i; omega, fun _ => ⟨fun _ => by unfold fx_i; omega, fun _ => ⟨fun _ => by unfold fx_i; omega, fun _ => ⟨fun _ => by unfold fx_i; omega, fun _ => by unfold fx_i; omega⟩⟩⟩⟩, ?_, ?_⟩⟩, ?_⟩
  · (repeat' split) <;> omega
  · have := cm a1 c1.1 (by omega)
    unfold fx_i
    (repeat' split) <;> omega
  · by_cases c : 0 ≤ a1 ∧ a1 ≤ (nm : Int) - 1
    · rw [if_pos c, if_pos c]
      have := mm a1 c.1 (by omega)
      simp only [Int.reduceAdd] at this ⊢
      by_cases c2 : 0 ≤ a2 ∧ a2 ≤ 4
      · rw [if_pos c2]
        by_cases w0 : a2 = 0
        · rw [if_pos w0, if_pos w0]; exact this.2.2.2.2.2.2.2.1
        · by_cases w1 : a2 = 1
          · rw [if_neg w0, if_neg w0, if_pos w1, if_pos w1]; exact this.2.2.2.2.2.2.2.2
          · by_cases w2 : a2 = 2
            · rw [if_neg w0, if_neg w0, if_neg w1, if_neg w1, if_pos w2, if_pos w2]; exact this.2.2.2.2.2.1
            · by_cases w3 : a2 = 3
              · rw [if_neg w0, if_neg w0, if_neg w1, if_neg w1, if_neg w2, if_neg w2, if_pos w3, if_pos w3]; exact this.2.2.2.2.2.2.1
              · rw [if_neg w0, if_neg w0, if_neg w1, if_neg w1, if_neg w2, if_neg w2, if_neg w3, if_neg w3, if_pos (show a2 = 4 by omega)]; exact this.1
      · rw [if_neg c2, if_neg (show ¬ a2 = 0 by omega), if_neg (show ¬ a2 = 1 by omega), if_neg (show ¬ a2 = 2 by omega), if_neg (show ¬ a2 = 3 by omega), if_neg (show ¬ a2 = 4 by omega)]
    · rw [if_neg c, if_neg c]
theorem m_work (al : AL h g) (a1 a2 : Int) : P_X11_work a1 a2 h ∧ P_X12_work a1 a2 g ∧ F_X11_work a1 a2 h = F_X12_work a1 a2 g := by
  obtain ⟨nm, nw, q, n9⟩ := id al.1
  obtain ⟨-, cn, c10, -⟩ := q.2.1
  obtain ⟨⟨wn, wh, ww, wo⟩, dn, d16, dh, dw⟩ := q.2.2.2.1
  have wn : h 22 15 = nw := wn
  unfold P_X11_work P_X10_tell P_X12_work P_X12_isWork F_X11_work F_X10_tell F_X12_work s_X12_work_2 s_X12_work_1 P_X12_at
  rw [wn, dn]
  refine ⟨⟨by unfold fx_i; omega, fun c => ⟨fun _ => by omega, fun _ => ⟨fun _ => by omega, fun _ => ⟨fun _ => by omega, fun _ => ⟨fun _ => by omega, fun _ _ => by omega⟩⟩⟩⟩⟩, ⟨by unfold fx_l; omega, fun c1 c2 => ⟨fun _ => ⟨by unfold fx_i; omega, by omega, fun _ => (isOpen_M a1 g c1.1 (by omega)).1, fun _ => ⟨by omega, ?_⟩⟩, fun _ => ⟨⟨fun _ => by unfold fx_i; omega, fun _ => ⟨fun _ => by unfold fx_i; omega, fun _ => ⟨fun _ => by unfold fx_i; omega, fun _ => by unfold fx_i; omega⟩⟩⟩, ?_, ?_⟩⟩⟩, ?_⟩
  · obtain ⟨-, -, -, -, f5, -, -⟩ := zwk_f (dw a1 c1.1 (by omega)).1
    unfold fx_i; omega
  · (repeat' split) <;> omega
  · obtain ⟨d0, d1, d2, d3⟩ := dw a1 c1.1 (by omega)
    obtain ⟨f1, f2, f3, f4, -, -, -⟩ := zwk_f d0
    unfold fx_i
    (repeat' split) <;> omega
  · by_cases c : 0 ≤ a1 ∧ a1 ≤ (nw : Int) - 1
    · rw [if_pos c, if_pos c]
      have := ww a1 c.1 (by omega)
      obtain ⟨-, -, -, -, -, f6, -⟩ := zwk_f (dw a1 c.1 (by omega)).1
      simp only [Int.reduceAdd] at this ⊢
      by_cases c2 : 0 ≤ a2 ∧ a2 ≤ 4
      · rw [if_pos c2]
        by_cases w0 : a2 = 0
        · rw [if_pos w0, if_pos w0]
          rw [this.2.2.2.2.2.2.2.1]
          have z9 := n9 a1 c.1 (by omega)
          unfold zst nst
          rw [if_neg z9]
          by_cases zo : g 249 (328 + a1) = 0
          · rw [if_neg (fun y => y zo), if_pos zo]
            by_cases zk : g 249 (200 + a1) = 0 ∨ g 249 (248 + a1) ≤ g 249 15
            · rw [if_pos zk, if_pos ⟨zo, zk.elim Or.inl (fun y => Or.inr ⟨y, f6 zo⟩)⟩]
            · rw [if_neg zk, if_neg (fun y => zk (y.2.elim Or.inl (fun x => Or.inr x.1)))]
          · rw [if_pos zo, if_neg zo]
        · by_cases w1 : a2 = 1
          · rw [if_neg w0, if_neg w0, if_pos w1, if_pos w1]; exact this.2.2.2.2.2.2.1
          · by_cases w2 : a2 = 2
            · rw [if_neg w0, if_neg w0, if_neg w1, if_neg w1, if_pos w2, if_pos w2]; exact this.2.2.2.2.2.2.2.2.1
            · by_cases w3 : a2 = 3
              · rw [if_neg w0, if_neg w0, if_neg w1, if_neg w1, if_neg w2, if_neg w2, if_pos w3, if_pos w3]; exact this.2.1
              · rw [if_neg w0, if_neg w0, if_neg w1, if_neg w1, if_neg w2, if_neg w2, if_neg w3, if_neg w3, if_pos (show a2 = 4 by omega)]; exact this.2.2.2.2.2.2.2.2.2
      · rw [if_neg c2, if_neg (show ¬ a2 = 0 by omega), if_neg (show ¬ a2 = 1 by omega), if_neg (show ¬ a2 = 2 by omega), if_neg (show ¬ a2 = 3 by omega), if_neg (show ¬ a2 = 4 by omega)]
    · rw [if_neg c, if_neg c]
end TL
