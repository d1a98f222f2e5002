/-! Works, rules. -/
theorem yl_rul {b : Int} {h : pH} {z z' : Int → Int} {nm nw : Nat} {T : Int} (q : hl b h z nm nw T) (ez : ∀ k : Int, ((0 ≤ k ∧ k < 14) ∨ (15 ≤ k ∧ k < 376) ∨ 440 ≤ k) → z' k = z k) : yl z' nm nw := by
  obtain ⟨q1, q2, q3, q4, q5, q6, q7, q8⟩ := q
  have a1 := AIR_cg (h' := h) (z' := z') q1 (fun a _ _ => rfl) (fun k _ => ez k (by omega))
  have a2 := MAC_cg (h' := h) (z' := z') q2 (fun a _ _ => rfl) (fun k _ => ez k (by omega))
  have a3 := POW_cg (h' := h) (z' := z') q3 (fun a _ _ => rfl) (fun k _ => ez k (by omega))
  have a4 := WKS_cg (h' := h) (z' := z') q4 (fun a _ _ => rfl) (fun k _ => ez k (by omega))
  have a5 := LOT_cg (h' := h) (z' := z') q5 (fun a _ _ => rfl) (fun k _ => ez k (by omega))
  have a7 := TIM_cg (h' := h) (z' := z') q7 rfl (fun k _ => ez k (by omega))
  exact ⟨a1.2, a2.2, a3.2.2.1, a3.2.2.2, a4.2, a5.2, a7.2.2.1, a7.2.2.2⟩
section C3
variable {h g : pH}
noncomputable def wkh (b n K H N F T p S : Int) (h : pH) : pH :=
  pm_upd (pm_upd (pm_upd (pm_upd (pm_upd (pm_upd (pm_upd (pm_upd (pm_upd (pm_upd (pm_upd h (b + 25) n K) (b + 28) n F) (b + 29) n T) (b + 32) n S) (b + 26) n H) (b + 27) n N) (b + 30) n p) (b + 31) n 0) (b + 33) n 0) (b + 35) n (-1)) (b + 21) 15 (n + 1)
noncomputable def wkg (n K H N F T p : Int) (g : pH) : pH :=
  pm_upd (pm_upd (pm_upd (pm_upd (pm_upd (pm_upd (pm_upd (pm_upd (pm_upd (pm_upd (pm_upd (pm_upd g 249 (200 + n) K) 249 (216 + n) H) 249 (232 + n) N) 249 (248 + n) F) 249 (264 + n) T) 249 (280 + n) p) 249 (296 + n) 0) 249 (312 + n) 0) 249 (328 + n) 0) 249 (344 + n) (-1)) 249 (360 + n) 0) 249 13 (n + 1)
theorem hl_wkh {b : Int} {nm nw : Nat} {TT K H N F T p S : Int} (q : hl b h (g 249) nm nw TT) (n16 : nw < 16) (hH : 0 ≤ H ∧ H ≤ 7) (hp : -1 ≤ p ∧ p < nm) (hk : nwk K N F T 0 0 0 0 (g 249 15)) (hS : S = nst 0 K F (g 249 15)) :
    P_X10_putInOrder (b + 21) (wkh b nw K H N F T p S h) ∧ hl b (H_X10_putInOrder (b + 21) (wkh b nw K H N F T p S h)) (wkg nw K H N F T p g 249) nm (nw + 1) TT ∧ (∀ a, (a < b + 21 ∨ b + 36 < a) → H_X10_putInOrder (b + 21) (wkh b nw K H N F T p S h) a = h a) ∧ (∀ a, a ≠ 249 → wkg nw K H N F T p g a = g a) ∧ wkg nw K H N F T p g 249 (328 + nw) = 0 ∧ (∀ w : Int, 0 ≤ w → w < nw → wkg nw K H N F T p g 249 (328 + w) = g 249 (328 + w)) := by
  obtain ⟨⟨wn, wh, ww, wo⟩, dn, d16, dh, dw⟩ := id q.2.2.2.1
  have ek : ∀ k : Int, ((0 ≤ k ∧ k < 13) ∨ (14 ≤ k ∧ k < 200) ∨ 376 ≤ k) → wkg nw K H N F T p g 249 k = g 249 k := fun k e => by unfold wkg; simp (disch := omega) only [up_pl]
  have O := WKS_ord (b := b) (h1 := wkh b nw K H N F T p S h) (z := wkg nw K H N F T p g 249) (nm := nm) (nw := nw + 1) ?_ (fun k e1 e2 => ?_) (fun w e1 e2 => ?_) ⟨?_, by omega, fun k e1 e2 => ?_, fun w e1 e2 => ?_⟩
  · obtain ⟨o1, o2, o3⟩ := O
    have f : ∀ a, (a < b + 21 ∨ b + 36 < a) → H_X10_putInOrder (b + 21) (wkh b nw K H N F T p S h) a = h a := fun a e => by
      rw [o3 a (by omega)]
      unfold wkh
      simp (disch := omega) only [up_cell]
    refine ⟨o1, hl_W q o2 (by omega) f (fun k e => ek k (by omega)), f, fun a e => ?_, ?_, fun w e1 e2 => ?_⟩
    · unfold wkg; simp (disch := omega) only [up_cell]
    · unfold wkg; simp (disch := omega) only [up_pl, up_eq]
    · unfold wkg; simp (disch := omega) only [up_pl]
  · unfold wkh; rw [up_eq]; omega
  · unfold wkh
    rw [ek _ (by omega), ek _ (by omega), ek _ (by omega)]
    simp (disch := omega) only [up_cell]
    exact wh k e1 e2
  · by_cases c : w = nw
    · subst c
      unfold zst
      rw [ek 15 (by omega)]
      unfold wkh wkg
      simp (disch := omega) only [up_cell, up_pl, up_eq]
      exact ⟨trivial, trivial, trivial, trivial, trivial, trivial, trivial, hS, trivial, trivial⟩
    · have := ww w e1 (by omega)
      unfold zst at this ⊢
      rw [ek 15 (by omega)]
      unfold wkh wkg
      simp (disch := omega) only [up_cell, up_pl]
      exact this
  · unfold wkg; rw [up_eq]; omega
  · rw [ek _ (by omega), ek _ (by omega), ek _ (by omega)]
    exact dh k e1 e2
  · by_cases c : w = nw
    · subst c
      unfold zwk
      rw [ek 15 (by omega)]
      unfold wkg
      simp (disch := omega) only [up_pl, up_eq]
      exact ⟨hk, by omega, hp, by omega⟩
    · have := dw w e1 (by omega)
      unfold zwk at this ⊢
      rw [ek 15 (by omega)]
      unfold wkg
      simp (disch := omega) only [up_pl]
      exact this
theorem addW_M {K H N F T p : Int} {nw : Nat} (dn : g 249 13 = nw) (n16 : nw < 16) : P_X12_addWork K H N F T p g ∧ F_X12_addWork K H N F T p g = nw ∧ H_X12_addWork K H N F T p g = wkg nw K H N F T p g := by
  unfold P_X12_addWork F_X12_addWork H_X12_addWork s_X12_addWork_10 s_X12_addWork_9 s_X12_addWork_8 s_X12_addWork_7 s_X12_addWork_6 s_X12_addWork_5 s_X12_addWork_4 s_X12_addWork_3 s_X12_addWork_2 s_X12_addWork_1 wkg P_X12_at
  rw [dn]
  simp (disch := omega) only [up_pl, dn]
  refine ⟨fun _ => ?_, ?_, ?_⟩
  · unfold fx_i fx_l; omega
  · rw [if_neg (by omega)]
  · rw [if_neg (by omega)]
theorem addW_full {K H N F T p : Int} (dn : g 249 13 = 16) : P_X12_addWork K H N F T p g ∧ F_X12_addWork K H N F T p g = -4 ∧ H_X12_addWork K H N F T p g = g := by
  unfold P_X12_addWork F_X12_addWork H_X12_addWork
  exact ⟨fun z => absurd dn z, if_pos dn, if_pos dn⟩
theorem m_batch (al : AL h g) (a1 a2 a3 a4 : Int) : P_X11_batch a1 a2 a3 a4 h ∧ P_X12_batch a1 a2 a3 a4 g ∧ F_X11_batch a1 a2 a3 a4 h = F_X12_batch a1 a2 a3 a4 g ∧ RET h g (H_X11_batch a1 a2 a3 a4 h) (H_X12_batch a1 a2 a3 a4 g) := by
  obtain ⟨nm, nw, q, n9⟩ := id al.1
  obtain ⟨⟨mn, -⟩, cn, c10, -⟩ := id q.2.1
  obtain ⟨⟨wn, -, -, -⟩, dn, d16, -, -⟩ := id q.2.2.2.1
  obtain ⟨t1, t2, t3, t4, t5⟩ := id q.2.2.2.2.2.2.1
  have tt := q.2.2.2.2.2.2.2
  have mn : h 8 10 = nm := mn
  have wn : h 22 15 = nw := wn
  have t1 : h 1 7 = g 249 15 := t1
  unfold P_X11_batch P_X12_batch F_X11_batch F_X12_batch H_X11_batch H_X12_batch s_X12_batch_1 s_X12_batch_2 P_X11_isPin P_X12_isPin
  rw [mn, cn, t1]
  by_cases c : (0 ≤ a1 ∧ a1 ≤ 7) ∧ (1 ≤ a2 ∧ a2 ≤ 1000) ∧ (g 249 15 ≤ a3 ∧ a3 ≤ 9999) ∧ (-1 ≤ a4 ∧ a4 ≤ (nm : Int) - 1)
  · obtain ⟨c1, c2, c3, c4⟩ := id c
    rw [if_pos c1, if_pos c2, if_pos c3, if_pos c4, if_pos c, if_pos c1, if_pos c2, if_pos c3, if_pos c4, if_pos c]
    by_cases n16 : nw < 16
    · have W := hl_wkh (b := 1) (h := h) (g := g) (K := 0) (H := a1) (N := a2) (F := 0) (T := a3) (p := a4) (S := 1) q n16 c1 (by omega) (by unfold nwk; omega) (by unfold nst; rw [if_neg (by omega), if_neg (by omega), if_pos (by omega)])
      obtain ⟨w1, w2, w3, w4, w5, w6⟩ := W
      obtain ⟨m1, m2, m3⟩ := addW_M (g := g) (K := 0) (H := a1) (N := a2) (F := 0) (T := a3) (p := a4) dn n16
      have eh : s_X10_add_4 22 a1 a2 a4 (s_X10_addBatch_3 22 a3 h) = wkh 1 nw 0 a1 a2 0 a3 a4 1 h := by
        unfold s_X10_add_4 s_X10_add_3 s_X10_add_2 s_X10_add_1 s_X10_addBatch_3 s_X10_addBatch_2 s_X10_addBatch_1 wkh
        simp (disch := omega) only [Int.reduceAdd, up_cell, wn]
      have eP : P_X10_addBatch 22 a1 a2 a3 a4 h := by
        intro _
        unfold P_X10_add
        rw [eh]
        refine ⟨?_, ?_, ?_, ?_, ?_, ?_, w1⟩
        all_goals simp (disch := omega) only [s_X10_addBatch_3, s_X10_addBatch_2, s_X10_addBatch_1, s_X10_add_3, s_X10_add_2, s_X10_add_1, Int.reduceAdd, up_cell, wn]
        all_goals (try unfold fx_i)
        all_goals omega
      refine ⟨fun _ _ _ => ⟨by unfold fx_i; omega, fun _ => eP⟩, ⟨fun _ _ _ => by unfold fx_l; omega, fun _ => m1⟩, ?_, ?_⟩
      · rw [m2]
        unfold F_X10_addBatch F_X10_add
        rw [if_pos (by omega)]
        unfold s_X10_addBatch_3 s_X10_addBatch_2 s_X10_addBatch_1
        simp (disch := omega) only [Int.reduceAdd, up_cell, wn]
      · unfold H_X10_addBatch H_X10_add
        rw [if_pos (by omega), eh, m3]
        exact set_hall al (fun a e => w3 a (by omega)) w4 ⟨nm, nw + 1, w2, fun w e1 e2 => by
          by_cases y : w = nw
          · rw [y, w5]; omega
          · rw [w6 w e1 (by omega)]; exact n9 w e1 (by omega)⟩
    · obtain ⟨m1, m2, m3⟩ := addW_full (g := g) (K := 0) (H := a1) (N := a2) (F := 0) (T := a3) (p := a4) (by omega)
      refine ⟨fun _ _ _ => ⟨by unfold fx_i; omega, fun _ z => by omega⟩, ⟨fun _ _ _ => by unfold fx_l; omega, fun _ => m1⟩, ?_, ?_⟩
      · rw [m2]; unfold F_X10_addBatch; rw [if_neg (by omega)]
      · rw [m3]; unfold H_X10_addBatch; rw [if_neg (by omega)]; exact RET.refl al
  · have X : ∀ (α : Type) (A B : α), (if 0 ≤ a1 ∧ a1 ≤ 7 then if 1 ≤ a2 ∧ a2 ≤ 1000 then if g 249 15 ≤ a3 ∧ a3 ≤ 9999 then if -1 ≤ a4 ∧ a4 ≤ (nm : Int) - 1 then A else B else B else B else B) = B := by
      intro α A B
      by_cases c1 : 0 ≤ a1 ∧ a1 ≤ 7
      · rw [if_pos c1]
        by_cases c2 : 1 ≤ a2 ∧ a2 ≤ 1000
        · rw [if_pos c2]
          by_cases c3 : g 249 15 ≤ a3 ∧ a3 ≤ 9999
          · rw [if_pos c3, if_neg (fun y => c ⟨c1, c2, c3, y⟩)]
          · rw [if_neg c3]
        · rw [if_neg c2]
      · rw [if_neg c1]
    rw [X, if_neg c, X, if_neg c]
    exact ⟨fun c1 c2 c3 => ⟨by unfold fx_i; omega, fun c4 => absurd ⟨c1, c2, c3, c4⟩ c⟩, ⟨fun _ _ _ => by unfold fx_l; omega, fun z => absurd z c⟩, rfl, RET.refl al⟩
theorem m_steady (al : AL h g) (a1 a2 a3 a4 a5 : Int) : P_X11_steady a1 a2 a3 a4 a5 h ∧ P_X12_steady a1 a2 a3 a4 a5 g ∧ F_X11_steady a1 a2 a3 a4 a5 h = F_X12_steady a1 a2 a3 a4 a5 g ∧ RET h g (H_X11_steady a1 a2 a3 a4 a5 h) (H_X12_steady a1 a2 a3 a4 a5 g) := by
  obtain ⟨nm, nw, q, n9⟩ := id al.1
  obtain ⟨⟨mn, -⟩, cn, c10, -⟩ := id q.2.1
  obtain ⟨⟨wn, -, -, -⟩, dn, d16, -, -⟩ := id q.2.2.2.1
  obtain ⟨t1, t2, t3, t4, t5⟩ := id q.2.2.2.2.2.2.1
  have tt := q.2.2.2.2.2.2.2
  have mn : h 8 10 = nm := mn
  have wn : h 22 15 = nw := wn
  have t1 : h 1 7 = g 249 15 := t1
  unfold P_X11_steady P_X12_steady F_X11_steady F_X12_steady H_X11_steady H_X12_steady s_X12_steady_1 s_X12_steady_2 P_X11_isPin P_X12_isPin
  rw [mn, cn, t1]
  by_cases c : (0 ≤ a1 ∧ a1 ≤ 7) ∧ (g 249 15 ≤ a2 ∧ a2 ≤ 9999) ∧ (a2 ≤ a3 ∧ a3 ≤ 9999) ∧ (1 ≤ a4 ∧ a4 ≤ 3) ∧ (-1 ≤ a5 ∧ a5 ≤ (nm : Int) - 1)
  · obtain ⟨c1, c2, c3, c4, c5⟩ := id c
    rw [if_pos c1, if_pos c2, if_pos c3, if_pos c4, if_pos c5, if_pos c, if_pos c1, if_pos c2, if_pos c3, if_pos c4, if_pos c5, if_pos c]
    by_cases n16 : nw < 16
    · have W := hl_wkh (b := 1) (h := h) (g := g) (K := 1) (H := a1) (N := a4) (F := a2) (T := a3) (p := a5) (S := if a2 ≤ g 249 15 then 1 else 0) q n16 c1 (by omega) (by unfold nwk; omega) (by
        unfold nst
        rw [if_neg (show ¬ (0 : Int) = 9 by omega), if_neg (show ¬ ¬ (0 : Int) = 0 by omega)]
        by_cases y : a2 ≤ g 249 15
        · rw [if_pos y, if_pos (Or.inr y)]
        · rw [if_neg y, if_neg (by omega)])
      obtain ⟨w1, w2, w3, w4, w5, w6⟩ := W
      obtain ⟨m1, m2, m3⟩ := addW_M (g := g) (K := 1) (H := a1) (N := a4) (F := a2) (T := a3) (p := a5) dn n16
      have eh : s_X10_add_4 22 a1 a4 a5 (s_X10_addSteady_3 22 a2 a3 (g 249 15) h) = wkh 1 nw 1 a1 a4 a2 a3 a5 (if a2 ≤ g 249 15 then 1 else 0) h := by
        unfold s_X10_add_4 s_X10_add_3 s_X10_add_2 s_X10_add_1 s_X10_addSteady_3 s_X10_addSteady_2 s_X10_addSteady_1 wkh
        simp (disch := omega) only [Int.reduceAdd, up_cell, wn]
      have eP : P_X10_addSteady 22 a1 a2 a3 a4 a5 (g 249 15) h := by
        intro _
        unfold P_X10_add
        rw [eh]
        refine ⟨?_, ?_, ?_, ?_, ?_, ?_, w1⟩
        all_goals simp (disch := omega) only [s_X10_addSteady_3, s_X10_addSteady_2, s_X10_addSteady_1, s_X10_add_3, s_X10_add_2, s_X10_add_1, Int.reduceAdd, up_cell, wn]
        all_goals (try unfold fx_i)
        all_goals omega
      refine ⟨fun _ _ _ _ => ⟨by unfold fx_i; omega, fun _ => eP⟩, ⟨fun _ _ _ _ => by unfold fx_l; omega, fun _ => m1⟩, ?_, ?_⟩
      · rw [m2]
        unfold F_X10_addSteady F_X10_add
        rw [if_pos (by omega)]
        unfold s_X10_addSteady_3 s_X10_addSteady_2 s_X10_addSteady_1
        simp (disch := omega) only [Int.reduceAdd, up_cell, wn]
      · unfold H_X10_addSteady H_X10_add
        rw [if_pos (by omega), eh, m3]
        exact set_hall al (fun a e => w3 a (by omega)) w4 ⟨nm, nw + 1, w2, fun w e1 e2 => by
          by_cases y : w = nw
          · rw [y, w5]; omega
          · rw [w6 w e1 (by omega)]; exact n9 w e1 (by omega)⟩
    · obtain ⟨m1, m2, m3⟩ := addW_full (g := g) (K := 1) (H := a1) (N := a4) (F := a2) (T := a3) (p := a5) (by omega)
      refine ⟨fun _ _ _ _ => ⟨by unfold fx_i; omega, fun _ z => by omega⟩, ⟨fun _ _ _ _ => by unfold fx_l; omega, fun _ => m1⟩, ?_, ?_⟩
      · rw [m2]; unfold F_X10_addSteady; rw [if_neg (by omega)]
      · rw [m3]; unfold H_X10_addSteady; rw [if_neg (by omega)]; exact RET.refl al
  · have X : ∀ (α : Type) (A B : α), (if 0 ≤ a1 ∧ a1 ≤ 7 then if g 249 15 ≤ a2 ∧ a2 ≤ 9999 then if a2 ≤ a3 ∧ a3 ≤ 9999 then if 1 ≤ a4 ∧ a4 ≤ 3 then if -1 ≤ a5 ∧ a5 ≤ (nm : Int) - 1 then A else B else B else B else B else B) = B := by
      intro α A B
      by_cases c1 : 0 ≤ a1 ∧ a1 ≤ 7
      · rw [if_pos c1]
        by_cases c2 : g 249 15 ≤ a2 ∧ a2 ≤ 9999
        · rw [if_pos c2]
          by_cases c3 : a2 ≤ a3 ∧ a3 ≤ 9999
          · rw [if_pos c3]
            by_cases c4 : 1 ≤ a4 ∧ a4 ≤ 3
            · rw [if_pos c4, if_neg (fun y => c ⟨c1, c2, c3, c4, y⟩)]
            · rw [if_neg c4]
          · rw [if_neg c3]
        · rw [if_neg c2]
      · rw [if_neg c1]
    rw [X, if_neg c, X, if_neg c]
    exact ⟨fun c1 c2 c3 c4 => ⟨by unfold fx_i; omega, fun c5 => absurd ⟨c1, c2, c3, c4, c5⟩ c⟩, ⟨fun _ _ _ _ => by unfold fx_l; omega, fun z => absurd z c⟩, rfl, RET.refl al⟩
theorem m_write (al : AL h g) (a1 : Int) : P_X11_write a1 h ∧ P_X12_write a1 g ∧ F_X11_write a1 h = F_X12_write a1 g ∧ RET h g (H_X11_write a1 h) (H_X12_write a1 g) := by
  obtain ⟨nm, nw, q, n9⟩ := id al.1
  obtain ⟨z1, z2, z3, z4, -⟩ := id q.2.2.2.2.2.1
  have tt := q.2.2.2.2.2.2.2
  have z1 : h 38 4 = g 249 14 := z1
  unfold P_X11_write P_X12_write F_X11_write F_X12_write H_X11_write H_X12_write P_X9_append F_X9_append H_X9_append P_X12_at
  rw [z1]
  by_cases c1 : 0 ≤ a1 ∧ a1 ≤ 127
  · rw [if_pos c1, if_pos c1, if_pos c1, if_pos c1]
    by_cases c2 : g 249 14 = 60
    · rw [if_pos c2, if_neg (show ¬ g 249 14 < 60 by omega), if_pos c2, if_neg (show ¬ g 249 14 < 60 by omega)]
      exact ⟨fun _ z => by omega, fun _ z => absurd c2 z, rfl, RET.refl al⟩
    · rw [if_neg c2, if_pos (show g 249 14 < 60 by omega), if_neg c2, if_pos (show g 249 14 < 60 by omega)]
      obtain ⟨h1, eh1⟩ : ∃ x, x = s_X9_append_1 38 a1 h := ⟨_, rfl⟩
      obtain ⟨g1, eg1⟩ : ∃ x, x = s_X12_write_1 a1 g := ⟨_, rfl⟩
      have eh : h1 = pm_upd (pm_upd h 39 (g 249 14) a1) 38 4 (g 249 14 + 1) := by
        rw [eh1]; unfold s_X9_append_1
        simp (disch := omega) only [Int.reduceAdd, up_cell, z1]
      have eg : g1 = pm_upd (pm_upd g 249 (376 + g 249 14) a1) 249 14 (g 249 14 + 1) := by
        rw [eg1]; unfold s_X12_write_1
        simp (disch := omega) only [up_pl]
      have gk : ∀ k : Int, ((0 ≤ k ∧ k < 14) ∨ (15 ≤ k ∧ k < 376) ∨ 440 ≤ k) → g1 249 k = g 249 k := fun k e => by rw [eg]; simp (disch := omega) only [up_pl]
      have g14 : g1 249 14 = g 249 14 + 1 := by rw [eg, up_eq]
      have hN := NM_of (yl_rul q gk) (by rw [gk 15 (by omega)]; omega)
      have R := zrul_read (c := 38) (h := h1) (z := g1 249) (g0 := g1) (by rw [eh, up_eq, g14]) (by omega) (by omega) (fun k e1 e2 => by
        rw [g14] at e2
        rw [eh, eg]
        by_cases w : k = g 249 14
        · rw [w]
          simp (disch := omega) only [Int.reduceAdd, up_cell, up_pl, up_eq]
          exact ⟨trivial, c1⟩
        · simp (disch := omega) only [Int.reduceAdd, up_cell, up_pl]
          exact z4 k e1 (by omega)) rfl (fun _ _ _ => rfl) hN
      obtain ⟨r1, r2, r3⟩ := R
      rw [← eh1, ← eg1]
      have f : ∀ a, (a < 38 ∨ 42 < a) → H_X9_readAll 38 h1 a = h a := fun a e => by
        rw [r3 a (by omega) (by omega) (by omega), eh]
        simp (disch := omega) only [up_cell]
      have e14 : H_X9_readAll 38 h1 38 4 = g1 249 14 := r2.1
      refine ⟨fun _ _ => ⟨by omega, ?_, r1⟩, fun _ _ => ⟨⟨by omega, by unfold fx_i; omega⟩, by unfold fx_i; omega, by omega, ?_, by omega, by rw [g14]; unfold fx_i; omega⟩, ?_, ?_⟩
      · simp (disch := omega) only [Int.reduceAdd, up_cell, z1]
        unfold fx_i; omega
      · simp (disch := omega) only [up_pl]
        unfold fx_l; omega
      · exact e14
      · exact set_hall al (fun a e => f a (by omega)) (fun a e => by rw [eg, up_cell _ e, up_cell _ e]) ⟨nm, nw, hl_R q r2 (fun a e => f a (by omega)) gk, fun w e1 e2 => by
          have := q.2.2.2.1.2.2.1
          rw [gk _ (by omega)]; exact n9 w e1 e2⟩
  · rw [if_neg c1, if_neg c1, if_neg c1, if_neg c1]
    exact ⟨fun z => absurd z c1, fun z => absurd z c1, rfl, RET.refl al⟩
theorem m_erase (al : AL h g) : P_X11_erase h ∧ P_X12_erase g ∧ F_X11_erase h = F_X12_erase g ∧ RET h g (H_X11_erase h) (H_X12_erase g) := by
  obtain ⟨nm, nw, q, n9⟩ := id al.1
  obtain ⟨z1, z2, z3, z4, -⟩ := id q.2.2.2.2.2.1
  have tt := q.2.2.2.2.2.2.2
  have z1 : h 38 4 = g 249 14 := z1
  have gk : ∀ k : Int, ((0 ≤ k ∧ k < 14) ∨ (15 ≤ k ∧ k < 376) ∨ 440 ≤ k) → pm_upd g 249 14 0 249 k = g 249 k := fun k e => by simp (disch := omega) only [up_pl]
  have g14 : pm_upd g 249 14 0 249 14 = 0 := up_eq _ _ _ _
  have hN := NM_of (g := pm_upd g 249 14 0) (yl_rul q gk) (by rw [gk 15 (by omega)]; omega)
  obtain ⟨r1, r2, r3⟩ := zrul_read (c := 38) (h := pm_upd h 38 4 0) (z := pm_upd g 249 14 0 249) (g0 := pm_upd g 249 14 0) (by rw [up_eq, g14]) (by omega) (by omega) (fun k e1 e2 => by rw [g14] at e2; omega) rfl (fun _ _ _ => rfl) hN
  have f : ∀ a, (a < 38 ∨ 42 < a) → H_X9_readAll 38 (pm_upd h 38 4 0) a = h a := fun a e => by
    rw [r3 a (by omega) (by omega) (by omega), up_cell _ (by omega)]
  refine ⟨r1, ⟨by omega, by unfold fx_i; omega⟩, z1, ?_⟩
  exact set_hall al (fun a e => f a (by omega)) (fun a e => up_cell _ e) ⟨nm, nw, hl_R q r2 (fun a e => f a (by omega)) gk, fun w e1 e2 => by
    have := q.2.2.2.1.2.2.1
    show pm_upd g 249 14 0 249 (328 + w) ≠ 9
    rw [gk _ (by omega)]; exact n9 w e1 e2⟩
theorem m_fault (al : AL h g) : P_X12_fault g ∧ F_X11_fault h = F_X12_fault g ∧ RET h g h (H_X12_fault g) := by
  obtain ⟨nm, nw, q, n9⟩ := id al.1
  obtain ⟨r1, r2, r3, r4⟩ := hl_rl q
  obtain ⟨z1, z2, z3, z4, P, z5, z6, z7, z8⟩ := r3
  obtain ⟨⟨k1, k2, k3⟩, k4, -⟩ := z8 g _ rfl (fun _ _ _ => rfl) (NM_of r2 (by omega))
  refine ⟨k1, k4.symm, ?_⟩
  have e9 : H_X12_fault g 249 = g 249 := k2 249 (by omega) (by omega) (by omega) (by omega)
  exact ret_hall al (fun a _ => rfl) (fun a e => k2 a (by omega) (by omega) (by omega) (by omega)) (k3 20 (by omega) (by omega) (by omega) (by omega)) (k3 21 (by omega) (by omega) (by omega) (by omega)) (by rw [e9]; exact al.1)
end C3
