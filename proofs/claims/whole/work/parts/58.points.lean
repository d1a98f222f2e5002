/-! One number of a hall set in both. -/
section HG
variable {b : Int} {h h' : pH} {z z' : Int → Int} {nm nw nm' nw' : Nat} {T : Int}
theorem hl_A (q : hl b h z nm nw T) (A : AIRs b h' z') (eh : ∀ a, (a < b + 1 ∨ b + 5 < a) → h' a = h a) (ez : ∀ k : Int, ((3 ≤ k ∧ k ≤ 7) ∨ (9 ≤ k ∧ k < 20) ∨ (56 ≤ k ∧ k < 440) ∨ 500 ≤ k) → z' k = z k) : hl b h' z' nm nw T := by
  obtain ⟨q1, q2, q3, q4, q5, q6, q7, q8⟩ := q
  exact ⟨A, MAC_cg q2 (fun a _ _ => eh a (by omega)) (fun k _ => ez k (by omega)), POW_cg q3 (fun a _ _ => eh a (by omega)) (fun k _ => ez k (by omega)),
    WKS_cg q4 (fun a _ _ => eh a (by omega)) (fun k _ => ez k (by omega)), LOT_cg q5 (fun a _ _ => eh a (by omega)) (fun k _ => ez k (by omega)), RUL_cg q6 (fun a _ _ => eh a (by omega)) (fun k _ => ez k (by omega)),
    TIM_cg q7 (eh b (by omega)) (fun k _ => ez k (by omega)), by rw [ez 15 (by omega)]; exact q8⟩
theorem WKS_up (q : WKSs b h z nm nw) (hm : nm ≤ nm') : WKSs b h z nm' nw := by
  obtain ⟨q1, dn, d16, dh, dw⟩ := q
  exact ⟨q1, dn, d16, dh, fun w e1 e2 => by have := dw w e1 e2; exact ⟨this.1, this.2.1, by omega, by omega⟩⟩
theorem MAC_up (q : MACs b h z nm nw) (hm : nw ≤ nw') : MACs b h z nm nw' := by
  obtain ⟨q1, dn, d16, dw⟩ := q
  exact ⟨q1, dn, d16, fun w e1 e2 => by have := dw w e1 e2; exact ⟨this.1, this.2.1, this.2.2.1, this.2.2.2.1, this.2.2.2.2.1, this.2.2.2.2.2.1, this.2.2.2.2.2.2.1, by omega, this.2.2.2.2.2.2.2.2⟩⟩
theorem hl_M (q : hl b h z nm nw T) (M : MACs b h' z' nm' nw) (hm : nm ≤ nm') (eh : ∀ a, (a < b + 7 ∨ b + 17 < a) → h' a = h a) (ez : ∀ k : Int, ((0 ≤ k ∧ k < 12) ∨ (13 ≤ k ∧ k < 84) ∨ 174 ≤ k) → z' k = z k) : hl b h' z' nm' nw T := by
  obtain ⟨q1, q2, q3, q4, q5, q6, q7, q8⟩ := q
  exact ⟨AIR_cg q1 (fun a _ _ => eh a (by omega)) (fun k _ => ez k (by omega)), M, POW_cg q3 (fun a _ _ => eh a (by omega)) (fun k _ => ez k (by omega)),
    WKS_cg (WKS_up q4 hm) (fun a _ _ => eh a (by omega)) (fun k _ => ez k (by omega)), LOT_cg q5 (fun a _ _ => eh a (by omega)) (fun k _ => ez k (by omega)), RUL_cg q6 (fun a _ _ => eh a (by omega)) (fun k _ => ez k (by omega)),
    TIM_cg q7 (eh b (by omega)) (fun k _ => ez k (by omega)), by rw [ez 15 (by omega)]; exact q8⟩
theorem hl_P (q : hl b h z nm nw T) (P : POWs b h' z') (eh : ∀ a, (a < b + 18 ∨ b + 20 < a) → h' a = h a) (ez : ∀ k : Int, ((0 ≤ k ∧ k < 3) ∨ (8 ≤ k ∧ k < 17) ∨ (19 ≤ k ∧ k < 56) ∨ 84 ≤ k) → z' k = z k) : hl b h' z' nm nw T := by
  obtain ⟨q1, q2, q3, q4, q5, q6, q7, q8⟩ := q
  exact ⟨AIR_cg q1 (fun a _ _ => eh a (by omega)) (fun k _ => ez k (by omega)), MAC_cg q2 (fun a _ _ => eh a (by omega)) (fun k _ => ez k (by omega)), P,
    WKS_cg q4 (fun a _ _ => eh a (by omega)) (fun k _ => ez k (by omega)), LOT_cg q5 (fun a _ _ => eh a (by omega)) (fun k _ => ez k (by omega)), RUL_cg q6 (fun a _ _ => eh a (by omega)) (fun k _ => ez k (by omega)),
    TIM_cg q7 (eh b (by omega)) (fun k _ => ez k (by omega)), by rw [ez 15 (by omega)]; exact q8⟩
theorem hl_W (q : hl b h z nm nw T) (W : WKSs b h' z' nm nw') (hw : nw ≤ nw') (eh : ∀ a, (a < b + 21 ∨ b + 36 < a) → h' a = h a) (ez : ∀ k : Int, ((0 ≤ k ∧ k < 13) ∨ (14 ≤ k ∧ k < 174) ∨ 376 ≤ k) → z' k = z k) : hl b h' z' nm nw' T := by
  obtain ⟨q1, q2, q3, q4, q5, q6, q7, q8⟩ := q
  exact ⟨AIR_cg q1 (fun a _ _ => eh a (by omega)) (fun k _ => ez k (by omega)), MAC_cg (MAC_up q2 hw) (fun a _ _ => eh a (by omega)) (fun k _ => ez k (by omega)), POW_cg q3 (fun a _ _ => eh a (by omega)) (fun k _ => ez k (by omega)),
    W, LOT_cg q5 (fun a _ _ => eh a (by omega)) (fun k _ => ez k (by omega)), RUL_cg q6 (fun a _ _ => eh a (by omega)) (fun k _ => ez k (by omega)),
    TIM_cg q7 (eh b (by omega)) (fun k _ => ez k (by omega)), by rw [ez 15 (by omega)]; exact q8⟩
theorem hl_L (q : hl b h z nm nw T) (L : LOTs b h' z') (eh : ∀ a, (a < b + 42 ∨ b + 44 < a) → h' a = h a) (ez : ∀ k : Int, ((0 ≤ k ∧ k < 9) ∨ (12 ≤ k ∧ k < 19) ∨ (20 ≤ k ∧ k < 500)) → z' k = z k) : hl b h' z' nm nw T := by
  obtain ⟨q1, q2, q3, q4, q5, q6, q7, q8⟩ := q
  exact ⟨AIR_cg q1 (fun a _ _ => eh a (by omega)) (fun k _ => ez k (by omega)), MAC_cg q2 (fun a _ _ => eh a (by omega)) (fun k _ => ez k (by omega)), POW_cg q3 (fun a _ _ => eh a (by omega)) (fun k _ => ez k (by omega)),
    WKS_cg q4 (fun a _ _ => eh a (by omega)) (fun k _ => ez k (by omega)), L, RUL_cg q6 (fun a _ _ => eh a (by omega)) (fun k _ => ez k (by omega)),
    TIM_cg q7 (eh b (by omega)) (fun k _ => ez k (by omega)), by rw [ez 15 (by omega)]; exact q8⟩
theorem hl_R (q : hl b h z nm nw T) (R : zrul (b + 37) h' z') (eh : ∀ a, (a < b + 37 ∨ b + 41 < a) → h' a = h a) (ez : ∀ k : Int, ((0 ≤ k ∧ k < 14) ∨ (15 ≤ k ∧ k < 376) ∨ 440 ≤ k) → z' k = z k) : hl b h' z' nm nw T := by
  obtain ⟨q1, q2, q3, q4, q5, q6, q7, q8⟩ := q
  exact ⟨AIR_cg q1 (fun a _ _ => eh a (by omega)) (fun k _ => ez k (by omega)), MAC_cg q2 (fun a _ _ => eh a (by omega)) (fun k _ => ez k (by omega)), POW_cg q3 (fun a _ _ => eh a (by omega)) (fun k _ => ez k (by omega)),
    WKS_cg q4 (fun a _ _ => eh a (by omega)) (fun k _ => ez k (by omega)), LOT_cg q5 (fun a _ _ => eh a (by omega)) (fun k _ => ez k (by omega)), R,
    TIM_cg q7 (eh b (by omega)) (fun k _ => ez k (by omega)), by rw [ez 15 (by omega)]; exact q8⟩
end HG
section PT
variable {b : Int} {h g : pH} {nm nw : Nat} {T v : Int}
theorem hl_out (q : hl b h (g 249) nm nw T) (hv : 0 ≤ v ∧ v ≤ 500) : hl b (pm_upd h (b + 1) 5 v) (pm_upd g 249 0 v 249) nm nw T := by
  refine hl_A q ?_ (fun a e => up_cell _ (by omega)) (fun k e => up_pl _ (by omega))
  obtain ⟨⟨a0, a1, a2, a8, ac, ak⟩, b0, b0', b1, b1', b2, b2', b8, b8', bc, bk⟩ := q.1
  refine ⟨⟨?_, ?_, ?_, ?_, fun c e1 e2 => ?_, fun k e1 e2 => ?_⟩, ?_, ?_, ?_, ?_, ?_, ?_, ?_, ?_, fun c e1 e2 => ?_, fun k e1 e2 => ?_⟩
  all_goals simp (disch := omega) only [up_eq, up_pl, up_cell]
  all_goals first | assumption | exact hv.1 | exact hv.2 | exact ac c e1 e2 | exact ak k e1 e2 | exact bc c e1 e2 | exact bk k e1 e2
theorem hl_wall (q : hl b h (g 249) nm nw T) (hv : 0 ≤ v ∧ v ≤ 500) : hl b (pm_upd h (b + 1) 6 v) (pm_upd g 249 1 v 249) nm nw T := by
  refine hl_A q ?_ (fun a e => up_cell _ (by omega)) (fun k e => up_pl _ (by omega))
  obtain ⟨⟨a0, a1, a2, a8, ac, ak⟩, b0, b0', b1, b1', b2, b2', b8, b8', bc, bk⟩ := q.1
  refine ⟨⟨?_, ?_, ?_, ?_, fun c e1 e2 => ?_, fun k e1 e2 => ?_⟩, ?_, ?_, ?_, ?_, ?_, ?_, ?_, ?_, fun c e1 e2 => ?_, fun k e1 e2 => ?_⟩
  all_goals simp (disch := omega) only [up_eq, up_pl, up_cell]
  all_goals first | assumption | exact hv.1 | exact hv.2 | exact ac c e1 e2 | exact ak k e1 e2 | exact bc c e1 e2 | exact bk k e1 e2
theorem hl_flow (q : hl b h (g 249) nm nw T) (hv : 0 ≤ v ∧ v ≤ 200) : hl b (pm_upd h (b + 1) 7 v) (pm_upd g 249 2 v 249) nm nw T := by
  refine hl_A q ?_ (fun a e => up_cell _ (by omega)) (fun k e => up_pl _ (by omega))
  obtain ⟨⟨a0, a1, a2, a8, ac, ak⟩, b0, b0', b1, b1', b2, b2', b8, b8', bc, bk⟩ := q.1
  refine ⟨⟨?_, ?_, ?_, ?_, fun c e1 e2 => ?_, fun k e1 e2 => ?_⟩, ?_, ?_, ?_, ?_, ?_, ?_, ?_, ?_, fun c e1 e2 => ?_, fun k e1 e2 => ?_⟩
  all_goals simp (disch := omega) only [up_eq, up_pl, up_cell]
  all_goals first | assumption | exact hv.1 | exact hv.2 | exact ac c e1 e2 | exact ak k e1 e2 | exact bc c e1 e2 | exact bk k e1 e2
theorem hl_late (q : hl b h (g 249) nm nw T) (hv : 0 ≤ v ∧ v ≤ 5) : hl b (pm_upd h (b + 1) 8 v) (pm_upd g 249 8 v 249) nm nw T := by
  refine hl_A q ?_ (fun a e => up_cell _ (by omega)) (fun k e => up_pl _ (by omega))
  obtain ⟨⟨a0, a1, a2, a8, ac, ak⟩, b0, b0', b1, b1', b2, b2', b8, b8', bc, bk⟩ := q.1
  refine ⟨⟨?_, ?_, ?_, ?_, fun c e1 e2 => ?_, fun k e1 e2 => ?_⟩, ?_, ?_, ?_, ?_, ?_, ?_, ?_, ?_, fun c e1 e2 => ?_, fun k e1 e2 => ?_⟩
  all_goals simp (disch := omega) only [up_eq, up_pl, up_cell]
  all_goals first | assumption | exact hv.1 | exact hv.2 | exact ac c e1 e2 | exact ak k e1 e2 | exact bc c e1 e2 | exact bk k e1 e2
theorem hl_heat {i : Int} (q : hl b h (g 249) nm nw T) (hi : 0 ≤ i ∧ i < 12) (hv : -150022500 ≤ v ∧ v ≤ 100000000) : hl b (pm_upd h (b + 2) i v) (pm_upd g 249 (20 + i) v 249) nm nw T := by
  refine hl_A q ?_ (fun a e => up_cell _ (by omega)) (fun k e => up_pl _ (by omega))
  obtain ⟨⟨a0, a1, a2, a8, ac, ak⟩, b0, b0', b1, b1', b2, b2', b8, b8', bc, bk⟩ := q.1
  refine ⟨⟨?_, ?_, ?_, ?_, fun c e1 e2 => ?_, fun k e1 e2 => ?_⟩, ?_, ?_, ?_, ?_, ?_, ?_, ?_, ?_, fun c e1 e2 => ?_, fun k e1 e2 => ?_⟩
  · simp (disch := omega) only [up_eq, up_pl, up_cell]; assumption
  · simp (disch := omega) only [up_eq, up_pl, up_cell]; assumption
  · simp (disch := omega) only [up_eq, up_pl, up_cell]; assumption
  · simp (disch := omega) only [up_eq, up_pl, up_cell]; assumption
  · have := ac c e1 e2
    by_cases w : c = i
    · subst w; simp (disch := omega) only [up_eq, up_pl, up_cell]; exact ⟨trivial, this.2⟩
    · simp (disch := omega) only [up_eq, up_pl, up_cell]; exact this
  · simp (disch := omega) only [up_eq, up_pl, up_cell]; exact ak k e1 e2
  iterate 8 · simp (disch := omega) only [up_eq, up_pl, up_cell]; assumption
  · have := bc c e1 e2
    by_cases w : c = i
    · subst w; simp (disch := omega) only [up_eq, up_pl, up_cell]; exact ⟨hv.1, hv.2, this.2.2⟩
    · simp (disch := omega) only [up_eq, up_pl, up_cell]; exact this
  · simp (disch := omega) only [up_eq, up_pl, up_cell]; exact bk k e1 e2
theorem hl_takes {i : Int} (q : hl b h (g 249) nm nw T) (hi : 0 ≤ i ∧ i < 12) (hv : 0 ≤ v ∧ v ≤ 10000) : hl b (pm_upd h (b + 3) i v) (pm_upd g 249 (32 + i) v 249) nm nw T := by
  refine hl_A q ?_ (fun a e => up_cell _ (by omega)) (fun k e => up_pl _ (by omega))
  obtain ⟨⟨a0, a1, a2, a8, ac, ak⟩, b0, b0', b1, b1', b2, b2', b8, b8', bc, bk⟩ := q.1
  refine ⟨⟨?_, ?_, ?_, ?_, fun c e1 e2 => ?_, fun k e1 e2 => ?_⟩, ?_, ?_, ?_, ?_, ?_, ?_, ?_, ?_, fun c e1 e2 => ?_, fun k e1 e2 => ?_⟩
  iterate 4 · simp (disch := omega) only [up_eq, up_pl, up_cell]; assumption
  · have := ac c e1 e2
    by_cases w : c = i
    · subst w; simp (disch := omega) only [up_eq, up_pl, up_cell]; exact ⟨this.1, trivial, this.2.2⟩
    · simp (disch := omega) only [up_eq, up_pl, up_cell]; exact this
  · simp (disch := omega) only [up_eq, up_pl, up_cell]; exact ak k e1 e2
  iterate 8 · simp (disch := omega) only [up_eq, up_pl, up_cell]; assumption
  · have := bc c e1 e2
    by_cases w : c = i
    · subst w; simp (disch := omega) only [up_eq, up_pl, up_cell]; exact ⟨this.1, this.2.1, hv.1, hv.2, this.2.2.2.2⟩
    · simp (disch := omega) only [up_eq, up_pl, up_cell]; exact this
  · simp (disch := omega) only [up_eq, up_pl, up_cell]; exact bk k e1 e2
theorem hl_aim {i : Int} (q : hl b h (g 249) nm nw T) (hi : 0 ≤ i ∧ i < 12) (hv : 0 ≤ v ∧ v ≤ 5000) : hl b (pm_upd h (b + 4) i v) (pm_upd g 249 (44 + i) v 249) nm nw T := by
  refine hl_A q ?_ (fun a e => up_cell _ (by omega)) (fun k e => up_pl _ (by omega))
  obtain ⟨⟨a0, a1, a2, a8, ac, ak⟩, b0, b0', b1, b1', b2, b2', b8, b8', bc, bk⟩ := q.1
  refine ⟨⟨?_, ?_, ?_, ?_, fun c e1 e2 => ?_, fun k e1 e2 => ?_⟩, ?_, ?_, ?_, ?_, ?_, ?_, ?_, ?_, fun c e1 e2 => ?_, fun k e1 e2 => ?_⟩
  iterate 4 · simp (disch := omega) only [up_eq, up_pl, up_cell]; assumption
  · have := ac c e1 e2
    by_cases w : c = i
    · subst w; simp (disch := omega) only [up_eq, up_pl, up_cell]; exact ⟨this.1, this.2.1, trivial⟩
    · simp (disch := omega) only [up_eq, up_pl, up_cell]; exact this
  · simp (disch := omega) only [up_eq, up_pl, up_cell]; exact ak k e1 e2
  iterate 8 · simp (disch := omega) only [up_eq, up_pl, up_cell]; assumption
  · have := bc c e1 e2
    by_cases w : c = i
    · subst w; simp (disch := omega) only [up_eq, up_pl, up_cell]; exact ⟨this.1, this.2.1, this.2.2.1, this.2.2.2.1, hv.1, hv.2⟩
    · simp (disch := omega) only [up_eq, up_pl, up_cell]; exact this
  · simp (disch := omega) only [up_eq, up_pl, up_cell]; exact bk k e1 e2
theorem hl_net (q : hl b h (g 249) nm nw T) (hv : 0 ≤ v ∧ v ≤ 100000) : hl b (pm_upd h (b + 18) 2 v) (pm_upd g 249 3 v 249) nm nw T := by
  refine hl_P q ?_ (fun a e => up_cell _ (by omega)) (fun k e => up_pl _ (by omega))
  obtain ⟨⟨u1, u2, u3, u4, u5, u6, u7, u8⟩, h17, ⟨y1, y2, y3, y4, y5, y6, y7, y8, y9, y10, y11, y12, y13⟩, y17, y17'⟩ := q.2.2.1
  refine ⟨⟨?_, ?_, ?_, ?_, ?_, ?_, fun k e1 e2 => ?_, fun k e1 e2 => ?_⟩, ?_, ⟨?_, ?_, ?_, ?_, ?_, ?_, ?_, ?_, ?_, ?_, ?_, fun k e1 e2 => ?_, fun k e1 e2 => ?_⟩, ?_, ?_⟩
  all_goals simp (disch := omega) only [up_eq, up_pl, up_cell]
  all_goals first | assumption | exact hv.1 | exact hv.2 | exact u7 k e1 e2 | exact u8 k e1 e2 | exact y12 k e1 e2 | exact y13 k e1 e2
theorem hl_stor (q : hl b h (g 249) nm nw T) (hv : 0 ≤ v ∧ v ≤ 100000) (h7 : g 249 7 ≤ v) : hl b (pm_upd h (b + 18) 3 v) (pm_upd g 249 4 v 249) nm nw T := by
  refine hl_P q ?_ (fun a e => up_cell _ (by omega)) (fun k e => up_pl _ (by omega))
  obtain ⟨⟨u1, u2, u3, u4, u5, u6, u7, u8⟩, h17, ⟨y1, y2, y3, y4, y5, y6, y7, y8, y9, y10, y11, y12, y13⟩, y17, y17'⟩ := q.2.2.1
  refine ⟨⟨?_, ?_, ?_, ?_, ?_, ?_, fun k e1 e2 => ?_, fun k e1 e2 => ?_⟩, ?_, ⟨?_, ?_, ?_, ?_, ?_, ?_, ?_, ?_, ?_, ?_, ?_, fun k e1 e2 => ?_, fun k e1 e2 => ?_⟩, ?_, ?_⟩
  all_goals simp (disch := omega) only [up_eq, up_pl, up_cell]
  all_goals first | assumption | exact hv.1 | exact hv.2 | exact u7 k e1 e2 | exact u8 k e1 e2 | exact y12 k e1 e2 | exact y13 k e1 e2
theorem hl_rate (q : hl b h (g 249) nm nw T) (hv : 0 ≤ v ∧ v ≤ 10000) : hl b (pm_upd h (b + 18) 4 v) (pm_upd g 249 5 v 249) nm nw T := by
  refine hl_P q ?_ (fun a e => up_cell _ (by omega)) (fun k e => up_pl _ (by omega))
  obtain ⟨⟨u1, u2, u3, u4, u5, u6, u7, u8⟩, h17, ⟨y1, y2, y3, y4, y5, y6, y7, y8, y9, y10, y11, y12, y13⟩, y17, y17'⟩ := q.2.2.1
  refine ⟨⟨?_, ?_, ?_, ?_, ?_, ?_, fun k e1 e2 => ?_, fun k e1 e2 => ?_⟩, ?_, ⟨?_, ?_, ?_, ?_, ?_, ?_, ?_, ?_, ?_, ?_, ?_, fun k e1 e2 => ?_, fun k e1 e2 => ?_⟩, ?_, ?_⟩
  all_goals simp (disch := omega) only [up_eq, up_pl, up_cell]
  all_goals first | assumption | exact hv.1 | exact hv.2 | exact u7 k e1 e2 | exact u8 k e1 e2 | exact y12 k e1 e2 | exact y13 k e1 e2
theorem hl_high (q : hl b h (g 249) nm nw T) (hv : 0 ≤ v ∧ v ≤ 1000) : hl b (pm_upd h (b + 18) 5 v) (pm_upd g 249 6 v 249) nm nw T := by
  refine hl_P q ?_ (fun a e => up_cell _ (by omega)) (fun k e => up_pl _ (by omega))
  obtain ⟨⟨u1, u2, u3, u4, u5, u6, u7, u8⟩, h17, ⟨y1, y2, y3, y4, y5, y6, y7, y8, y9, y10, y11, y12, y13⟩, y17, y17'⟩ := q.2.2.1
  refine ⟨⟨?_, ?_, ?_, ?_, ?_, ?_, fun k e1 e2 => ?_, fun k e1 e2 => ?_⟩, ?_, ⟨?_, ?_, ?_, ?_, ?_, ?_, ?_, ?_, ?_, ?_, ?_, fun k e1 e2 => ?_, fun k e1 e2 => ?_⟩, ?_, ?_⟩
  all_goals simp (disch := omega) only [up_eq, up_pl, up_cell]
  all_goals first | assumption | exact hv.1 | exact hv.2 | exact u7 k e1 e2 | exact u8 k e1 e2 | exact y12 k e1 e2 | exact y13 k e1 e2
theorem hl_feed {i : Int} (q : hl b h (g 249) nm nw T) (hi : 0 ≤ i ∧ i < 4) (hv : 0 ≤ v ∧ v ≤ 10000) : hl b (pm_upd h (b + 19) i v) (pm_upd g 249 (56 + i) v 249) nm nw T := by
  refine hl_P q ?_ (fun a e => up_cell _ (by omega)) (fun k e => up_pl _ (by omega))
  obtain ⟨⟨u1, u2, u3, u4, u5, u6, u7, u8⟩, h17, ⟨y1, y2, y3, y4, y5, y6, y7, y8, y9, y10, y11, y12, y13⟩, y17, y17'⟩ := q.2.2.1
  refine ⟨⟨?_, ?_, ?_, ?_, ?_, ?_, fun k e1 e2 => ?_, fun k e1 e2 => ?_⟩, ?_, ⟨?_, ?_, ?_, ?_, ?_, ?_, ?_, ?_, ?_, ?_, ?_, fun k e1 e2 => ?_, fun k e1 e2 => ?_⟩, ?_, ?_⟩
  iterate 6 · simp (disch := omega) only [up_eq, up_pl, up_cell]; assumption
  · simp (disch := omega) only [up_eq, up_pl, up_cell]; exact u7 k e1 e2
  · by_cases w : k = i
    · subst w; simp (disch := omega) only [up_eq, up_pl, up_cell]
    · simp (disch := omega) only [up_eq, up_pl, up_cell]; exact u8 k e1 e2
  iterate 12 · simp (disch := omega) only [up_eq, up_pl, up_cell]; assumption
  · simp (disch := omega) only [up_eq, up_pl, up_cell]; exact y12 k e1 e2
  · by_cases w : k = i
    · subst w; simp (disch := omega) only [up_eq, up_pl, up_cell]; exact hv
    · simp (disch := omega) only [up_eq, up_pl, up_cell]; exact y13 k e1 e2
  iterate 2 · simp (disch := omega) only [up_eq, up_pl, up_cell]; assumption
theorem hl_price {i : Int} (q : hl b h (g 249) nm nw T) (hi : 0 ≤ i ∧ i < 24) (hv : 0 ≤ v ∧ v ≤ 1000) : hl b (pm_upd h (b + 20) i v) (pm_upd g 249 (60 + i) v 249) nm nw T := by
  refine hl_P q ?_ (fun a e => up_cell _ (by omega)) (fun k e => up_pl _ (by omega))
  obtain ⟨⟨u1, u2, u3, u4, u5, u6, u7, u8⟩, h17, ⟨y1, y2, y3, y4, y5, y6, y7, y8, y9, y10, y11, y12, y13⟩, y17, y17'⟩ := q.2.2.1
  refine ⟨⟨?_, ?_, ?_, ?_, ?_, ?_, fun k e1 e2 => ?_, fun k e1 e2 => ?_⟩, ?_, ⟨?_, ?_, ?_, ?_, ?_, ?_, ?_, ?_, ?_, ?_, ?_, fun k e1 e2 => ?_, fun k e1 e2 => ?_⟩, ?_, ?_⟩
  iterate 6 · simp (disch := omega) only [up_eq, up_pl, up_cell]; assumption
  · by_cases w : k = i
    · subst w; simp (disch := omega) only [up_eq, up_pl, up_cell]
    · simp (disch := omega) only [up_eq, up_pl, up_cell]; exact u7 k e1 e2
  · simp (disch := omega) only [up_eq, up_pl, up_cell]; exact u8 k e1 e2
  iterate 12 · simp (disch := omega) only [up_eq, up_pl, up_cell]; assumption
  · by_cases w : k = i
    · subst w; simp (disch := omega) only [up_eq, up_pl, up_cell]; exact hv
    · simp (disch := omega) only [up_eq, up_pl, up_cell]; exact y12 k e1 e2
  · simp (disch := omega) only [up_eq, up_pl, up_cell]; exact y13 k e1 e2
  iterate 2 · simp (disch := omega) only [up_eq, up_pl, up_cell]; assumption
theorem LOT_z {z' : Int → Int} {h' : pH} (q : LOTs b h (g 249)) (e0 : h' (b + 42) 0 = z' 9 ∧ 0 ≤ z' 9 ∧ z' 9 ≤ 100) (e1 : h' (b + 42) 1 = z' 10 ∧ 0 ≤ z' 10 ∧ z' 10 ≤ 100) (e2 : h' (b + 42) 2 = z' 11 ∧ fx_i (z' 11)) (e3 : h' (b + 42) 3 = h (b + 42) 3) (e4 : h' (b + 43) = h (b + 43) ∧ h' (b + 44) = h (b + 44)) (ez : ∀ k : Int, (k = 19 ∨ 500 ≤ k) → z' k = g 249 k) : LOTs b h' z' := by
  obtain ⟨⟨l0, l1, l2, l3, lk⟩, y1, y2, y3, y4, y5, y6, y7, y8⟩ := q
  refine ⟨⟨e0.1, e1.1, e2.1, by rw [e3, ez 19 (by omega)]; exact l3, fun k k1 k2 => ?_⟩, e0.2.1, e0.2.2, e1.2.1, e1.2.2, e2.2, by rw [ez 19 (by omega)]; exact y6, by rw [ez 19 (by omega)]; exact y7, fun i i1 i2 => ?_⟩
  · rw [e4.1, e4.2, ez 19 (by omega), (lk k k1 k2).1, (lk k k1 k2).2]
    exact ⟨zs_congr (fun i i1 i2 => by rw [ez (500 + i) (by omega), ez (560 + i) (by omega)]), zs_congr (fun i i1 i2 => by rw [ez (500 + i) (by omega), ez (560 + i) (by omega)])⟩
  · rw [ez 19 (by omega)] at i2
    rw [ez (500 + i) (by omega), ez (560 + i) (by omega)]; exact y8 i i1 i2
theorem hl_odds {a1 a2 a3 : Int} (q : hl b h (g 249) nm nw T) (h1 : 0 ≤ a1 ∧ a1 ≤ 100) (h2 : 0 ≤ a2 ∧ a2 ≤ 100) (h3 : fx_i a3) : hl b (pm_upd (pm_upd (pm_upd h (b + 42) 0 a1) (b + 42) 1 a2) (b + 42) 2 a3) (pm_upd (pm_upd (pm_upd g 249 9 a1) 249 10 a2) 249 11 a3 249) nm nw T := by
  refine hl_L q (LOT_z q.2.2.2.2.1 ?_ ?_ ?_ ?_ ⟨?_, ?_⟩ (fun k e => ?_)) (fun a e => ?_) (fun k e => ?_)
  · simp (disch := omega) only [up_eq, up_pl]; exact ⟨trivial, h1⟩
  · simp (disch := omega) only [up_eq, up_pl]; exact ⟨trivial, h2⟩
  · simp (disch := omega) only [up_eq, up_pl]; exact ⟨trivial, h3⟩
  · simp (disch := omega) only [up_pl]
  · simp (disch := omega) only [up_cell]
  · simp (disch := omega) only [up_cell]
  · simp (disch := omega) only [up_pl]
  · simp (disch := omega) only [up_cell]
  · simp (disch := omega) only [up_pl]
end PT
