/-! A hall's relation in groups; what each looks at. -/
noncomputable def AIRs (b : Int) (h : pH) (z : Int → Int) : Prop := rl_air b h z ∧ yl_air z
noncomputable def MACs (b : Int) (h : pH) (z : Int → Int) (nm nw : Nat) : Prop := rl_mac b h z nm ∧ yl_mac z nm nw
noncomputable def POWs (b : Int) (h : pH) (z : Int → Int) : Prop := zpow b h z ∧ h (b + 18) 7 = z 17 ∧ ypow z ∧ 0 ≤ z 17 ∧ z 17 ≤ 15000
noncomputable def WKSs (b : Int) (h : pH) (z : Int → Int) (nm nw : Nat) : Prop := rl_wks b h z nw ∧ yl_wks z nm nw
noncomputable def LOTs (b : Int) (h : pH) (z : Int → Int) : Prop := zlots b h z ∧ ylots z
noncomputable def TIMs (b : Int) (h : pH) (z : Int → Int) : Prop := h b 7 = z 15 ∧ h b 8 = z 16 ∧ 0 ≤ z 15 ∧ 0 ≤ z 16 ∧ z 16 ≤ 3
noncomputable def hl (b : Int) (h : pH) (z : Int → Int) (nm nw : Nat) (T : Int) : Prop := AIRs b h z ∧ MACs b h z nm nw ∧ POWs b h z ∧ WKSs b h z nm nw ∧ LOTs b h z ∧ zrul (b + 37) h z ∧ TIMs b h z ∧ z 15 ≤ T
theorem hl_of {b : Int} {h : pH} {z : Int → Int} {nm nw : Nat} {T : Int} (hr : rl b h z nm nw) (hy : yl z nm nw) (hz : zrul (b + 37) h z) (ht : z 15 ≤ T) : hl b h z nm nw T := by
  obtain ⟨r1, r2, r3, r4, r5, r6, r7, r8⟩ := hr
  obtain ⟨y1, y2, y3, y4, y5, y6, y7, y8⟩ := hy
  exact ⟨⟨r1, y1⟩, ⟨r2, y2⟩, ⟨r3, r4, y3, y4⟩, ⟨r5, y5⟩, ⟨r6, y6⟩, hz, ⟨r7, r8, y7, y8⟩, ht⟩
theorem hl_rl {b : Int} {h : pH} {z : Int → Int} {nm nw : Nat} {T : Int} (q : hl b h z nm nw T) : rl b h z nm nw ∧ yl z nm nw ∧ zrul (b + 37) h z ∧ z 15 ≤ T := by
  obtain ⟨⟨r1, y1⟩, ⟨r2, y2⟩, ⟨r3, r4, y3, y4⟩, ⟨r5, y5⟩, ⟨r6, y6⟩, hz, ⟨r7, r8, y7, y8⟩, ht⟩ := q
  exact ⟨⟨r1, r2, r3, r4, r5, r6, r7, r8⟩, ⟨y1, y2, y3, y4, y5, y6, y7, y8⟩, hz, ht⟩
section CG
variable {b : Int} {h h' : pH} {z z' : Int → Int} {nm nw : Nat} {T : Int}
theorem AIR_cg (q : AIRs b h z) (e : ∀ a, b + 1 ≤ a → a ≤ b + 5 → h' a = h a) (ez : ∀ k : Int, (k = 0 ∨ k = 1 ∨ k = 2 ∨ k = 8 ∨ (20 ≤ k ∧ k < 56) ∨ (440 ≤ k ∧ k < 500)) → z' k = z k) : AIRs b h' z' := by
  obtain ⟨⟨a0, a1, a2, a8, ac, ak⟩, b0, b0', b1, b1', b2, b2', b8, b8', bc, bk⟩ := q
  refine ⟨⟨?_, ?_, ?_, ?_, fun c e1 e2 => ?_, fun k e1 e2 => ?_⟩, ?_, ?_, ?_, ?_, ?_, ?_, ?_, ?_, fun c e1 e2 => ?_, fun k e1 e2 => ?_⟩
  · rw [e _ (by omega) (by omega), ez 0 (by omega)]; exact a0
  · rw [e _ (by omega) (by omega), ez 1 (by omega)]; exact a1
  · rw [e _ (by omega) (by omega), ez 2 (by omega)]; exact a2
  · rw [e _ (by omega) (by omega), ez 8 (by omega)]; exact a8
  · rw [e (b + 2) (by omega) (by omega), e (b + 3) (by omega) (by omega), e (b + 4) (by omega) (by omega), ez (20 + c) (by omega), ez (32 + c) (by omega), ez (44 + c) (by omega)]; exact ac c e1 e2
  · rw [e (b + 5) (by omega) (by omega), ez (440 + k) (by omega)]; exact ak k e1 e2
  · rw [ez 0 (by omega)]; exact b0
  · rw [ez 0 (by omega)]; exact b0'
  · rw [ez 1 (by omega)]; exact b1
  · rw [ez 1 (by omega)]; exact b1'
  · rw [ez 2 (by omega)]; exact b2
  · rw [ez 2 (by omega)]; exact b2'
  · rw [ez 8 (by omega)]; exact b8
  · rw [ez 8 (by omega)]; exact b8'
  · rw [ez (20 + c) (by omega), ez (32 + c) (by omega), ez (44 + c) (by omega)]; exact bc c e1 e2
  · rw [ez (440 + k) (by omega)]; exact bk k e1 e2
theorem MAC_cg (q : MACs b h z nm nw) (e : ∀ a, b + 7 ≤ a → a ≤ b + 16 → h' a = h a) (ez : ∀ k : Int, (k = 12 ∨ (84 ≤ k ∧ k < 174)) → z' k = z k) : MACs b h' z' nm nw := by
  obtain ⟨⟨mn, mm⟩, cn, c10, cm⟩ := q
  refine ⟨⟨?_, fun m e1 e2 => ?_⟩, ?_, c10, fun m e1 e2 => ?_⟩
  · rw [e _ (by omega) (by omega)]; exact mn
  · rw [e (b + 8) (by omega) (by omega), e (b + 9) (by omega) (by omega), e (b + 10) (by omega) (by omega), e (b + 11) (by omega) (by omega), e (b + 12) (by omega) (by omega), e (b + 13) (by omega) (by omega), e (b + 14) (by omega) (by omega), e (b + 15) (by omega) (by omega), e (b + 16) (by omega) (by omega),
      ez (84 + m) (by omega), ez (94 + m) (by omega), ez (104 + m) (by omega), ez (114 + m) (by omega), ez (124 + m) (by omega), ez (134 + m) (by omega), ez (144 + m) (by omega), ez (154 + m) (by omega), ez (164 + m) (by omega)]
    exact mm m e1 e2
  · rw [ez 12 (by omega)]; exact cn
  · rw [ez (84 + m) (by omega), ez (94 + m) (by omega), ez (104 + m) (by omega), ez (114 + m) (by omega), ez (124 + m) (by omega), ez (134 + m) (by omega), ez (144 + m) (by omega), ez (154 + m) (by omega), ez (164 + m) (by omega)]
    exact cm m e1 e2
theorem POW_cg (q : POWs b h z) (e : ∀ a, b + 18 ≤ a → a ≤ b + 20 → h' a = h a) (ez : ∀ k : Int, ((3 ≤ k ∧ k ≤ 7) ∨ k = 17 ∨ k = 18 ∨ (56 ≤ k ∧ k < 84)) → z' k = z k) : POWs b h' z' := by
  obtain ⟨⟨u1, u2, u3, u4, u5, u6, u7, u8⟩, h17, ⟨y1, y2, y3, y4, y5, y6, y7, y8, y9, y10, y11, y12, y13⟩, y17, y17'⟩ := q
  refine ⟨⟨?_, ?_, ?_, ?_, ?_, ?_, fun k e1 e2 => ?_, fun k e1 e2 => ?_⟩, ?_, ⟨?_, ?_, ?_, ?_, ?_, ?_, ?_, ?_, ?_, ?_, ?_, fun k e1 e2 => ?_, fun k e1 e2 => ?_⟩, ?_, ?_⟩
  · rw [e _ (by omega) (by omega), ez 3 (by omega)]; exact u1
  · rw [e _ (by omega) (by omega), ez 4 (by omega)]; exact u2
  · rw [e _ (by omega) (by omega), ez 5 (by omega)]; exact u3
  · rw [e _ (by omega) (by omega), ez 6 (by omega)]; exact u4
  · rw [e _ (by omega) (by omega), ez 7 (by omega)]; exact u5
  · rw [e _ (by omega) (by omega), ez 18 (by omega)]; exact u6
  · rw [e _ (by omega) (by omega), ez _ (by omega)]; exact u7 k e1 e2
  · rw [e _ (by omega) (by omega), ez _ (by omega)]; exact u8 k e1 e2
  · rw [e _ (by omega) (by omega), ez 17 (by omega)]; exact h17
  · rw [ez 3 (by omega)]; exact y1
  · rw [ez 3 (by omega)]; exact y2
  · rw [ez 4 (by omega)]; exact y3
  · rw [ez 4 (by omega)]; exact y4
  · rw [ez 5 (by omega)]; exact y5
  · rw [ez 5 (by omega)]; exact y6
  · rw [ez 6 (by omega)]; exact y7
  · rw [ez 6 (by omega)]; exact y8
  · rw [ez 7 (by omega)]; exact y9
  · rw [ez 7 (by omega), ez 4 (by omega)]; exact y10
  · rw [ez 18 (by omega)]; exact y11
  · rw [ez _ (by omega)]; exact y12 k e1 e2
  · rw [ez _ (by omega)]; exact y13 k e1 e2
  · rw [ez 17 (by omega)]; exact y17
  · rw [ez 17 (by omega)]; exact y17'
theorem WKS_cg (q : WKSs b h z nm nw) (e : ∀ a, b + 21 ≤ a → a ≤ b + 36 → h' a = h a) (ez : ∀ k : Int, (k = 13 ∨ k = 15 ∨ (174 ≤ k ∧ k < 376)) → z' k = z k) : WKSs b h' z' nm nw := by
  obtain ⟨⟨wn, wh, ww, wo⟩, dn, d16, dh, dw⟩ := q
  refine ⟨⟨?_, fun k e1 e2 => ?_, fun w e1 e2 => ?_, fun k e1 e2 => ?_⟩, ?_, d16, fun k e1 e2 => ?_, fun w e1 e2 => ?_⟩
  · rw [e _ (by omega) (by omega)]; exact wn
  · rw [e (b + 22) (by omega) (by omega), e (b + 23) (by omega) (by omega), e (b + 24) (by omega) (by omega), ez (174 + k) (by omega), ez (182 + k) (by omega), ez (190 + k) (by omega)]; exact wh k e1 e2
  · have q := ww w e1 e2
    rw [e (b + 25) (by omega) (by omega), e (b + 26) (by omega) (by omega), e (b + 27) (by omega) (by omega), e (b + 28) (by omega) (by omega), e (b + 29) (by omega) (by omega), e (b + 30) (by omega) (by omega), e (b + 31) (by omega) (by omega), e (b + 32) (by omega) (by omega), e (b + 33) (by omega) (by omega), e (b + 35) (by omega) (by omega),
      ez (200 + w) (by omega), ez (216 + w) (by omega), ez (232 + w) (by omega), ez (248 + w) (by omega), ez (264 + w) (by omega), ez (280 + w) (by omega), ez (296 + w) (by omega), ez (312 + w) (by omega), ez (344 + w) (by omega)]
    unfold zst at q ⊢
    rw [ez (328 + w) (by omega), ez (200 + w) (by omega), ez (248 + w) (by omega), ez 15 (by omega)]
    exact q
  · rw [e (b + 36) (by omega) (by omega), wo k e1 e2]
    have := zins_congr (key := zkey z) (key' := zkey z') (n := nw) (fun w e1 e2 => by
      unfold zkey
      have := (dw w e1 e2).2.1
      rw [ez (216 + w) (by omega), ez (174 + z (216 + w)) (by omega)]) nw (Nat.le_refl _)
    rw [this]
  · rw [ez 13 (by omega)]; exact dn
  · rw [ez (174 + k) (by omega), ez (182 + k) (by omega), ez (190 + k) (by omega)]; exact dh k e1 e2
  · unfold zwk
    rw [ez (200 + w) (by omega), ez (216 + w) (by omega), ez (232 + w) (by omega), ez (248 + w) (by omega), ez (264 + w) (by omega), ez (280 + w) (by omega), ez (296 + w) (by omega), ez (312 + w) (by omega), ez (328 + w) (by omega), ez (344 + w) (by omega), ez (360 + w) (by omega), ez 15 (by omega)]
    exact dw w e1 e2
theorem LOT_cg (q : LOTs b h z) (e : ∀ a, b + 42 ≤ a → a ≤ b + 44 → h' a = h a) (ez : ∀ k : Int, (k = 9 ∨ k = 10 ∨ k = 11 ∨ k = 19 ∨ (500 ≤ k ∧ k < 620)) → z' k = z k) : LOTs b h' z' := by
  obtain ⟨⟨l0, l1, l2, l3, lk⟩, y1, y2, y3, y4, y5, y6, y7, y8⟩ := q
  have y7' : ((z 19).toNat : Int) = z 19 := by omega
  refine ⟨⟨?_, ?_, ?_, ?_, fun k e1 e2 => ?_⟩, ?_, ?_, ?_, ?_, ?_, ?_, ?_, fun i e1 e2 => ?_⟩
  · rw [e _ (by omega) (by omega), ez 9 (by omega)]; exact l0
  · rw [e _ (by omega) (by omega), ez 10 (by omega)]; exact l1
  · rw [e _ (by omega) (by omega), ez 11 (by omega)]; exact l2
  · rw [e _ (by omega) (by omega), ez 19 (by omega)]; exact l3
  · have q := lk k e1 e2
    rw [e (b + 43) (by omega) (by omega), e (b + 44) (by omega) (by omega), ez 19 (by omega), q.1, q.2]
    exact ⟨zs_congr (fun i e1 e2 => by rw [ez (500 + i) (by omega), ez (560 + i) (by omega)]), zs_congr (fun i e1 e2 => by rw [ez (500 + i) (by omega), ez (560 + i) (by omega)])⟩
  · rw [ez 9 (by omega)]; exact y1
  · rw [ez 9 (by omega)]; exact y2
  · rw [ez 10 (by omega)]; exact y3
  · rw [ez 10 (by omega)]; exact y4
  · rw [ez 11 (by omega)]; exact y5
  · rw [ez 19 (by omega)]; exact y6
  · rw [ez 19 (by omega)]; exact y7
  · rw [ez 19 (by omega)] at e2
    rw [ez (500 + i) (by omega), ez (560 + i) (by omega)]; exact y8 i e1 e2
theorem RUL_cg (q : zrul (b + 37) h z) (e : ∀ a, b + 37 ≤ a → a ≤ b + 39 → h' a = h a) (ez : ∀ k : Int, (k = 14 ∨ (376 ≤ k ∧ k < 440)) → z' k = z k) : zrul (b + 37) h' z' :=
  zrul_congr q (fun i _ => by rw [e _ (by omega) (by omega)]) (fun k _ _ => by rw [e (b + 37 + 1) (by omega) (by omega), e (b + 37 + 2) (by omega) (by omega)]; exact ⟨rfl, rfl⟩) ez
theorem TIM_cg (q : TIMs b h z) (e : h' b = h b) (ez : ∀ k : Int, (k = 15 ∨ k = 16) → z' k = z k) : TIMs b h' z' := by
  unfold TIMs at q ⊢
  rw [e, ez 15 (by omega), ez 16 (by omega)]; exact q
/-- the same cells, the same row -/
theorem hl_cg (q : hl b h z nm nw T) (e : ∀ a, b ≤ a → a < b + 46 → h' a = h a) (ez : ∀ k : Int, 0 ≤ k → k < 620 → z' k = z k) : hl b h' z' nm nw T := by
  obtain ⟨q1, q2, q3, q4, q5, q6, q7, q8⟩ := q
  exact ⟨AIR_cg q1 (fun a _ _ => e a (by omega) (by omega)) (fun k _ => ez k (by omega) (by omega)), MAC_cg q2 (fun a _ _ => e a (by omega) (by omega)) (fun k _ => ez k (by omega) (by omega)), POW_cg q3 (fun a _ _ => e a (by omega) (by omega)) (fun k _ => ez k (by omega) (by omega)),
    WKS_cg q4 (fun a _ _ => e a (by omega) (by omega)) (fun k _ => ez k (by omega) (by omega)), LOT_cg q5 (fun a _ _ => e a (by omega) (by omega)) (fun k _ => ez k (by omega) (by omega)), RUL_cg q6 (fun a _ _ => e a (by omega) (by omega)) (fun k _ => ez k (by omega) (by omega)),
    TIM_cg q7 (e b (by omega) (by omega)) (fun k _ => ez k (by omega) (by omega)), by rw [ez 15 (by omega) (by omega)]; exact q8⟩
/-- a hall copied from base s to base d; the model's row copied -/
theorem hl_copy {d s : Int} (hd : d + 46 ≤ s ∨ s + 46 ≤ d) (q : hl s h z nm nw T) (ez : ∀ k : Int, 0 ≤ k → k < 620 → z' k = z k) : hl d (H_X4_copyFrom d s h) z' nm nw T ∧ ∀ a, (a < d ∨ d + 46 ≤ a) → H_X4_copyFrom d s h a = h a := by
  obtain ⟨r1, r2, r3, r4⟩ := hl_rl q
  obtain ⟨c1, c2, c3, c4⟩ := copy_hall d s h hd r1 r2.2.1.2.1 r2.2.2.2.2.1.2.1
  have : hl d (H_X4_copyFrom d s h) z nm nw T := hl_of c1 r2 (zrul_congr r3 (fun i e => c3 i e) (fun k e1 e2 => by
    have := c4 k e1 e2
    rw [show d + 37 + 1 = d + 38 by omega, show d + 37 + 2 = d + 39 by omega, show s + 37 + 1 = s + 38 by omega, show s + 37 + 2 = s + 39 by omega]; exact this) (fun k _ => rfl)) r4
  exact ⟨hl_cg this (fun a _ _ => rfl) ez, c2⟩
end CG
/-- a minute -/
theorem hl_step {b : Int} {h g : pH} {nm nw : Nat} {T : Int} (q : hl b h (g 249) nm nw T) (hT : T ≤ 100000) :
    P_X4_step b h ∧ P_X12_minute g ∧ hl b (H_X4_step b h) (H_X12_minute g 249) nm nw (T + 1) ∧ F_X4_step b h = nbr (H_X12_minute g 249) nw - nbr (g 249) nw ∧ H_X12_minute g 249 15 = g 249 15 + 1 ∧
    (∀ a, (a < b ∨ b + 46 ≤ a) → H_X4_step b h a = h a) ∧ (∀ a, (a < 248 ∨ a = 250 ∨ a = 251 ∨ a = 252 ∨ a = 253 ∨ a = 254 ∨ 264 ≤ a) → H_X12_minute g a = g a) ∧ (∀ k : Int, k ≠ 8 → k ≠ 9 → k ≠ 11 → k ≠ 12 → H_X12_minute g 248 k = g 248 k) ∧ (∀ w : Int, 0 ≤ w → w < nw → (H_X12_minute g 249 (328 + w) = 9 → g 249 (328 + w) = 9) ∧ (g 249 (328 + w) = 3 → H_X12_minute g 249 (328 + w) = 3)) := by
  obtain ⟨r1, r2, r3, r4⟩ := hl_rl q
  have ht := tell_ok b h g nm nw r1 r2 r3 (by omega)
  obtain ⟨s1, s2, s3, s4, s5, s6, s7, s8, s9, s10, s11⟩ := step_rel b h g nm nw r1 r2 ht (by omega)
  refine ⟨s1, s2, hl_of s3 s4 (zrul_congr r3 (fun i _ => by rw [s6 (b + 37) (by omega)]) (fun k _ _ => by rw [s6 (b + 37 + 1) (by omega), s6 (b + 37 + 2) (by omega)]; exact ⟨rfl, rfl⟩) s8) (by omega), s5, s9, fun a e => s6 a (by omega), s7, s10, s11⟩
