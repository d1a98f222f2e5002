/-! The first heap: a new object's hall, class and model. -/
theorem zrul_first {c : Int} {h : pH} {z : Int → Int} (h4 : h c 4 = 0) (h5 : h c 5 = 1) (h6 : h c 6 = 0) (z14 : z 14 = 0) : zrul c h z := by
  refine ⟨h4.trans z14.symm, by omega, by omega, fun k k1 k2 => by omega, [], trivial, h6, by decide, fun g sn e1 e2 hN => ?_⟩
  have e1' : g 249 14 = 0 := e1.trans z14
  have t : TX c (fun _ => 0) 0 h g := ⟨by omega, fun k k1 k2 => by omega, fun k k1 k2 => by omega, fun k k1 k2 => by omega⟩
  have rb := read_both t h4 e1' hN
  have k := fx_un_f (σ := Int × Int × Int × pH) (c := fun s => C_X12_workRules_24 0 s.1 s.2.1 s.2.2.1 s.2.2.2) (f := fun s => B_X12_workRules_24 0 s.1 s.2.1 s.2.2.1 s.2.2.2) (P := fun s => P_X12_workRules_24 0 s.1 s.2.1 s.2.2.1 s.2.2.2) (s := (0, 1, 0, s_X12_workRules_1 g)) (by
    show P_X12_workRules_24 0 0 1 0 (s_X12_workRules_1 g)
    unfold P_X12_workRules_24
    intro y
    exact absurd y.1 (by omega)) (by
    show ¬ ((0 : Int) < 0 ∧ _)
    omega)
  have we := (work_end e1' (by omega) k.1 ⟨0, k.2⟩).2.1 (by unfold s_X12_workRules_1; exact up_eq _ _ _ _) (by omega)
  refine ⟨rb.2.1, ?_, fun y => by omega⟩
  rw [we.2, up_eq, h5]
  omega
/-- the model's first row -/
def zf (k : Int) : Int := if k = 0 ∨ k = 2 then 100 else if k = 1 then 20 else if k = 3 then 100000 else if k = 6 then 50 else if k = 8 then 1 else if 44 ≤ k ∧ k < 56 then 200 else if 56 ≤ k ∧ k < 60 then 10000 else if 60 ≤ k ∧ k < 84 then 10 else 0
theorem zf_0 {k : Int} (h : k = 4 ∨ k = 5 ∨ k = 7 ∨ (9 ≤ k ∧ k < 44) ∨ 84 ≤ k) : zf k = 0 := by
  unfold zf
  rw [if_neg (by omega), if_neg (by omega), if_neg (by omega), if_neg (by omega), if_neg (by omega), if_neg (by omega), if_neg (by omega), if_neg (by omega)]
theorem zf_44 {k : Int} (h : 44 ≤ k ∧ k < 56) : zf k = 200 := by
  unfold zf
  rw [if_neg (by omega), if_neg (by omega), if_neg (by omega), if_neg (by omega), if_neg (by omega), if_pos h]
theorem zf_56 {k : Int} (h : 56 ≤ k ∧ k < 60) : zf k = 10000 := by
  unfold zf
  rw [if_neg (by omega), if_neg (by omega), if_neg (by omega), if_neg (by omega), if_neg (by omega), if_neg (by omega), if_pos h]
theorem zf_60 {k : Int} (h : 60 ≤ k ∧ k < 84) : zf k = 10 := by
  unfold zf
  rw [if_neg (by omega), if_neg (by omega), if_neg (by omega), if_neg (by omega), if_neg (by omega), if_neg (by omega), if_neg (by omega), if_pos h]
/-- a new hall of the class -/
noncomputable def new_hall (b : Int) (h : pH) : Prop := (h (b + 1) 5 = 100 ∧ h (b + 1) 6 = 20 ∧ h (b + 1) 7 = 100 ∧ h (b + 1) 8 = 1) ∧ (∀ c : Int, 0 ≤ c → c < 12 → h (b + 2) c = 0 ∧ h (b + 3) c = 0 ∧ h (b + 4) c = 200) ∧ (∀ k : Int, 0 ≤ k → k < 60 → h (b + 5) k = 0) ∧ h (b + 7) 10 = 0 ∧
  (h (b + 18) 2 = 100000 ∧ h (b + 18) 3 = 0 ∧ h (b + 18) 4 = 0 ∧ h (b + 18) 5 = 50 ∧ h (b + 18) 6 = 0 ∧ h (b + 18) 7 = 0 ∧ h (b + 18) 8 = 0) ∧ (∀ f : Int, 0 ≤ f → f < 4 → h (b + 19) f = 10000) ∧ (∀ k : Int, 0 ≤ k → k < 24 → h (b + 20) k = 10) ∧
  h (b + 21) 15 = 0 ∧ (∀ k : Int, 0 ≤ k → k < 8 → h (b + 22) k = 0 ∧ h (b + 23) k = 0 ∧ h (b + 24) k = 0) ∧ (h (b + 42) 0 = 0 ∧ h (b + 42) 1 = 0 ∧ h (b + 42) 2 = 0 ∧ h (b + 42) 3 = 0) ∧ (∀ k : Int, 0 ≤ k → k < 10 → h (b + 43) k = 0 ∧ h (b + 44) k = 0) ∧
  (h (b + 37) 4 = 0 ∧ h (b + 37) 5 = 1 ∧ h (b + 37) 6 = 0) ∧ h b 7 = 0 ∧ h b 8 = 0
theorem hal_first {b : Int} {h : pH} {z : Int → Int} (n : new_hall b h) (hz : ∀ k : Int, 0 ≤ k → k < 620 → z k = zf k) : hal b h z := by
  have q : hal b h zf := by
    obtain ⟨⟨a5, a6, a7, a8⟩, ac, ak, m10, ⟨p2, p3, p4, p5, p6, p7, p8⟩, pf, pk, w15, wk, ⟨l0, l1, l2, l3⟩, lk, ⟨r4, r5, r6⟩, t7, t8⟩ := n
    have z0 : zf 0 = 100 := by decide
    have z1 : zf 1 = 20 := by decide
    have z2 : zf 2 = 100 := by decide
    have z3 : zf 3 = 100000 := by decide
    have z6 : zf 6 = 50 := by decide
    have z8 : zf 8 = 1 := by decide
    have zz : ∀ k : Int, (k = 4 ∨ k = 5 ∨ k = 7 ∨ (9 ≤ k ∧ k < 44) ∨ 84 ≤ k) → zf k = 0 := fun k e => zf_0 e
    refine ⟨0, 0, ⟨⟨⟨?_, ?_, ?_, ?_, fun c c1 c2 => ?_, fun k k1 k2 => ?_⟩, ?_⟩, ⟨⟨m10, fun m m1 m2 => by omega⟩, zz 12 (by omega), by omega, fun m m1 m2 => by omega⟩, ⟨⟨?_, ?_, ?_, ?_, ?_, ?_, fun k k1 k2 => ?_, fun f f1 f2 => ?_⟩, ?_, ?_, ?_, ?_⟩, ⟨⟨w15, fun k k1 k2 => ?_, fun w w1 w2 => by omega, fun k k1 k2 => by omega⟩, zz 13 (by omega), by omega, fun k k1 k2 => ?_, fun w w1 w2 => by omega⟩, ⟨⟨?_, ?_, ?_, ?_, fun k k1 k2 => ?_⟩, ?_⟩, zrul_first r4 r5 r6 (zz 14 (by omega)), ⟨?_, ?_, ?_, ?_, ?_⟩, ?_⟩, fun w w1 w2 => by omega⟩
    · rw [a5, z0]
    · rw [a6, z1]
    · rw [a7, z2]
    · rw [a8, z8]
    · rw [(ac c c1 c2).1, (ac c c1 c2).2.1, (ac c c1 c2).2.2, zz (20 + c) (by omega), zz (32 + c) (by omega), zf_44 (by omega)]
      exact ⟨rfl, rfl, rfl⟩
    · rw [ak k k1 k2, zz _ (by omega)]
    · unfold yl_air
      rw [z0, z1, z2, z8]
      refine ⟨by omega, by omega, by omega, by omega, by omega, by omega, by omega, by omega, fun c c1 c2 => ?_, fun k k1 k2 => ?_⟩
      · rw [zz (20 + c) (by omega), zz (32 + c) (by omega), zf_44 (k := 44 + c) (by omega)]; omega
      · rw [zz _ (by omega)]; omega
    · rw [p2, z3]
    · rw [p3, zz 4 (by omega)]
    · rw [p4, zz 5 (by omega)]
    · rw [p5, z6]
    · rw [p6, zz 7 (by omega)]
    · rw [p8, zz 18 (by omega)]
    · rw [pk k k1 k2, zf_60 (by omega)]
    · rw [pf f f1 f2, zf_56 (by omega)]
    · rw [p7, zz 17 (by omega)]
    · unfold ypow fx_l
      rw [z3, z6, zz 4 (by omega), zz 5 (by omega), zz 7 (by omega), zz 18 (by omega)]
      exact ⟨by omega, by omega, by omega, by omega, by omega, by omega, by omega, by omega, by omega, by omega, by omega, fun k k1 k2 => by rw [zf_60 (by omega)]; omega, fun f f1 f2 => by rw [zf_56 (by omega)]; omega⟩
    · rw [zz 17 (by omega)]; omega
    · rw [zz 17 (by omega)]; omega
    · rw [(wk k k1 k2).1, (wk k k1 k2).2.1, (wk k k1 k2).2.2, zz (174 + k) (by omega), zz (182 + k) (by omega), zz (190 + k) (by omega)]
      exact ⟨rfl, rfl, rfl⟩
    · rw [zz (174 + k) (by omega), zz (182 + k) (by omega), zz (190 + k) (by omega)]; omega
    · rw [l0, zz 9 (by omega)]
    · rw [l1, zz 10 (by omega)]
    · rw [l2, zz 11 (by omega)]
    · rw [l3, zz 19 (by omega)]
    · rw [(lk k k1 k2).1, (lk k k1 k2).2, zz 19 (by omega)]
      exact ⟨rfl, rfl⟩
    · unfold ylots fx_i
      rw [zz 9 (by omega), zz 10 (by omega), zz 11 (by omega), zz 19 (by omega)]
      exact ⟨by omega, by omega, by omega, by omega, by omega, by omega, by omega, fun i i1 i2 => by omega⟩
    · rw [t7, zz 15 (by omega)]
    · rw [t8, zz 16 (by omega)]
    · rw [zz 15 (by omega)]; omega
    · rw [zz 16 (by omega)]; omega
    · rw [zz 16 (by omega)]; omega
    · rw [zz 15 (by omega)]; omega
  exact hal_cg q (fun _ _ _ => rfl) hz
/-- the first heaps are related -/
theorem AL_first {h g : pH} (n : new_hall 1 h) (hz : ∀ k : Int, 0 ≤ k → k < 620 → g 249 k = zf k) (i0 : ∀ i : Int, 0 ≤ i → i ≤ 1 → h 94 i = 0 ∧ g 254 i = 0) (b0 : h 99 2 = 0 ∧ h 99 3 = 0 ∧ g 248 20 = 0 ∧ g 248 21 = 0) (d0 : ∀ d : Int, 0 ≤ d → d < 4 → g 270 d = 0 ∧ h 96 d = 0) : AL h g := by
  refine ⟨hal_first n hz, fun i i1 i2 => ?_, ?_, fun d d1 d2 => Or.inl (d0 d d1 d2)⟩
  · obtain ⟨q1, q2⟩ := i0 i i1 i2
    exact ⟨Or.inl q1, by omega, fun y => by omega⟩
  · exact ⟨by omega, by omega, by omega, by omega, by omega, fun _ => b0.2.1, fun y => by omega, fun i i1 i2 => by omega⟩
