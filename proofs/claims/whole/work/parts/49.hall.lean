/-! A hall copied. -/
theorem copy_hall (d s : Int) (h : pH) (hd : d + 46 ≤ s ∨ s + 46 ≤ d) {z : Int → Int} {nm nw : Nat} (hr : rl s h z nm nw) (h10 : nm ≤ 10) (h16 : nw ≤ 16) :
    rl d (H_X4_copyFrom d s h) z nm nw ∧ (∀ a, (a < d ∨ d + 46 ≤ a) → H_X4_copyFrom d s h a = h a) ∧ (∀ i : Int, (i = 4 ∨ i = 5 ∨ i = 6) → H_X4_copyFrom d s h (d + 37) i = h (s + 37) i) ∧ ∀ k : Int, 0 ≤ k → k < 60 → H_X4_copyFrom d s h (d + 38) k = h (s + 38) k ∧ H_X4_copyFrom d s h (d + 39) k = h (s + 39) k := by
  obtain ⟨hA, eA⟩ : ∃ q, q = H_X0_copyFrom (d + 1) (s + 1) h := ⟨_, rfl⟩
  obtain ⟨hB, eB⟩ : ∃ q, q = H_X6_copyFrom (d + 7) (s + 7) hA := ⟨_, rfl⟩
  obtain ⟨hC, eC⟩ : ∃ q, q = H_X8_copyFrom (d + 18) (s + 18) hB := ⟨_, rfl⟩
  obtain ⟨hD, eD⟩ : ∃ q, q = H_X10_copyFrom (d + 21) (s + 21) hC := ⟨_, rfl⟩
  obtain ⟨hE, eE⟩ : ∃ q, q = H_X9_copyFrom (d + 37) (s + 37) hD := ⟨_, rfl⟩
  obtain ⟨hF, eF⟩ : ∃ q, q = H_X5_copyFrom (d + 42) (s + 42) hE := ⟨_, rfl⟩
  have A := copy0 (d + 1) (s + 1) h (by omega)
  have B := copy6 (d + 7) (s + 7) hA (by omega)
  have C := copy8 (d + 18) (s + 18) hB (by omega)
  have D := copy10 (d + 21) (s + 21) hC (by omega)
  have E := copy9 (d + 37) (s + 37) hD (by omega)
  have F := copy5 (d + 42) (s + 42) hE (by omega)
  rw [← eA] at A; rw [← eB] at B; rw [← eC] at C; rw [← eD] at D; rw [← eE] at E; rw [← eF] at F
  have e : H_X4_copyFrom d s h = pm_upd (pm_upd hF d 7 (hF s 7)) d 8 (hF s 8) := by
    show s_X4_copyFrom_5 d s h = _
    unfold s_X4_copyFrom_5 s_X4_copyFrom_4
    have e3 : s_X4_copyFrom_3 d s h = hF := by rw [eF, eE, eD, eC, eB, eA]; rfl
    rw [e3, up_cell _ (show s ≠ d by omega)]
  generalize H_X4_copyFrom d s h = H at e ⊢
  have c : ∀ a, a ≠ d → H a = hF a := fun a e1 => by rw [e, up_cell _ e1, up_cell _ e1]
  have s1 : ∀ a, (a < d + 1 ∨ d + 6 ≤ a) → hA a = h a := fun a q => A.1 a (by omega)
  have s2 : ∀ a, (a < d + 1 ∨ d + 17 ≤ a) → hB a = h a := fun a q => by rw [B.1 a (by omega)]; exact s1 a (by omega)
  have s3 : ∀ a, (a < d + 1 ∨ d + 21 ≤ a) → hC a = h a := fun a q => by rw [C.1 a (by omega)]; exact s2 a (by omega)
  have s4 : ∀ a, (a < d + 1 ∨ d + 37 ≤ a) → hD a = h a := fun a q => by rw [D.1 a (by omega)]; exact s3 a (by omega)
  have s5 : ∀ a, (a < d + 1 ∨ d + 40 ≤ a) → hE a = h a := fun a q => by rw [E.1 a (by omega)]; exact s4 a (by omega)
  have s6 : ∀ a, (a < d + 1 ∨ d + 45 ≤ a) → hF a = h a := fun a q => by rw [F.1 a (by omega)]; exact s5 a (by omega)
  have tE : ∀ a, d + 37 ≤ a → a ≤ d + 39 → H a = hE a := fun a q1 q2 => by rw [c a (by omega), F.1 a (by omega)]
  have tD : ∀ a, d + 1 ≤ a → a ≤ d + 36 → H a = hD a := fun a q1 q2 => by rw [c a (by omega), F.1 a (by omega), E.1 a (by omega)]
  have tC : ∀ a, d + 1 ≤ a → a ≤ d + 20 → H a = hC a := fun a q1 q2 => by rw [tD a q1 (by omega), D.1 a (by omega)]
  have tB : ∀ a, d + 1 ≤ a → a ≤ d + 17 → H a = hB a := fun a q1 q2 => by rw [tC a q1 (by omega), C.1 a (by omega)]
  have tA : ∀ a, d + 1 ≤ a → a ≤ d + 6 → H a = hA a := fun a q1 q2 => by rw [tB a q1 (by omega), B.1 a (by omega)]
  simp only [Int.add_assoc, Int.reduceAdd] at A B C D E F
  obtain ⟨⟨a0, a1, a2, a8, ac, ak⟩, ⟨mn, mm⟩, hp, h17, ⟨wn, wh, ww, wo⟩, hlo, h7, h8⟩ := hr
  refine ⟨⟨⟨?_, ?_, ?_, ?_, fun k e1 e2 => ?_, fun k e1 e2 => ?_⟩, ⟨?_, fun m e1 e2 => ?_⟩, ?_, ?_, ⟨?_, fun k e1 e2 => ?_, fun w e1 e2 => ?_, fun k e1 e2 => ?_⟩, ?_, ?_, ?_⟩, fun a q => ?_, fun i q => ?_, fun k e1 e2 => ?_⟩
  · rw [tA (d + 1) (by omega) (by omega), A.2.1 5 (by omega)]; exact a0
  · rw [tA (d + 1) (by omega) (by omega), A.2.1 6 (by omega)]; exact a1
  · rw [tA (d + 1) (by omega) (by omega), A.2.1 7 (by omega)]; exact a2
  · rw [tA (d + 1) (by omega) (by omega), A.2.1 8 (by omega)]; exact a8
  · have q := A.2.2.1 k e1 e2
    rw [tA (d + 2) (by omega) (by omega), tA (d + 3) (by omega) (by omega), tA (d + 4) (by omega) (by omega), q.1, q.2.1, q.2.2]; exact ac k e1 e2
  · rw [tA (d + 5) (by omega) (by omega), A.2.2.2 k e1 e2]; exact ak k e1 e2
  · rw [tB (d + 7) (by omega) (by omega), B.2.1, s1 (s + 7) (by omega)]; exact mn
  · have q := B.2.2 m e1 (by omega)
    rw [tB (d + 8) (by omega) (by omega), tB (d + 9) (by omega) (by omega), tB (d + 10) (by omega) (by omega), tB (d + 11) (by omega) (by omega), tB (d + 12) (by omega) (by omega), tB (d + 13) (by omega) (by omega), tB (d + 14) (by omega) (by omega), tB (d + 15) (by omega) (by omega), tB (d + 16) (by omega) (by omega), q.1, q.2.1, q.2.2.1, q.2.2.2.1, q.2.2.2.2.1, q.2.2.2.2.2.1, q.2.2.2.2.2.2.1, q.2.2.2.2.2.2.2.1, q.2.2.2.2.2.2.2.2, s1 (s + 8) (by omega), s1 (s + 9) (by omega), s1 (s + 10) (by omega), s1 (s + 11) (by omega), s1 (s + 12) (by omega), s1 (s + 13) (by omega), s1 (s + 14) (by omega), s1 (s + 15) (by omega), s1 (s + 16) (by omega)]
    exact mm m e1 e2
  · unfold zpow at hp ⊢
    rw [tC (d + 18) (by omega) (by omega), C.2.1 2 (by omega) (by omega), C.2.1 3 (by omega) (by omega), C.2.1 4 (by omega) (by omega), C.2.1 5 (by omega) (by omega), C.2.1 6 (by omega) (by omega), C.2.1 8 (by omega) (by omega), s2 (s + 18) (by omega)]
    obtain ⟨u2, u3, u4, u5, u6, u8, u20, u19⟩ := hp
    exact ⟨u2, u3, u4, u5, u6, u8, fun k e1 e2 => by rw [tC (d + 20) (by omega) (by omega), C.2.2.2 k e1 e2, s2 (s + 20) (by omega)]; exact u20 k e1 e2, fun k e1 e2 => by rw [tC (d + 19) (by omega) (by omega), C.2.2.1 k e1 e2, s2 (s + 19) (by omega)]; exact u19 k e1 e2⟩
  · rw [tC (d + 18) (by omega) (by omega), C.2.1 7 (by omega) (by omega), s2 (s + 18) (by omega)]; exact h17
  · rw [tD (d + 21) (by omega) (by omega), D.2.1, s3 (s + 21) (by omega)]; exact wn
  · have q := D.2.2.1 k e1 e2
    rw [tD (d + 22) (by omega) (by omega), tD (d + 23) (by omega) (by omega), tD (d + 24) (by omega) (by omega), q.1, q.2.1, q.2.2, s3 (s + 22) (by omega), s3 (s + 23) (by omega), s3 (s + 24) (by omega)]; exact wh k e1 e2
  · have q := D.2.2.2 w e1 (by omega)
    rw [tD (d + 25) (by omega) (by omega), tD (d + 26) (by omega) (by omega), tD (d + 27) (by omega) (by omega), tD (d + 28) (by omega) (by omega), tD (d + 29) (by omega) (by omega), tD (d + 30) (by omega) (by omega), tD (d + 31) (by omega) (by omega), tD (d + 32) (by omega) (by omega), tD (d + 33) (by omega) (by omega), tD (d + 35) (by omega) (by omega), q.1, q.2.1, q.2.2.1, q.2.2.2.1, q.2.2.2.2.1, q.2.2.2.2.2.1, q.2.2.2.2.2.2.1, q.2.2.2.2.2.2.2.1, q.2.2.2.2.2.2.2.2.1, q.2.2.2.2.2.2.2.2.2.1, s3 (s + 25) (by omega), s3 (s + 26) (by omega), s3 (s + 27) (by omega), s3 (s + 28) (by omega), s3 (s + 29) (by omega), s3 (s + 30) (by omega), s3 (s + 31) (by omega), s3 (s + 32) (by omega), s3 (s + 33) (by omega), s3 (s + 35) (by omega)]
    exact ww w e1 e2
  · have q := D.2.2.2 k e1 (by omega)
    rw [tD (d + 36) (by omega) (by omega), q.2.2.2.2.2.2.2.2.2.2, s3 (s + 36) (by omega)]; exact wo k e1 e2
  · obtain ⟨l0, l1, l2, l3, lk⟩ := hlo
    unfold zlots
    rw [c (d + 42) (by omega), F.2.1 0 (by omega) (by omega), F.2.1 1 (by omega) (by omega), F.2.1 2 (by omega) (by omega), F.2.1 3 (by omega) (by omega), s5 (s + 42) (by omega)]
    refine ⟨l0, l1, l2, l3, fun k e1 e2 => ?_⟩
    have q := F.2.2 k e1 e2
    rw [c (d + 43) (by omega), c (d + 44) (by omega), q.1, q.2, s5 (s + 43) (by omega), s5 (s + 44) (by omega)]
    exact lk k e1 e2
  · rw [e, up_pl _ (by omega), up_eq, s6 s (by omega)]; exact h7
  · rw [e, up_eq, s6 s (by omega)]; exact h8
  · rw [c a (by omega)]; exact s6 a (by omega)
  · rw [tE (d + 37) (by omega) (by omega), E.2.1 i q, s4 (s + 37) (by omega)]
  · have q := E.2.2 k e1 e2
    rw [tE (d + 38) (by omega) (by omega), tE (d + 39) (by omega) (by omega), q.1, q.2, s4 (s + 38) (by omega), s4 (s + 39) (by omega)]
    exact ⟨rfl, rfl⟩
