/-! One heap for both: a class's call, then the model's. -/
theorem AL_cg {h g h' g' : pH} (al : AL h g) (e : ∀ a, a < 248 → h' a = h a) (e' : ∀ a, 248 ≤ a → g' a = g a) : AL h' g' := by
  obtain ⟨a0, ai, ab, ad⟩ := al
  refine ⟨?_, fun i i1 i2 => ?_, ?_, fun d d1 d2 => ?_⟩
  · rw [e' 249 (by omega)]
    exact hal_cg a0 (fun a a1 a2 => e a (by omega)) (fun _ _ _ => rfl)
  · rw [e 94 (by omega), e' 254 (by omega), e' (251 + i) (by omega)]
    obtain ⟨j1, j2, j3⟩ := ai i i1 i2
    exact ⟨j1, j2, fun z => hal_cg (j3 z) (fun a a1 a2 => e a (by omega)) (fun _ _ _ => rfl)⟩
  · unfold BOK
    rw [e 99 (by omega), e 146 (by omega), e' 248 (by omega), e' 253 (by omega), e' 264 (by omega)]
    obtain ⟨b1, b2, b3, b4, b5, b6, b7, b8⟩ := ab
    exact ⟨b1, b2, b3, b4, b5, b6, fun z => hal_cg (b7 z) (fun a a1 a2 => e a (by omega)) (fun _ _ _ => rfl), b8⟩
  · rw [e 96 (by omega), e 97 (by omega), e 98 (by omega), e' 270 (by omega), e' 271 (by omega), e' 272 (by omega), e' 273 (by omega)]
    exact ad d d1 d2
theorem FIT_cg {h h' : pH} (f : FIT h) (e : h' 153 = h 153) : FIT h' := by
  unfold FIT
  rw [e]
  exact f
/-- a pair of calls that change, on the one heap: the class's H, then the model's G at what it left -/
theorem joint {j : pH} {H G : pH → pH} (al : AL j j) (ft : FIT j) (m : ∀ h g, AL h g → RET h g (H h) (G g)) : AL j (H j) ∧ AL (G (H j)) (G (H j)) ∧ FIT (G (H j)) := by
  obtain ⟨-, f1, -⟩ := m j j al
  have a1 : AL j (H j) := AL_cg al (fun _ _ => rfl) (fun a ha => f1 a (Or.inr ha))
  obtain ⟨a2, f2, f3⟩ := m j (H j) a1
  exact ⟨a1, AL_cg a2 (fun a ha => f3 a ha) (fun _ _ => rfl), FIT_cg ft ((f3 153 (by omega)).trans (f1 153 (Or.inl rfl)))⟩
/-- the same for fitted, that changes cell 153 -/
theorem joint_fitted {j : pH} (al : AL j j) (ft : FIT j) : P_X11_fitted j ∧ P_X12_fitted (H_X11_fitted j) ∧ F_X11_fitted j = F_X12_fitted (H_X11_fitted j) ∧ AL (H_X12_fitted (H_X11_fitted j)) (H_X12_fitted (H_X11_fitted j)) ∧ FIT (H_X12_fitted (H_X11_fitted j)) := by
  obtain ⟨-, -, -, -, -, f1, -⟩ := m_fitted al ft
  have a1 : AL j (H_X11_fitted j) := AL_cg al (fun _ _ => rfl) f1
  obtain ⟨p1, p2, e, a2, ft2, -, f3⟩ := m_fitted a1 ft
  exact ⟨p1, p2, e, AL_cg a2 (fun a ha => f3 a ha) (fun _ _ => rfl), FIT_cg ft2 (f3 153 (by omega))⟩
