noncomputable def gz (z : Int → Int) (c : Int) : Int := if z 8 = 0 then z (20 + c) else z (440 + 12 * (z 8 - 1) + c)
theorem t1 (b : Int) (h : pH) (n : Nat) (hn : h (b + 7) 10 = n) (hn10 : n ≤ 10) (h8 : 0 ≤ h (b + 1) 8 ∧ h (b + 1) 8 ≤ 5) (hc : ∀ m, 0 ≤ m → m < (n : Int) → 0 ≤ h (b + 8) m ∧ h (b + 8) m < 12) :
    P_X4_readGauges b h ∧ (∀ a, a ≠ b + 17 → H_X4_readGauges b h a = h a) ∧ (∀ m, 0 ≤ m → m < (n : Int) → H_X4_readGauges b h (b + 17) m = F_X0_gauge (b + 1) (h (b + 8) m) h) := by
  unfold P_X4_readGauges H_X4_readGauges O_X4_readGauges_2 L_X4_readGauges_2
  have key := fx_rule (σ := Int × pH) (c := fun s => C_X4_readGauges_2 b s.1 s.2) (f := fun s => B_X4_readGauges_2 b s.1 s.2) (P := fun s => P_X4_readGauges_2 b s.1 s.2) (s0 := (0, h)) n
    (fun i s => s.1 = i ∧ (∀ a, a ≠ b + 17 → s.2 a = h a) ∧ (∀ m, 0 ≤ m → m < (i : Int) → s.2 (b + 17) m = F_X0_gauge (b + 1) (h (b + 8) m) h))
    ⟨rfl, fun _ _ => rfl, fun m h1 h2 => by omega⟩ ?_ ?_
  · exact ⟨key.1, key.2.2.1, key.2.2.2⟩
  · rintro i ⟨x, h'⟩ hi ⟨hx, hf, hv⟩
    simp only at hx hf hv
    subst hx
    have e7 := hf (b + 7) (by omega)
    have e8 := hf (b + 8) (by omega)
    have e1 := hf (b + 1) (by omega)
    have e2 := hf (b + 1 + 1) (by omega)
    have e4 := hf (b + 1 + 4) (by omega)
    have hc' := hc i (by omega) (by omega)
    simp only [P_X4_readGauges_2, C_X4_readGauges_2, B_X4_readGauges_2, s_X4_readGauges_1, P_X0_gauge, s_X0_gauge_1, F_X0_gauge, fx_i, e7, e8, e1, e2, e4] at *
    grind [up_app, up_cell]
  · rintro ⟨x, h'⟩ ⟨hx, hf, hv⟩
    simp only at hx hf hv
    subst hx
    have e7 := hf (b + 7) (by omega)
    simp only [P_X4_readGauges_2, C_X4_readGauges_2, e7]
    grind
