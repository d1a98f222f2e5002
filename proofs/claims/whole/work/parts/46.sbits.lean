/-! A text read by both. -/
noncomputable def bit (b j : Int) : Prop := pm_and b (pm_shl 1 j) ≠ 0
theorem bits_or_all : ∀ b : Fin 512, ∀ d : Fin 9, (0 ≤ pm_or ((b.val : Nat) : Int) (pm_shl 1 ((d.val : Nat) : Int)) ∧ pm_or ((b.val : Nat) : Int) (pm_shl 1 ((d.val : Nat) : Int)) < 512) ∧
    ∀ j : Fin 9, (pm_and (pm_or ((b.val : Nat) : Int) (pm_shl 1 ((d.val : Nat) : Int))) (pm_shl 1 ((j.val : Nat) : Int)) ≠ 0 ↔ j.val = d.val ∨ pm_and ((b.val : Nat) : Int) (pm_shl 1 ((j.val : Nat) : Int)) ≠ 0) := by decide +kernel
theorem bits_and_all : ∀ b : Fin 512, ∀ d : Fin 9, (0 ≤ pm_and ((b.val : Nat) : Int) (pm_xor (pm_shl 1 ((d.val : Nat) : Int)) (-1)) ∧ pm_and ((b.val : Nat) : Int) (pm_xor (pm_shl 1 ((d.val : Nat) : Int)) (-1)) < 512) ∧
    ∀ j : Fin 9, (pm_and (pm_and ((b.val : Nat) : Int) (pm_xor (pm_shl 1 ((d.val : Nat) : Int)) (-1))) (pm_shl 1 ((j.val : Nat) : Int)) ≠ 0 ↔ ¬ j.val = d.val ∧ pm_and ((b.val : Nat) : Int) (pm_shl 1 ((j.val : Nat) : Int)) ≠ 0) := by decide +kernel
theorem bits_or {b d : Int} (hb : 0 ≤ b ∧ b < 512) (hd : 0 ≤ d ∧ d ≤ 8) : (0 ≤ pm_or b (pm_shl 1 d) ∧ pm_or b (pm_shl 1 d) < 512) ∧ ∀ j : Int, 0 ≤ j → j ≤ 8 → (bit (pm_or b (pm_shl 1 d)) j ↔ j = d ∨ bit b j) := by
  have q := bits_or_all ⟨b.toNat, by omega⟩ ⟨d.toNat, by omega⟩
  rw [show ((b.toNat : Nat) : Int) = b by omega, show ((d.toNat : Nat) : Int) = d by omega] at q
  refine ⟨q.1, fun j h1 h2 => ?_⟩
  have w := q.2 ⟨j.toNat, by omega⟩
  rw [show ((j.toNat : Nat) : Int) = j by omega] at w
  unfold bit
  refine w.trans ⟨fun z => z.elim (fun y => Or.inl ?_) Or.inr, fun z => z.elim (fun y => Or.inl ?_) Or.inr⟩
  · have y' : j.toNat = d.toNat := y
    omega
  · show j.toNat = d.toNat
    omega
theorem bits_and {b d : Int} (hb : 0 ≤ b ∧ b < 512) (hd : 0 ≤ d ∧ d ≤ 8) : (0 ≤ pm_and b (pm_xor (pm_shl 1 d) (-1)) ∧ pm_and b (pm_xor (pm_shl 1 d) (-1)) < 512) ∧ ∀ j : Int, 0 ≤ j → j ≤ 8 → (bit (pm_and b (pm_xor (pm_shl 1 d) (-1))) j ↔ ¬ j = d ∧ bit b j) := by
  have q := bits_and_all ⟨b.toNat, by omega⟩ ⟨d.toNat, by omega⟩
  rw [show ((b.toNat : Nat) : Int) = b by omega, show ((d.toNat : Nat) : Int) = d by omega] at q
  refine ⟨q.1, fun j h1 h2 => ?_⟩
  have w := q.2 ⟨j.toNat, by omega⟩
  rw [show ((j.toNat : Nat) : Int) = j by omega] at w
  unfold bit
  refine w.trans ⟨fun z => ⟨fun y => z.1 ?_, z.2⟩, fun z => ⟨fun y => z.1 ?_, z.2⟩⟩
  · show j.toNat = d.toNat
    omega
  · have y' : j.toNat = d.toNat := y
    omega
theorem i2c_all : ∀ x : Fin 128, pm_i2c ((x.val : Nat) : Int) = ((x.val : Nat) : Int) := by decide +kernel
theorem i2c_id {x : Int} (h : 0 ≤ x ∧ x ≤ 127) : pm_i2c x = x := by
  have q := i2c_all ⟨x.toNat, by omega⟩
  rw [show ((x.toNat : Nat) : Int) = x by omega] at q
  exact q
