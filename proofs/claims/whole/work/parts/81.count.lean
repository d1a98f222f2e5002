/-! How many bits: the library's way and one by one. -/
theorem nbc_a : ∀ a : Fin 64, ∀ b : Fin 256, nbc (256 * a.val + b.val) = pop16 (256 * a.val + b.val) := by decide +kernel
theorem nbc_b : ∀ a : Fin 64, ∀ b : Fin 256, nbc (16384 + 256 * a.val + b.val) = pop16 (16384 + 256 * a.val + b.val) := by decide +kernel
theorem nbc_c : ∀ a : Fin 64, ∀ b : Fin 256, nbc (32768 + 256 * a.val + b.val) = pop16 (32768 + 256 * a.val + b.val) := by decide +kernel
theorem nbc_d : ∀ a : Fin 64, ∀ b : Fin 256, nbc (49152 + 256 * a.val + b.val) = pop16 (49152 + 256 * a.val + b.val) := by decide +kernel
theorem nbc_pop {x : Nat} (h : x < 65536) : nbc x = pop16 x := by
  by_cases c1 : x < 16384
  · have := nbc_a ⟨x / 256, by omega⟩ ⟨x % 256, by omega⟩
    simp only at this
    rw [show 256 * (x / 256) + x % 256 = x by omega] at this
    exact this
  · by_cases c2 : x < 32768
    · have := nbc_b ⟨(x - 16384) / 256, by omega⟩ ⟨(x - 16384) % 256, by omega⟩
      simp only at this
      rw [show 16384 + 256 * ((x - 16384) / 256) + (x - 16384) % 256 = x by omega] at this
      exact this
    · by_cases c3 : x < 49152
      · have := nbc_c ⟨(x - 32768) / 256, by omega⟩ ⟨(x - 32768) % 256, by omega⟩
        simp only at this
        rw [show 32768 + 256 * ((x - 32768) / 256) + (x - 32768) % 256 = x by omega] at this
        exact this
      · have := nbc_d ⟨(x - 49152) / 256, by omega⟩ ⟨(x - 49152) % 256, by omega⟩
        simp only at this
        rw [show 49152 + 256 * ((x - 49152) / 256) + (x - 49152) % 256 = x by omega] at this
        exact this
