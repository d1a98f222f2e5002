/-! The text constant's indexOf, called. -/
theorem pix_all : ∀ x : Fin 256, pix_v (Int32.ofInt ((x.val : Nat) : Int)) = Int32.ofInt (pm_ix ((x.val : Nat) : Int)) := by decide +kernel
theorem pix_val_of {x : Int} (hX : pm_i32 x) : pix_v (Int32.ofInt x) = Int32.ofInt (pm_ix x) := by
  have out : (x < 0 ∨ 255 < x) → pm_ix x = -1 := fun h => by
    unfold pm_ix
    rw [if_neg (by omega), if_neg (by omega), if_neg (by omega), if_neg (by omega), if_neg (by omega), if_neg (by omega)]
  have e0 : (0 : Int32).toInt = 0 := rfl
  have e255 : (255 : Int32).toInt = 255 := rfl
  by_cases c : x < 0
  · rw [out (Or.inl c)]
    have hc : Int32.ofInt x < 0 := by rw [Int32.lt_iff_toInt_lt, pm_toI hX, e0]; exact c
    have h : pix_ce (Int32.ofInt x) = 0 := by unfold pix_ce; rw [if_pos hc]
    unfold pix_v
    rw [if_pos h]; rfl
  · by_cases d : 255 < x
    · rw [out (Or.inr d)]
      have hc : ¬ Int32.ofInt x < 0 := by rw [Int32.lt_iff_toInt_lt, pm_toI hX, e0]; exact c
      have hd : (255 : Int32) < Int32.ofInt x := by rw [Int32.lt_iff_toInt_lt, pm_toI hX, e255]; exact d
      have h : pix_ce (Int32.ofInt x) = 0 := by unfold pix_ce; rw [if_neg hc, if_pos hd]
      unfold pix_v
      rw [if_pos h]; rfl
    · obtain ⟨n, hn⟩ : ∃ n : Nat, x = n := ⟨x.toNat, by omega⟩
      subst hn
      exact pix_all ⟨n, by omega⟩
section PI
variable {p : Program} {l : Launch} {e : Env} {R : Room} {s : State} {m : MethodId} {args : Array Value} {below : List Frame} {meth : Method} {c : Code} {H : Heap} {locs : List Loc} {Q : State → Prop} {ad : Nat → Nat} {sa sv : Nat} {pc : Nat} {ls : Array Slot} {cc : ByteArray}
theorem pm_W_ix2 (hx : p.tables.exec = Jvm.exec) (hb : c.code = cc) (hml : c.maxLocals = ls.size) (hts : ∀ w ∈ pm_TB, w.before args s = true) (hown : s.vm.findClass (pm_rn 9) = some m.cls) (hst : pm_St sa sv (pm_A ad s.heap.size) s s.heap) (hS : va_S (pm_A ad s.heap.size) s.heap H locs) (hR : 7 ≤ R.frames ∧ 231 ≤ R.locals) {x : Int} (hX : pm_i32 x) {rest : List Value} (hrest : (rest.map fun v => v.category).sum ≤ 8) (hd : decode cc pc = .ok (.invokevirtual 95, 3))
    (kk : ∀ (H1 : Heap) (locs1 : List Loc), (∀ q : Nat, q < H.size → H1[q]? = H[q]?) → va_S (pm_A ad s.heap.size) s.heap H1 locs1 → W p l e R s m args below meth c H1 locs1 0 0 Q (F0 m (pc + 3) ls (.int (Int32.ofInt (pm_ix x)) :: rest))) : W p l e R s m args below meth c H locs 0 0 Q (F0 m pc ls (.int (Int32.ofInt x) :: .ref sa :: rest)) := by
  obtain ⟨-, h2, h3⟩ := hst
  have hT : vk_S 1 [6] [pix_bs] (fun _ => sa) (fun _ => sv) (fun _ => False) s H ∧ va_Z "java/lang/String" "COMPACT_STRINGS" "Z" (.int 1) (fun _ => False) s H := ⟨(h2.kept hS.2.1).narrow (fun _ q => q.elim), (h3.kept hS.2.1).narrow (fun _ q => q.elim)⟩
  have hr : ∃ cellB : Cell, H[sa]? = some cellB ∧ cellB.vm.isStatics = false ∧ s.vm.findClass "java/lang/String" = some cellB.cls := by
    obtain ⟨cell, q1, q2, q3, -⟩ := (hT.1.1 0 (by decide)).1
    exact ⟨cell, q1, q2, q3⟩
  refine pix_V (pix_ind1 l sa sv (Int32.ofInt x)) pix_bl hx hb hml hts hown pix_l95r pix_m95r pix_e95r pix_ini0 pix_b95r ⟨by decide +kernel, by decide +kernel⟩ (b := sa) (As := [.int (Int32.ofInt x)]) (rest := rest) (fun sig hs => by
      have h : parseMethodDescriptor "(I)I" = some { parameters := [.int], returnType := some .int } := by decide +kernel
      rw [show yJ0_indexOf_0f7a4.desc = "(I)I" from rfl, h] at hs
      rw [← Option.some.inj hs]; rfl) ⟨by omega, by omega⟩ (fun U hU hW => ⟨rfl, by
      unfold pix_T
      rw [hU]
      exact ⟨hT.1.moved hW.alike, hT.2.moved hW.alike⟩⟩) hr hrest hd rfl ?_
  rw [pix_val_of hX]
  exact kk H locs (fun _ _ => rfl) hS
end PI
