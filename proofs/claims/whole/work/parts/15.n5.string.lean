/-! The text constant's indexOf: String. -/
theorem pix_ini0 : Jvm.Cond.initialized "java/lang/String" ∈ pm_TB := pm_TB_in (j := 91) (by decide +kernel) (by first | rfl | decide +kernel)
theorem pix_f38 : Jvm.Cond.fieldLink "java/lang/String" 38 "java/lang/String" "COMPACT_STRINGS" "Z" ∈ pm_TB := pm_TB_in (j := 710) (by decide +kernel) (by first | rfl | decide +kernel)
theorem pix_f15 : Jvm.Cond.fieldLink "java/lang/String" 15 "java/lang/String" "coder" "B" ∈ pm_TB := pm_TB_in (j := 1730) (by decide +kernel) (by first | rfl | decide +kernel)
theorem pix_f9 : Jvm.Cond.fieldLink "java/lang/String" 9 "java/lang/String" "value" "[B" ∈ pm_TB := pm_TB_in (j := 1731) (by decide +kernel) (by first | rfl | decide +kernel)
/-- the text constant, as it stands -/
def pix_T (sa sv : Nat) (U : State) : Prop := vk_S 1 [6] [pix_bs] (fun _ => sa) (fun _ => sv) (fun _ => False) U U.heap ∧ va_Z "java/lang/String" "COMPACT_STRINGS" "Z" (.int 1) (fun _ => False) U U.heap
theorem pix_bl {P : Array Value → Prop} {sa sv : Nat} : FrameBlind (fun a U => P a ∧ pix_T sa sv U) := by
  intro a U g mk h
  exact ⟨h.1, vk_S.moved (u := U) (U := U.calling g mk a) (Vm.Alike.refl U.vm) h.2.1, va_Z.moved (u := U) (U := U.calling g mk a) (Vm.Alike.refl U.vm) h.2.2⟩
theorem pix_go {sa sv : Nat} {s U : State} (h : pix_T sa sv s) (hU : U.heap = s.heap) (hW : s.WarmedH U.vm) : pix_T sa sv U := by
  unfold pix_T
  rw [hU]
  exact ⟨h.1.moved hW.alike, h.2.moved hW.alike⟩
section PZ
variable {p : Program} {l : Launch} {e : Env} {R : Room} {s : State} {m : MethodId} {args : Array Value} {below : List Frame} {meth : Method} {c : Code} {H : Heap} {locs : List Loc} {Q : State → Prop} {pc : Nat} {ls : Array Slot} {cc : ByteArray}
/-- a call of a text's method that only reads -/
theorem pix_V {y : MethodName} {bytes : ByteArray} {maxL d idx b : Nat} {ret : Option FieldType} {own : String} {v : Value} {As rest : List Value} {Pc : Array Value → State → Prop} (hM : pix_M l y bytes maxL ret d Pc v) (hbl : FrameBlind Pc)
    (hx : p.tables.exec = Jvm.exec) (hb : c.code = cc) (hml : c.maxLocals = ls.size) (hts : ∀ w ∈ pm_TB, w.before args s = true) (hown : s.vm.findClass own = some m.cls) (hlink : Jvm.Cond.methodLink own idx y ∈ pm_TB) (hin : Jvm.Cond.instanceMethod y ∈ pm_TB) (hse : Jvm.Cond.selects "java/lang/String" y y ∈ pm_TB) (hini : Jvm.Cond.initialized y.cls ∈ pm_TB) (hc : Jvm.Cond.code y bytes maxL ret ∈ pm_TB)
    (hy : y.cls ≠ "java/lang/invoke/MethodHandle" ∧ y.cls ≠ "java/lang/invoke/VarHandle") (hlen : ∀ sig, parseMethodDescriptor y.desc = some sig → As.length = sig.parameters.length) (hR : d + 1 ≤ R.frames ∧ 8 + (maxL + 11) + 33 * d ≤ R.locals) (hp : ∀ U : State, U.heap = H → s.WarmedH U.vm → Pc (Value.ref b :: As).toArray U)
    (hrv : ∃ cellB : Cell, H[b]? = some cellB ∧ cellB.vm.isStatics = false ∧ s.vm.findClass "java/lang/String" = some cellB.cls)
    (hrest : (rest.map fun v => v.category).sum ≤ 8) (hd : decode cc pc = .ok (.invokevirtual idx, 3)) {st0 : List Value} (hst0 : st0 = As.reverse ++ .ref b :: rest)
    (kk : W p l e R s m args below meth c H locs 0 0 Q (F0 m (pc + 3) ls (v :: rest))) : W p l e R s m args below meth c H locs 0 0 Q (F0 m pc ls st0) := by
  subst hst0
  have hG : GoodIn pm_TB (Jvm.Cond.code y bytes maxL ret :: pm_TB) := fun w hw => (List.mem_cons.mp hw).elim (fun e => e ▸ pm_TB_good _ hc) (pm_TB_good w)
  have hK := back_of (R := R) (p := p) (e := e) (below := below) (s := s) (sargs := args) (len := 3) (W := 8) (bytes := bytes) (maxL := maxL) (ret := ret) hM hbl rfl rfl hR.1 hR.2 (pay_in hts hG) List.mem_cons_self (fun a' U hW => word_at hW (pm_TB_good _ hini).2 (hts _ hini))
  obtain ⟨cellB, hcB, hoB, hclB⟩ := hrv
  intro T hT X
  obtain ⟨v', vm₁, ⟨U', l2, c2, s2⟩, hW₁, X', ⟨g', mk, t, L, e1, e2, hq, h1, hL, h2, h3⟩, st⟩ := callV X hx (C := "java/lang/String") (bytes := bytes) (maxL := maxL) (ret := ret) hown (hts _ hlink) (hts _ hin) (hts _ hse) (hts _ hc) hy hK (by rw [hT]; exact hcB) hoB hclB (g := F0 m pc ls (As.reverse ++ .ref b :: rest)) rfl hml.symm (argsL := As) (rest := rest) hlen rfl (by show 2 * 0 + _ ≤ 8; omega) (by rw [hb]; exact hd)
    (fun vm₁ hW₁ => ⟨Nat.zero_le _, Nat.zero_le _, hp (T.setVm vm₁) hT hW₁⟩)
  dsimp only [Pt.U, Pt.locs, Pt.cells, Pt.slots] at X' e1 e2 h1 h2 h3 st
  subst h1; subst h2; subst h3
  obtain rfl : L = [] := List.eq_nil_iff_forall_not_mem.mpr (fun q hq => hL q hq)
  rw [List.append_nil] at X'
  obtain ⟨hv, hh⟩ := hq
  cases hv
  obtain ⟨t2, a1, b1⟩ := kk U' (by rw [e1, hh]; exact hT) X'
  exact ⟨t2, st t2 a1, b1⟩
end PZ
