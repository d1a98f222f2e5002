/-! The text constant's indexOf, by the bytes of the library: calls that only read; the leaves. -/
abbrev pix_rm (d : Nat) : Room := { frames := d, cells := 0, slots := 0, locals := 33 * d }
abbrev pix_Q (v : Value) : Array Value → State → Outcome → State → Prop := fun _ st oc t => oc = .returned (some v) ∧ t.heap = st.heap
abbrev pix_M (l : Launch) (y : MethodName) (bytes : ByteArray) (maxL : Nat) (ret : Option FieldType) (d : Nat) (Pc : Array Value → State → Prop) (v : Value) : Prop := Met l y (Jvm.Cond.code y bytes maxL ret :: pm_TB) (pix_rm d) Pc (pix_Q v) 0 0 (fun _ => False)
section PX
variable {p : Program} {l : Launch} {e : Env} {R : Room} {s : State} {m : MethodId} {args : Array Value} {below : List Frame} {meth : Method} {c : Code} {H : Heap} {locs : List Loc} {Q : State → Prop} {pc : Nat} {ls : Array Slot} {cc : ByteArray}
/-- a static call that only reads -/
theorem pix_S {y : MethodName} {bytes : ByteArray} {maxL d idx : Nat} {ret : Option FieldType} {own : String} {v : Value} {As rest : List Value} {Pc : Array Value → State → Prop} (hM : pix_M l y bytes maxL ret d Pc v) (hbl : FrameBlind Pc)
    (hx : p.tables.exec = Jvm.exec) (hb : c.code = cc) (hml : c.maxLocals = ls.size) (hts : ∀ w ∈ pm_TB, w.before args s = true) (hown : s.vm.findClass own = some m.cls) (hlink : Jvm.Cond.methodLink own idx y ∈ pm_TB) (hst : Jvm.Cond.static y ∈ pm_TB) (hini : Jvm.Cond.initialized y.cls ∈ pm_TB) (hc : Jvm.Cond.code y bytes maxL ret ∈ pm_TB)
    (hy : y.cls ≠ "java/lang/invoke/MethodHandle" ∧ y.cls ≠ "java/lang/invoke/VarHandle") (hlen : ∀ sig, parseMethodDescriptor y.desc = some sig → As.length = sig.parameters.length) (hR : d + 1 ≤ R.frames ∧ 8 + (maxL + 11) + 33 * d ≤ R.locals) (hp : ∀ U : State, U.heap = H → s.WarmedH U.vm → Pc As.toArray U)
    (hrest : (rest.map fun v => v.category).sum ≤ 8) (hd : decode cc pc = .ok (.invokestatic idx, 3)) {st0 : List Value} (hst0 : st0 = As.reverse ++ rest)
    (kk : W p l e R s m args below meth c H locs 0 0 Q (F0 m (pc + 3) ls (v :: rest))) : W p l e R s m args below meth c H locs 0 0 Q (F0 m pc ls st0) := by
  subst hst0
  have hG : GoodIn pm_TB (Jvm.Cond.code y bytes maxL ret :: pm_TB) := fun w hw => (List.mem_cons.mp hw).elim (fun e => e ▸ pm_TB_good _ hc) (pm_TB_good w)
  have hK := back_of (R := R) (p := p) (e := e) (below := below) (s := s) (sargs := args) (len := 3) (W := 8) (bytes := bytes) (maxL := maxL) (ret := ret) hM hbl rfl rfl hR.1 hR.2 (pay_in hts hG) List.mem_cons_self (fun a' U hW => word_at hW (pm_TB_good _ hini).2 (hts _ hini))
  intro T hT X
  obtain ⟨v', vm₁, ⟨U', l2, c2, s2⟩, hW₁, X', ⟨g', mk, t, L, e1, e2, hq, h1, hL, h2, h3⟩, st⟩ := callS X hx (bytes := bytes) (maxL := maxL) (ret := ret) hown (hts _ hlink) (hts _ hst) (hts _ hini) (hts _ hc) hy hK (g := F0 m pc ls (As.reverse ++ rest)) rfl hml.symm (argsL := As) (rest := rest) hlen rfl (by show 2 * 0 + _ ≤ 8; omega) (by rw [hb]; exact hd)
    (fun vm₁ hW₁ => ⟨Nat.zero_le _, Nat.zero_le _, hp (T.setVm vm₁) hT hW₁⟩)
  dsimp only [Pt.U, Pt.locs, Pt.cells, Pt.slots] at X' e1 e2 h1 h2 h3 st
  subst h1; subst h2; subst h3
  obtain rfl : L = [] := List.eq_nil_iff_forall_not_mem.mpr (fun q hq => hL q hq)
  rw [List.append_nil] at X'
  obtain ⟨hv, hh⟩ := hq
  cases hv
  obtain ⟨t2, a1, b1⟩ := kk U' (by rw [e1, hh]; exact hT) X'
  exact ⟨t2, st t2 a1, b1⟩
end PX
/-- a method that only reads: by its body -/
theorem pix_of {l : Launch} {y : MethodName} {bytes : ByteArray} {maxL d : Nat} {ret : Option FieldType} {v : Value} {Pc : Array Value → State → Prop} (hy : plainFor y = true)
    (body : ∀ (p : Program) (e : Env) (s : State) (m : MethodId) (args : Array Value) (below : List Frame) (meth : Method) (c : Code), p.tables.exec = Jvm.exec → c.code = bytes → meth.sig.returnType = ret → meth.locks = false → c.maxLocals = maxL → s.vm.findClass y.cls = some m.cls → (∀ w ∈ pm_TB, w.before args s = true) → Pc args s →
      W p l e (headSpec (Jvm.Cond.code y bytes maxL ret :: pm_TB) (pix_rm d)).room s m args below meth c s.heap [] 0 0 (MQ below (pix_Q v) args s 0 0 (fun _ => False)) (entryFrame m args maxL)) : pix_M l y bytes maxL ret d Pc v := by
  refine MetFree.of_bodySF (code := bytes) (maxLocals := maxL) (ret := ret) hy (fun args s m h hn => by
    obtain ⟨meth, c, h1, h2, h3, h4, h5, h6, -, -⟩ := Cond.code_spec hn (atoms_spec (ws := Jvm.Cond.code y bytes maxL ret :: pm_TB) h _ List.mem_cons_self)
    exact ⟨meth, c, h1, h2, h3, h4, h5, h6⟩) ?_
  intro p e s m args below meth c s₁ B hml hv _
  have hh0 : s₁.heap = s.heap := by rw [B.state]; rfl
  have hts := atoms_spec (ws := Jvm.Cond.code y bytes maxL ret :: pm_TB) B.pre
  obtain ⟨t, a1, o, b1, b2, b3⟩ := body p e s m args below meth c B.exec B.bytes B.returns B.notSynchronized hml (findClass_of_methodNamed B.named) (fun w hw => hts w (List.mem_cons_of_mem _ hw)) hv s₁ hh0 (Stand.of_body B)
  exact ⟨t, o, a1, b1, b2, ⟨b3.1, b3.2⟩⟩
theorem pix_c0 : decode cJ1_canEncode_9a6ad 0 = .ok (.iload_n 0, 1) := by decide +kernel
theorem pix_c1 : decode cJ1_canEncode_9a6ad 1 = .ok (.ifCond .lt 14, 3) := by decide +kernel
theorem pix_c4 : decode cJ1_canEncode_9a6ad 4 = .ok (.iload_n 0, 1) := by decide +kernel
theorem pix_c5 : decode cJ1_canEncode_9a6ad 5 = .ok (.sipush 255, 3) := by decide +kernel
theorem pix_c8 : decode cJ1_canEncode_9a6ad 8 = .ok (.if_icmp .gt 7, 3) := by decide +kernel
theorem pix_c11 : decode cJ1_canEncode_9a6ad 11 = .ok (.iconst 1, 1) := by decide +kernel
theorem pix_c12 : decode cJ1_canEncode_9a6ad 12 = .ok (.goto 4, 3) := by decide +kernel
theorem pix_c15 : decode cJ1_canEncode_9a6ad 15 = .ok (.iconst 0, 1) := by decide +kernel
theorem pix_c16 : decode cJ1_canEncode_9a6ad 16 = .ok (.ireturn, 1) := by decide +kernel
def pix_ce (X : Int32) : Int32 := if X < 0 then 0 else if 255 < X then 0 else 1
theorem pix_can (l : Launch) (X : Int32) : pix_M l yJ1_canEncode_9a6ad cJ1_canEncode_9a6ad 1 (some .boolean) 0 (fun a _ => a = #[.int X]) (.int (pix_ce X)) := by
  refine pix_of (by decide +kernel) ?_
  intro p e s m args below meth c hx hb hr hk hml hown hts hv
  subst hv
  have he : entryFrame m #[Value.int X] 1 = F0 m 0 #[.val (.int X)] [] := (lg_entry_eq m [.int X] 1).trans rfl
  rw [he]
  have ret : ∀ (v : Int32), v = pix_ce X → (v = 0 ∨ v = 1) → W p l e (headSpec (Jvm.Cond.code yJ1_canEncode_9a6ad cJ1_canEncode_9a6ad 1 (some .boolean) :: pm_TB) (pix_rm 0)).room s m #[Value.int X] below meth c s.heap [] 0 0 (MQ below (pix_Q (.int (pix_ce X))) #[Value.int X] s 0 0 (fun _ => False)) (F0 m 16 #[.val (.int X)] [.int v]) := by
    intro v hv h01
    subst hv
    exact W.zret hx hb hr (by rcases h01 with h | h <;> rw [h] <;> decide +kernel) (fun t ht _ => ⟨rfl, ht⟩) (fun q hq => absurd hq List.not_mem_nil) pix_c16 hk
  refine lv_iload_n hx hb pix_c0 rfl rfl ?_
  refine lv_if_lt hx hb (tgt := 15) pix_c1 rfl (fun hc => ?_) (fun hc => ?_)
  · refine lv_iconst hx hb pix_c15 (v := 0) rfl ?_
    exact ret 0 (by unfold pix_ce; rw [if_pos hc]) (Or.inl rfl)
  · refine lv_iload_n hx hb pix_c4 rfl rfl ?_
    refine lv_sipush hx hb pix_c5 (v := 255) (by decide +kernel) ?_
    refine lv_icmp_gt hx hb (tgt := 15) pix_c8 rfl (fun hg => ?_) (fun hg => ?_)
    · refine lv_iconst hx hb pix_c15 (v := 0) rfl ?_
      exact ret 0 (by unfold pix_ce; rw [if_neg hc, if_pos hg]) (Or.inl rfl)
    · refine lv_iconst hx hb pix_c11 (v := 1) rfl ?_
      refine lv_goto hx hb (tgt := 16) pix_c12 rfl ?_
      exact ret 1 (by unfold pix_ce; rw [if_neg hc, if_neg hg]) (Or.inr rfl)
