/-! Math.floorMod, by its own bytes. -/
def pfm_r (X Y : Int32) : Int32 := X - X / Y * Y
def pfm_v (X Y : Int32) : Int32 := if 0 ≤ X ^^^ Y then pfm_r X Y else if pfm_r X Y = 0 then pfm_r X Y else pfm_r X Y + Y
theorem pfm_sign {x y : Int} (hx : pm_i32 x) (hy : pm_i32 y) : 0 ≤ (Int32.ofInt x ^^^ Int32.ofInt y) ↔ (0 ≤ x ↔ 0 ≤ y) := by
  have k : ∀ z : Int32, 0 ≤ z ↔ z.toBitVec.msb = false := fun z => by
    rw [Int32.le_iff_toInt_le, BitVec.msb_eq_toInt]
    show (0 : Int) ≤ z.toBitVec.toInt ↔ _
    rw [decide_eq_false_iff_not]
    omega
  have kx := k (Int32.ofInt x)
  have ky := k (Int32.ofInt y)
  rw [Int32.le_iff_toInt_le, pm_toI hx] at kx
  rw [Int32.le_iff_toInt_le, pm_toI hy] at ky
  rw [k]
  show ((Int32.ofInt x).toBitVec ^^^ (Int32.ofInt y).toBitVec).msb = false ↔ _
  rw [BitVec.msb_xor]
  have e0 : (0 : Int32).toInt = 0 := rfl
  rw [e0] at kx ky
  rw [kx, ky]
  cases (Int32.ofInt x).toBitVec.msb <;> cases (Int32.ofInt y).toBitVec.msb <;> simp
theorem pfm_val {x y : Int} (hx : pm_i32 x) (hy : pm_i32 y) (h0 : y ≠ 0) : pfm_v (Int32.ofInt x) (Int32.ofInt y) = Int32.ofInt (x.fmod y) := by
  have er : pfm_r (Int32.ofInt x) (Int32.ofInt y) = Int32.ofInt (x.tmod y) := pm_rem hx hy h0
  have ht := pm_tmod_ok (y := y) hx
  have ez : pfm_r (Int32.ofInt x) (Int32.ofInt y) = 0 ↔ x.tmod y = 0 := by
    rw [er]
    have t := pm_eqI (x := x.tmod y) (y := 0) ht ⟨by decide, by decide⟩
    exact t
  unfold pfm_v
  by_cases c : 0 ≤ Int32.ofInt x ^^^ Int32.ofInt y
  · rw [if_pos c, er]
    have s := (pfm_sign hx hy).mp c
    congr 1
    rw [Int.fmod_eq_tmod]
    by_cases d : y ∣ x
    · rw [if_pos d]; omega
    · rw [if_neg d]
      by_cases p : 0 ≤ x
      · rw [if_pos p, if_pos (s.mp p)]; omega
      · rw [if_neg p, if_neg (fun w => p (s.mpr w))]; omega
  · rw [if_neg c]
    have s : ¬ (0 ≤ x ↔ 0 ≤ y) := fun w => c ((pfm_sign hx hy).mpr w)
    by_cases z : pfm_r (Int32.ofInt x) (Int32.ofInt y) = 0
    · rw [if_pos z, er]
      have z' := ez.mp z
      have d : y ∣ x := Int.dvd_of_tmod_eq_zero z'
      congr 1
      rw [Int.fmod_eq_tmod, if_pos d]; omega
    · rw [if_neg z, er, pm_add ht hy, pm_ofw]
      have d : ¬ y ∣ x := fun w => z (ez.mpr (Int.tmod_eq_zero_of_dvd w))
      congr 1
      rw [Int.fmod_eq_tmod, if_neg d]
      by_cases p : 0 ≤ x
      · rw [if_pos p, if_neg (fun w => s ⟨fun _ => w, fun _ => p⟩)]
      · have q : 0 ≤ y := Decidable.byContradiction (fun w => s ⟨fun u => absurd u p, fun u => absurd u w⟩)
        rw [if_neg p, if_pos q]; omega
theorem pfm_d0 : decode cJ9_floorMod_7cf53 0 = .ok (.iload_n 0, 1) := by decide +kernel
theorem pfm_d1 : decode cJ9_floorMod_7cf53 1 = .ok (.iload_n 1, 1) := by decide +kernel
theorem pfm_d2 : decode cJ9_floorMod_7cf53 2 = .ok (.irem, 1) := by decide +kernel
theorem pfm_d3 : decode cJ9_floorMod_7cf53 3 = .ok (.istore_n 2, 1) := by decide +kernel
theorem pfm_d4 : decode cJ9_floorMod_7cf53 4 = .ok (.iload_n 0, 1) := by decide +kernel
theorem pfm_d5 : decode cJ9_floorMod_7cf53 5 = .ok (.iload_n 1, 1) := by decide +kernel
theorem pfm_d6 : decode cJ9_floorMod_7cf53 6 = .ok (.ixor, 1) := by decide +kernel
theorem pfm_d7 : decode cJ9_floorMod_7cf53 7 = .ok (.ifCond .ge 11, 3) := by decide +kernel
theorem pfm_d10 : decode cJ9_floorMod_7cf53 10 = .ok (.iload_n 2, 1) := by decide +kernel
theorem pfm_d11 : decode cJ9_floorMod_7cf53 11 = .ok (.ifCond .eq 7, 3) := by decide +kernel
theorem pfm_d14 : decode cJ9_floorMod_7cf53 14 = .ok (.iload_n 2, 1) := by decide +kernel
theorem pfm_d15 : decode cJ9_floorMod_7cf53 15 = .ok (.iload_n 1, 1) := by decide +kernel
theorem pfm_d16 : decode cJ9_floorMod_7cf53 16 = .ok (.iadd, 1) := by decide +kernel
theorem pfm_d17 : decode cJ9_floorMod_7cf53 17 = .ok (.ireturn, 1) := by decide +kernel
theorem pfm_d18 : decode cJ9_floorMod_7cf53 18 = .ok (.iload_n 2, 1) := by decide +kernel
theorem pfm_d19 : decode cJ9_floorMod_7cf53 19 = .ok (.ireturn, 1) := by decide +kernel
theorem pfm_has (X Y : Int32) : lv_has #[Slot.val (.int X), .val (.int Y), .unset] 3 [(0, .int X), (1, .int Y)] := by
  refine ⟨rfl, ⟨fun i v h hc => ?_, fun i h => ?_⟩, fun q hq => ?_⟩
  · match i, h with
    | 0, h => cases h; cases hc
    | 1, h => cases h; cases hc
    | 2, h => cases h
    | i + 3, h => cases h
  · match i, h with
    | 0, h => cases h
    | 1, h => cases h
    | 2, h => cases h
    | i + 3, h => cases h
  · simp only [List.mem_cons, List.not_mem_nil, or_false] at hq
    rcases hq with rfl | rfl <;> rfl
theorem pfm_met (l : Launch) {X Y : Int32} (h0 : ¬ Y = 0) : Met l yJ9_floorMod_7cf53 [Jvm.Cond.code yJ9_floorMod_7cf53 cJ9_floorMod_7cf53 3 (some .int)] { frames := 0, cells := 0, slots := 0, locals := 0 } (fun a _ => a = #[.int X, .int Y]) (fun _ st oc t => oc = .returned (some (.int (pfm_v X Y))) ∧ t.heap = st.heap) 0 0 (fun _ => False) := by
  refine MetFree.of_bodySF (code := cJ9_floorMod_7cf53) (maxLocals := 3) (ret := some .int) (by decide +kernel) (fun args s m h hn => by
    obtain ⟨meth, c, h1, h2, h3, h4, h5, h6, -, -⟩ := Cond.code_spec hn (atoms_spec (ws := [Jvm.Cond.code yJ9_floorMod_7cf53 cJ9_floorMod_7cf53 3 (some .int)]) h _ List.mem_cons_self)
    exact ⟨meth, c, h1, h2, h3, h4, h5, h6⟩) ?_
  intro p e s m args below meth c s₁ B hml hv _
  have hh0 : s₁.heap = s.heap := by rw [B.state]; rfl
  suffices body : W p l e (headSpec [Jvm.Cond.code yJ9_floorMod_7cf53 cJ9_floorMod_7cf53 3 (some .int)] { frames := 0, cells := 0, slots := 0, locals := 0 }).room s m args below meth c s.heap [] 0 0 (MQ below (fun _ st oc t => oc = .returned (some (.int (pfm_v X Y))) ∧ t.heap = st.heap) args s 0 0 (fun _ => False)) (entryFrame m args 3) by
    obtain ⟨t, a1, o, b1, b2, b3⟩ := body s₁ hh0 (Stand.of_body B)
    exact ⟨t, o, a1, b1, b2, ⟨b3.1, b3.2⟩⟩
  subst hv
  have he : entryFrame m #[Value.int X, Value.int Y] 3 = F0 m 0 #[.val (.int X), .val (.int Y), .unset] [] := (lg_entry_eq m [.int X, .int Y] 3).trans rfl
  rw [he]
  refine lv_iload_n B.exec B.bytes pfm_d0 rfl rfl ?_
  refine lv_iload_n B.exec B.bytes pfm_d1 rfl rfl ?_
  refine lv_irem B.exec B.bytes pfm_d2 h0 ?_
  refine lv_istore_n B.exec B.bytes pfm_d3 rfl (pfm_has X Y) (by decide) (lv' := [(2, .int (pfm_r X Y)), (0, .int X), (1, .int Y)]) rfl (fun ls hl => ?_)
  have l2 := lv_at hl 0 rfl
  have l0 := lv_at hl 1 rfl
  have l1 := lv_at hl 2 rfl
  refine lv_iload_n B.exec B.bytes pfm_d4 rfl l0 ?_
  refine lv_iload_n B.exec B.bytes pfm_d5 rfl l1 ?_
  refine lv_ixor B.exec B.bytes pfm_d6 ?_
  have ret : ∀ (pc : Nat) (v : Int32), decode cJ9_floorMod_7cf53 pc = .ok (.ireturn, 1) → v = pfm_v X Y → W p l e (headSpec [Jvm.Cond.code yJ9_floorMod_7cf53 cJ9_floorMod_7cf53 3 (some .int)] { frames := 0, cells := 0, slots := 0, locals := 0 }).room s m #[Value.int X, Value.int Y] below meth c s.heap [] 0 0 (MQ below (fun _ st oc t => oc = .returned (some (.int (pfm_v X Y))) ∧ t.heap = st.heap) #[Value.int X, Value.int Y] s 0 0 (fun _ => False)) (F0 m pc ls [.int v]) := by
    intro pc v hd hv
    subst hv
    exact W.iret B.exec B.bytes B.returns (fun t ht _ => ⟨rfl, ht⟩) (fun q hq => absurd hq List.not_mem_nil) hd B.notSynchronized
  refine lv_if_ge B.exec B.bytes (tgt := 18) pfm_d7 rfl (fun hc => ?_) (fun hc => ?_)
  · refine lv_iload_n B.exec B.bytes pfm_d18 rfl l2 ?_
    exact ret 19 _ pfm_d19 (by unfold pfm_v; rw [if_pos hc])
  · refine lv_iload_n B.exec B.bytes pfm_d10 rfl l2 ?_
    refine lv_if_eq B.exec B.bytes (tgt := 18) pfm_d11 rfl (fun hz => ?_) (fun hz => ?_)
    · refine lv_iload_n B.exec B.bytes pfm_d18 rfl l2 ?_
      exact ret 19 _ pfm_d19 (by unfold pfm_v; rw [if_neg hc, if_pos hz])
    · refine lv_iload_n B.exec B.bytes pfm_d14 rfl l2 ?_
      refine lv_iload_n B.exec B.bytes pfm_d15 rfl l1 ?_
      refine lv_iadd B.exec B.bytes pfm_d16 ?_
      exact ret 17 _ pfm_d17 (by unfold pfm_v; rw [if_neg hc, if_neg hz])
section FM
variable {p : Program} {l : Launch} {e : Env} {R : Room} {s : State} {m : MethodId} {args : Array Value} {below : List Frame} {meth : Method} {c : Code} {H : Heap} {locs : List Loc} {Q : State → Prop} {pc : Nat} {ls : Array Slot} {cc : ByteArray}
theorem pm_W_fmod2 {own idx : Nat} (hx : p.tables.exec = Jvm.exec) (hb : c.code = cc) (hml : c.maxLocals = ls.size) (hts : ∀ w ∈ pm_TB, w.before args s = true) (hown : s.vm.findClass (pm_rn own) = some m.cls) (hR : 1 ≤ R.frames ∧ 33 ≤ R.locals) (hlink : Jvm.Cond.methodLink (pm_rn own) idx yJ9_floorMod_7cf53 ∈ pm_TB) {x y : Int} (hX : pm_i32 x) (hY : pm_i32 y) (h0 : y ≠ 0) {rest : List Value} (hrest : (rest.map fun v => v.category).sum ≤ 14) (hd : decode cc pc = .ok (.invokestatic idx, 3))
    (kk : W p l e R s m args below meth c H locs 0 0 Q (F0 m (pc + 3) ls (.int (Int32.ofInt (x.fmod y)) :: rest))) : W p l e R s m args below meth c H locs 0 0 Q (F0 m pc ls (.int (Int32.ofInt y) :: .int (Int32.ofInt x) :: rest)) := by
  have h0' : ¬ Int32.ofInt y = 0 := fun q => h0 ((pm_eqI hY ⟨by decide, by decide⟩).mp q)
  have hG : GoodIn pm_TB [Jvm.Cond.code yJ9_floorMod_7cf53 cJ9_floorMod_7cf53 3 (some .int)] := fun w hw => by
    rw [List.mem_singleton.mp hw]
    exact pm_TB_good _ pm_lw_fmod_c
  have hK := back_of (R := R) (p := p) (e := e) (below := below) (s := s) (sargs := args) (len := 3) (W := 14) (bytes := cJ9_floorMod_7cf53) (maxL := 3) (ret := some .int) (pfm_met l (X := Int32.ofInt x) (Y := Int32.ofInt y) h0') (fun _ _ _ _ h => h) rfl rfl (show 0 + 1 ≤ R.frames by omega) (show 14 + (3 + 11) + 0 ≤ R.locals by omega) (pay_in hts hG) List.mem_cons_self (fun a' U hW => word_at hW (pm_TB_good _ pm_lw_iniM).2 (hts _ pm_lw_iniM))
  intro T hT X
  obtain ⟨v, vm₁, ⟨U', l2, c2, s2⟩, hW₁, X', ⟨g', mk, t, L, e1, e2, hq, h1, hL, h2, h3⟩, st⟩ := callS X hx (bytes := cJ9_floorMod_7cf53) (maxL := 3) (ret := some .int) hown (hts _ hlink) (hts _ pm_lw_fmod_s) (hts _ pm_lw_iniM) (hts _ pm_lw_fmod_c) ⟨by decide +kernel, by decide +kernel⟩ hK (g := F0 m pc ls (.int (Int32.ofInt y) :: .int (Int32.ofInt x) :: rest)) rfl hml.symm (argsL := [.int (Int32.ofInt x), .int (Int32.ofInt y)]) (rest := rest) (fun sig hs => by
      have h : parseMethodDescriptor "(II)I" = some { parameters := [.int, .int], returnType := some .int } := by decide +kernel
      rw [show yJ9_floorMod_7cf53.desc = "(II)I" from rfl, h] at hs
      rw [← Option.some.inj hs]; rfl) rfl (by show 2 * 0 + _ ≤ 14; omega) (by rw [hb]; exact hd)
    (fun vm₁ hW₁ => ⟨Nat.zero_le _, Nat.zero_le _, rfl⟩)
  dsimp only [Pt.U, Pt.locs, Pt.cells, Pt.slots] at X' e1 e2 h1 h2 h3 st
  subst h1; subst h2; subst h3
  obtain rfl : L = [] := List.eq_nil_iff_forall_not_mem.mpr (fun q hq => hL q hq)
  rw [List.append_nil] at X'
  obtain ⟨hv, hh⟩ := hq
  cases hv
  rw [pfm_val hX hY h0] at st
  obtain ⟨t2, a1, b1⟩ := kk U' (by rw [e1, hh]; exact hT) X'
  exact ⟨t2, st t2 a1, b1⟩
end FM
