/-! Arrays.fill over an array of ints, by its bytes. -/
theorem dJ7_fill_53178_0 : decode cJ7_fill_53178 0 = .ok (.iconst 0, 1) := by decide +kernel
theorem dJ7_fill_53178_1 : decode cJ7_fill_53178 1 = .ok (.istore_n 2, 1) := by decide +kernel
theorem dJ7_fill_53178_2 : decode cJ7_fill_53178 2 = .ok (.aload_n 0, 1) := by decide +kernel
theorem dJ7_fill_53178_3 : decode cJ7_fill_53178 3 = .ok (.arraylength, 1) := by decide +kernel
theorem dJ7_fill_53178_4 : decode cJ7_fill_53178 4 = .ok (.istore_n 3, 1) := by decide +kernel
theorem dJ7_fill_53178_5 : decode cJ7_fill_53178 5 = .ok (.iload_n 2, 1) := by decide +kernel
theorem dJ7_fill_53178_6 : decode cJ7_fill_53178 6 = .ok (.iload_n 3, 1) := by decide +kernel
theorem dJ7_fill_53178_7 : decode cJ7_fill_53178 7 = .ok (.if_icmp .ge 13, 3) := by decide +kernel
theorem dJ7_fill_53178_10 : decode cJ7_fill_53178 10 = .ok (.aload_n 0, 1) := by decide +kernel
theorem dJ7_fill_53178_11 : decode cJ7_fill_53178 11 = .ok (.iload_n 2, 1) := by decide +kernel
theorem dJ7_fill_53178_12 : decode cJ7_fill_53178 12 = .ok (.iload_n 1, 1) := by decide +kernel
theorem dJ7_fill_53178_13 : decode cJ7_fill_53178 13 = .ok (.iastore, 1) := by decide +kernel
theorem dJ7_fill_53178_14 : decode cJ7_fill_53178 14 = .ok (.iinc 2 1, 3) := by decide +kernel
theorem dJ7_fill_53178_17 : decode cJ7_fill_53178 17 = .ok (.goto (-12), 3) := by decide +kernel
theorem dJ7_fill_53178_20 : decode cJ7_fill_53178 20 = .ok (.return_, 1) := by decide +kernel
def fi_Pc (D : va_G) (G : pm_G) (q N : Nat) (f : Nat → Int32) (v : Int32) : Array Value → State → Prop := fun a U => a = #[Value.ref q, .int v] ∧ U.heap[q]? = some (vp_cell G.1 (N, .inl f)) ∧ va_K D vwCl (pm_tys G) U
def fi_Qc (G : pm_G) (q N : Nat) (v : Int32) : Array Value → State → Outcome → State → Prop := fun _ st o t => o = .returned none ∧ t.heap.size = st.heap.size ∧ t.heap[q]? = some (vp_cell G.1 (N, .inl (fun _ => v))) ∧ ∀ x : Nat, x ≠ q → t.heap[x]? = st.heap[x]?
theorem fi_blind {D : va_G} {G : pm_G} {q N : Nat} {f : Nat → Int32} {v : Int32} : FrameBlind (fi_Pc D G q N f v) := by
  intro a U g mk h
  obtain ⟨h1, h2, h3⟩ := h
  exact ⟨h1, h2, va_K.moved (u := U) (U := U.calling g mk a) (Vm.Alike.refl U.vm) h3⟩
set_option maxHeartbeats 4000000 in
set_option maxRecDepth 100000 in
theorem ct_fill (l : Launch) (D : va_G) (G : pm_G) (q N : Nat) (hN : N < 2 ^ 31) (f : Nat → Int32) (v : Int32) : Met l yJ7_fill_53178 (Jvm.Cond.code yJ7_fill_53178 cJ7_fill_53178 4 none :: pm_TB) ({ frames := 0, cells := 0, slots := 0, locals := 0 }) (fi_Pc D G q N f v) (fi_Qc G q N v) 0 0 (fun x => x = q) := by
  refine Met.ofW (cc := cJ7_fill_53178) (maxL := 4) (ret := none) (by decide) rfl ?_
  intro p e s m args below meth c s₁ B hml hv
  obtain ⟨rfl, hq, hK⟩ := hv
  have hx := B.exec
  have hb := B.bytes
  have hr := B.returns
  have hlocks := B.notSynchronized
  have hl := lv_entry ([.ref q, .int v]) (n := 4) (Nat.le_of_ble_eq_true rfl)
  rw [lg_entry_eq]
  generalize (lg_sl ([.ref q, .int v]) ++ List.replicate (4 - (lg_sl ([.ref q, .int v])).length) Slot.unset).toArray = ls at hl ⊢
  have hl : lv_has ls 4 [(0, .ref q), (1, .int v)] := hl
  have loop : ∀ (k i : Nat), i + k = N → ∀ (H : Heap) (locs : List Loc), H.size = s.heap.size → H[q]? = some (vp_cell G.1 (N, .inl (fun j => if j < i then v else f j))) → (∀ x : Nat, x ≠ q → H[x]? = s.heap[x]?) → (∀ z ∈ locs, z.base = q) → ∀ ls : Array Slot, lv_has ls 4 [(2, .int (nI i)), (3, .int (nI N)), (0, .ref q), (1, .int v)] → W p l e ({ frames := 0, cells := 0, slots := 0, locals := 0 }) s m #[Value.ref q, .int v] below meth c H locs 0 0 (MQ below (fi_Qc G q N v) #[Value.ref q, .int v] s 0 0 (fun x => x = q)) (F0 m 5 ls []) := by
    intro k
    induction k with
    | zero =>
      intro i hi H locs hz hc ho hlo ls hl
      have hi : i = N := hi
      subst hi
      refine lv_iload_n hx hb dJ7_fill_53178_5 rfl (lv_at hl 0 rfl) ?_
      refine lv_iload_n hx hb dJ7_fill_53178_6 rfl (lv_at hl 1 rfl) ?_
      refine lv_icmp_ge (tgt := 20) hx hb dJ7_fill_53178_7 (by decide) (fun _ => ?_) (fun c9 => absurd (nI_le (Nat.le_refl i) hN) c9)
      refine W.vret hx hb hr (fun t ht hW => ⟨rfl, by rw [ht]; exact hz, ?_, fun x hx => by rw [ht]; exact ho x hx⟩) hlo dJ7_fill_53178_20
      rw [ht, hc, vp_cell_i, vp_cell_i]
      exact congrArg some (cs_arrV (fun j hj => by rw [if_pos hj]))
    | succ k ih =>
      intro i hi H locs hz hc ho hlo ls hl
      have hlt : i < N := by omega
      refine lv_iload_n hx hb dJ7_fill_53178_5 rfl (lv_at hl 0 rfl) ?_
      refine lv_iload_n hx hb dJ7_fill_53178_6 rfl (lv_at hl 1 rfl) ?_
      refine lv_icmp_ge (tgt := 20) hx hb dJ7_fill_53178_7 (by decide) (fun c9 => absurd c9 (nI_ge hlt hN)) (fun _ => ?_)
      refine lv_aload_n hx hb dJ7_fill_53178_10 rfl (lv_at hl 2 rfl) ?_
      refine lv_iload_n hx hb dJ7_fill_53178_11 rfl (lv_at hl 0 rfl) ?_
      refine lv_iload_n hx hb dJ7_fill_53178_12 rfl (lv_at hl 3 rfl) ?_
      refine W.iast hx hb hc ((hK.2 0 (G.1, .int) rfl).1 N (fun j => .int (if j < i then v else f j))) (fun z => by cases z) (by show ¬ (nI i < 0 ∨ (arrV _ _ _).slots.size ≤ _); rw [arrV_size]; exact vp_in_nI hlt hN) rfl rfl dJ7_fill_53178_13 (fun H1 e1 z1 o1 => ?_)
      refine W.eq (g2 := F0 m 14 ls []) rfl ?_
      refine lv_iinc (v := nI (i + 1)) (lv' := [(2, .int (nI (i + 1))), (3, .int (nI N)), (0, .ref q), (1, .int v)]) hx hb dJ7_fill_53178_14 hl (k := 0) rfl (nI_1 i) (by decide) rfl (fun ls hl => ?_)
      refine lv_goto (tgt := 5) hx hb dJ7_fill_53178_17 (by decide) ?_
      refine ih (i + 1) (by omega) H1 _ (z1.trans hz) ?_ (fun x hx => (o1 x hx).trans (ho x hx)) (fun z hz => ?_) ls hl
      · rw [e1, vp_cell_i, vp_cell_i, arrV_store, nI_clamp (Nat.lt_trans hlt hN)]
        refine congrArg some (cs_arrV (fun j hj => ?_))
        unfold updV
        by_cases h1 : j = i
        · rw [if_pos h1, if_pos (by omega)]
        · rw [if_neg h1]
          show Value.int (if j < i then v else f j) = Value.int (if j < i + 1 then v else f j)
          by_cases h2 : j < i
          · rw [if_pos h2, if_pos (by omega)]
          · rw [if_neg h2, if_neg (by omega)]
      · rcases List.mem_append.mp hz with h | h
        · exact hlo z h
        · rw [List.mem_singleton.mp h]
  have hP : va_P D vwCl [(q, .inl (G.1, N, .inl f))] s.heap := by
    intro k x hx
    match k, hx with
    | 0, hx => cases hx; exact hq
    | k + 1, hx => simp at hx
  refine lv_iconst (v := nI 0) hx hb dJ7_fill_53178_0 (by decide) ?_
  refine lv_istore_n (lv' := [(2, .int (nI 0)), (0, .ref q), (1, .int v)]) hx hb dJ7_fill_53178_1 rfl hl (by decide) rfl (fun ls hl => ?_)
  refine lv_aload_n hx hb dJ7_fill_53178_2 rfl (lv_at hl 1 rfl) ?_
  refine va_alen (v := nI N) hx hb hK hP 0 0 rfl rfl rfl dJ7_fill_53178_3 ?_
  refine lv_istore_n (lv' := [(3, .int (nI N)), (2, .int (nI 0)), (0, .ref q), (1, .int v)]) hx hb dJ7_fill_53178_4 rfl hl (by decide) rfl (fun ls hl => ?_)
  refine loop N 0 (by omega) s.heap [] rfl ?_ (fun _ _ => rfl) (fun _ h => absurd h List.not_mem_nil) ls (lv_sub hl [1, 0, 2, 3] rfl)
  rw [hq, vp_cell_i, vp_cell_i]
  exact congrArg some (cs_arrV (fun j hj => by rw [if_neg (by omega)]))
section CSF
variable {p : Program} {l : Launch} {e : Env} {R : Room} {s : State} {m : MethodId} {args : Array Value} {below : List Frame} {meth : Method} {c : Code} {H : Heap} {locs : List Loc} {cells slots : Nat} {Q : State → Prop} {cc : ByteArray} {pc : Nat} {ls : Array Slot} {rest : List Value} {D : va_G} {G : pm_G} {H0 : Heap} {a0 n : Nat} {E : Nat → va_E}
theorem cs_fill {own : String} {index nL : Nat} (S : CallFix p m c cc nL s args pm_TB own) (hK : va_K D vwCl (pm_tys G) s) (hP : cs_P D a0 n E H) (hS : va_S (cs_A a0) H0 H locs) (i : Nat) (hi : i < n) {N : Nat} {f : Nat → Int32} {v : Int32} (he : E i = .inl (G.1, N, .inl f)) (hN : N < 2 ^ 31) (hl : Jvm.Cond.methodLink own index yJ7_fill_53178 ∈ pm_TB) (hsize : ls.size = nL) (hrest : (rest.map fun v => v.category).sum ≤ 8) (hdg : decode cc pc = .ok (.invokestatic index, 3)) (hR : 1 ≤ R.frames ∧ 23 ≤ R.locals) (hf : cells ≤ R.cells ∧ slots ≤ R.slots)
    (kk : ∀ (H1 : Heap) (locs1 : List Loc), cs_P D a0 n (cs_x E i (.inl (G.1, N, .inl (fun _ => v)))) H1 → va_S (cs_A a0) H0 H1 locs1 → W p l e R s m args below meth c H1 locs1 cells slots Q (F0 m (pc + 3) ls rest)) : W p l e R s m args below meth c H locs cells slots Q (F0 m pc ls (.int v :: .ref (a0 + i) :: rest)) := by
  have hts := S.2.2.2.2
  have hm := pm_mw_spec (k := 2) (by decide)
  have hcode : Jvm.Cond.code yJ7_fill_53178 cJ7_fill_53178 4 none ∈ pm_TB := hm.1
  have hini : Jvm.Cond.initialized yJ7_fill_53178.cls ∈ pm_TB := hm.2.1
  have hst : Jvm.Cond.static yJ7_fill_53178 ∈ pm_TB := hm.2.2.1
  have hG : GoodIn pm_TB (Jvm.Cond.code yJ7_fill_53178 cJ7_fill_53178 4 none :: pm_TB) := fun w hw => (List.mem_cons.mp hw).elim (fun e => e ▸ pm_TB_good _ hcode) (pm_TB_good w)
  have h0 := hP.2 i hi
  rw [he] at h0
  have hpre : PreS s H (fi_Pc D G (a0 + i) N f v) [Value.ref (a0 + i), .int v] := ⟨fi_blind, fun U hU hW => ⟨rfl, by rw [hU]; exact h0, va_K.moved hW.alike hK⟩⟩
  have hrun := va_runS (below := below) (e := e) (meth := meth) (locs := locs) (cells := cells) (slots := slots) (R := R) (rest := rest) (g := F0 m pc ls (.int v :: .ref (a0 + i) :: rest)) S (ct_fill l D G (a0 + i) N hN f v) ⟨callB_of 2 hts hG rfl rfl rfl (hts _ hini) (hts _ hl) (by decide +kernel) ⟨hR.1, hR.2⟩, hts _ hst⟩ hpre rfl rfl hsize rfl (lv_room hrest) hdg hf
  intro T hT X
  obtain ⟨w, st₀, t, T', L, g0, X', hL, e1, e2, ⟨hv, hz, hq, ho⟩, st⟩ := hrun T hT X
  cases hv
  rw [g0] at hz ho
  obtain ⟨t2, a1, b1⟩ := kk T'.heap (locs ++ L) (by rw [e1]; exact cs_set hP hq hz ho) ⟨by rw [e1, hz]; exact hS.1, fun q h1 h2 => by
      rw [e1, ho q (fun z => h2 (by rw [z]; exact Nat.le_add_right _ _))]
      exact hS.2.1 q h1 h2, fun q hq => by
      rcases List.mem_append.mp hq with h | h
      · exact hS.2.2 q h
      · have e9 : q.base = a0 + i := hL q h
        show a0 ≤ q.base
        rw [e9]
        exact Nat.le_add_right _ _⟩ T' rfl X'
  exact ⟨t2, st t2 a1, b1⟩
end CSF
