/-! THE CLAIM OUT OF ONE WALK OF THE LAW'S BODY. Your part is whole_start (and what it stands on); all else here is the same for every law, but numbers. -/
def R_law : String := "HotHallLaw"
def lw_P (b : Addr) (xs : List Int32) (args : Array Value) (s : State) : Prop := args = #[.ref b] ∧ s.IntsAt b xs ∧ xs.length ≤ 3072 ∧ (Jvm.Cond.and given_1 narrow_1).before args s = true
def lw_Q (_ : Array Value) (s : State) (o : Outcome) (t : State) : Prop := o = .returned (some (.int 1)) ∧ Framed s o t [] 600000 7302250
def lw_Z (below : List Frame) (a : Array Value) (s : State) : State → Prop := fun t => ∃ o, t.status = .running ∧ Ended t below o ∧ lw_Q a s o t
/-- the law's own end, with 1 on the stack, nothing written that was there before, its room as the claim has it -/
theorem lw_ret {p : Program} {l : Launch} {e : Env} {s : State} {m : MethodId} {below : List Frame} {meth : Method} {c : Code} {b : Nat} (hx : p.tables.exec = Jvm.exec) (hb : c.code = code) (hr : meth.sig.returnType = ret) (hlocks : meth.locks = false) {pc : Nat} {H : Heap} {ls : Array Slot} (hdg : decode code pc = .ok (.ireturn, 1)) : W p l e room_1 s m #[Value.ref b] below meth c H [] 600000 7302250 (lw_Z below #[Value.ref b] s) (F0 m pc ls [.int 1]) := by
  intro T hT X
  obtain ⟨fs, hret, hrun, hended, hW, hframe⟩ := X.leave (v := some (.int 1)) (hlocks := hlocks) (fun h => by rw [hr] at h; cases h)
  have hmeth' : T.vm.method? m = some meth := X.method'
  refine ⟨T.setFrames fs, ?_, .returned (some (.int 1)), hrun, hended, rfl, ⟨_, rfl⟩, hW, hframe⟩
  jvm_step X.here [X.here.top, hx, hb, hdg, hmeth', hr, ret, narrow_b1]
  (try refine ⟨rfl, ?_⟩); (try refine ⟨rfl, ?_⟩)
  first | (intro acts; rw [hret _ acts rfl rfl rfl]) | rw [hret _ _ rfl rfl rfl]
  exact Steps.refl _
/-- what holds at the law's entry: the machine, the code, the tables' words (any of lw_tbl by 'hts w (by decide +kernel)'), the script of L ints xs at the cell b, what the Statement gives of the start (any of its parts by flat_of_before) -/
def lw_At (p : Program) (s : State) (m : MethodId) (meth : Method) (c : Code) (b L : Nat) (xs : Nat → Int32) : Prop :=
  p.tables.exec = Jvm.exec ∧ c.code = code ∧ meth.sig.returnType = ret ∧ c.maxLocals = 4 ∧ s.vm.findClass R_law = some m.cls ∧ (∀ w ∈ lw_tbl, w.before #[Value.ref b] s = true) ∧ va_X b L xs s s.heap ∧ b < s.heap.size ∧ meth.locks = false ∧ (Jvm.Cond.and given_1 narrow_1).before #[Value.ref b] s = true
/-! The law's world: the cells of one class and one model, from the heap's end at the law's entry on. -/
def lw_ad (s : State) : Nat → Nat := fun i => s.heap.size + i
theorem lw_inj (s : State) : pm_inj (lw_ad s) := fun i j _ _ e => by unfold lw_ad at e; omega
def lw_C (p : Program) (s : State) (m : MethodId) (c : Code) (b L : Nat) (xs : Nat → Int32) (D : va_G) (G : pm_G) (sa sv : Nat) : Prop :=
  p.tables.exec = Jvm.exec ∧ c.code = code ∧ c.maxLocals = 4 ∧ s.vm.findClass R_law = some m.cls ∧ (∀ w ∈ pm_TB, w.before #[Value.ref b] s = true) ∧ va_X b L xs s s.heap ∧ b < s.heap.size ∧ va_K D vwCl (pm_tys G) s ∧ pm_NW s ∧ pm_St sa sv (cs_A s.heap.size) s s.heap ∧ L ≤ 3072
def lw_I (D : va_G) (G : pm_G) (s : State) (j : pH) (H : Heap) (locs : List Loc) : Prop := pm_hok j ∧ AL j j ∧ FIT j ∧ va_P D vwCl (pm_ws (lw_ad s) G j) H ∧ va_S (cs_A s.heap.size) s.heap H locs
def lw_x (xs : Nat → Int32) (i k : Nat) : Int32 := xs (nI (i + k)).toNatClampNeg
def lw_L (s : State) (b i : Nat) : List (Nat × Value) := [(3, .int (nI i)), (0, .ref b), (1, .ref (lw_ad s 0)), (2, .ref (lw_ad s 248))]
theorem lw_ei {ad : Nat → Nat} {sa : Nat} (x : Int32) : pm_emb ad sa (0, x.toInt) = .int x := by
  show Value.int (Int32.ofInt x.toInt) = _
  rw [Int32.ofInt_toInt]
theorem lw_el {ad : Nat → Nat} {sa : Nat} (x : Int64) : pm_emb ad sa (1, x.toInt) = .long x := by
  show Value.long (Int64.ofInt x.toInt) = _
  rw [Int64.ofInt_toInt]
theorem lw_oki (x : Int32) : pm_okv (0, x.toInt) := pm_rI x
theorem lw_okl (x : Int64) : pm_okv (1, x.toInt) := pm_rL x
theorem lw_ok0 : pm_okv (13, 0) := by
  unfold pm_okv
  rw [if_neg (by decide), if_neg (by decide), if_neg (by decide)]
  decide
theorem lw_ok248 : pm_okv (14, 248) := by
  unfold pm_okv
  rw [if_neg (by decide), if_neg (by decide), if_neg (by decide)]
  decide
theorem lw_StU {D : va_G} {G : pm_G} {s U : State} {H : Heap} {locs : List Loc} {sa sv : Nat} (h : pm_St sa sv (cs_A s.heap.size) s s.heap) (hS : va_S (cs_A s.heap.size) s.heap H locs) (hU : U.heap = H) (hW : s.WarmedH U.vm) : pm_St sa sv (pm_A (lw_ad s) U.heap.size) U U.heap := by
  obtain ⟨h1, h2, h3⟩ := h
  have hA : ∀ q, pm_A (lw_ad s) U.heap.size q → cs_A s.heap.size q := fun q hq => by
    rcases hq with ⟨i, -, e⟩ | z
    · show s.heap.size ≤ q
      rw [e]
      exact Nat.le_add_right _ _
    · exact Nat.le_trans (by rw [hU]; exact hS.1) z
  have hk : ∀ a : Nat, a < s.heap.size → ¬ cs_A s.heap.size a → U.heap[a]? = s.heap[a]? := fun a q1 q2 => by rw [hU]; exact hS.2.1 a q1 q2
  exact ⟨h1.warm hW, ((h2.kept hk).narrow hA).moved hW.alike, ((h3.kept hk).narrow hA).moved hW.alike⟩
section LWC
variable {p : Program} {l : Launch} {e : Env} {s : State} {m : MethodId} {below : List Frame} {meth : Method} {c : Code} {H : Heap} {locs : List Loc} {cells slots : Nat} {Q : State → Prop} {D : va_G} {G : pm_G} {b L sa sv : Nat} {xs : Nat → Int32} {pc : Nat} {ls : Array Slot} {rest : List Value}
/-- aload_0, iload_3, iconst, iadd, iaload: a cell of the script -/
theorem lw_ld (C : lw_C p s m c b L xs D G sa sv) {i kn : Nat} {kz : Int} (hi : i + kn < L) (hl : lv_has ls 4 (lw_L s b i)) (hS : va_S (cs_A s.heap.size) s.heap H locs) (h0 : decode code pc = .ok (.aload_n 0, 1)) (h1 : decode code (pc + 1) = .ok (.iload_n 3, 1)) (h2 : decode code (pc + 2) = .ok (.iconst kz, 1)) (hz : Int32.ofInt kz = nI kn) (h3 : decode code (pc + 3) = .ok (.iadd, 1)) (h4 : decode code (pc + 4) = .ok (.iaload, 1))
    (kk : W p l e room_1 s m #[Value.ref b] below meth c H locs cells slots Q (F0 m (pc + 5) ls (.int (lw_x xs i kn) :: rest))) : W p l e room_1 s m #[Value.ref b] below meth c H locs cells slots Q (F0 m pc ls rest) := by
  obtain ⟨hx, hb, hml, hown, hts, hX, hbl, hK, hNW, hSt, hL⟩ := C
  refine lv_aload_n hx hb h0 rfl (lv_at hl 1 rfl) ?_
  refine lv_iload_n hx hb h1 rfl (lv_at hl 0 rfl) ?_
  refine lv_iconst (v := nI kn) hx hb h2 hz ?_
  refine lv_iadd hx hb h3 ?_
  rw [nI_add]
  exact va_sld hx hb hX hbl (fun z => absurd (show s.heap.size ≤ b from z) (by omega)) hS (vp_in_nI hi (by omega)) h4 kk
/-- a call of the class or of the model -/
theorem lw_call (C : lw_C p s m c b L xs D G sa sv) {k idx tag : Nat} {a : Int} {as : List pV} {h h' : pH} {r : pV} {rv : Value} {st0 : List Value} (hk : k < 224) (hok : pm_hok h) (hP : va_P D vwCl (pm_ws (lw_ad s) G h) H) (hS : va_S (cs_A s.heap.size) s.heap H locs) (hc : CP k ((tag, a) :: as) h (fun x h1 => x = some r ∧ h1 = h')) (hcats : ((tag, a) :: as).map pm_cat = (pm_inf k).1) (htag : (pm_inf k).2.1 = tag) (ht2 : 2 ≤ tag) (hoks : ∀ v ∈ (tag, a) :: as, pm_okv v) (hl : Jvm.Cond.methodLink R_law idx (pm_mt k).1 ∈ pm_TB) (hd : (pm_inf k).2.2.2 ≤ 13) (hsz : ls.size = 4) (hrest : (rest.map fun v => v.category).sum ≤ 8) (hst : st0 = (as.map (pm_emb (lw_ad s) sa)).reverse ++ Value.ref (lw_ad s a.toNat) :: rest) (hrv : pm_emb (lw_ad s) sa r = rv) (hcs : cells ≤ 600000 ∧ slots ≤ 7302250) (hdg : decode code pc = .ok (.invokevirtual idx, 3))
    (kk : ∀ (H1 : Heap) (locs1 : List Loc), pm_hok h' → va_P D vwCl (pm_ws (lw_ad s) G h') H1 → va_S (cs_A s.heap.size) s.heap H1 locs1 → W p l e room_1 s m #[Value.ref b] below meth c H1 locs1 cells slots Q (F0 m (pc + 3) ls (rv :: rest))) : W p l e room_1 s m #[Value.ref b] below meth c H locs cells slots Q (F0 m pc ls st0) := by
  obtain ⟨hx, hb, hml, hown, hts, hX, hbl, hK, hNW, hSt, hL⟩ := C
  subst htag
  subst hrv
  have hm' := pm_mw_spec hk
  obtain ⟨n, hE⟩ := hc
  have hB := pm_body (l := l) (D := D) (G := G) (sa := sa) (sv := sv) (lw_inj s) n k hk _ _ hE
  have hM := pm_met (l := l) (sv := sv) hk hcats hoks hok hB H.size
  have hn0 : ¬ (pm_inf k).2.1 = 0 := by omega
  have hGd : GoodIn pm_TB (pm_wds k) := fun w hw => (List.mem_cons.mp hw).elim (fun e => e ▸ pm_TB_good _ hm'.1) (pm_TB_good w)
  have hsel := hm'.2.2.1
  rw [if_neg hn0] at hsel
  have hdd := hm'.2.2.2.1
  rw [if_neg hn0] at hdd
  have hRR : (pm_rm (pm_inf k).2.2.2).frames + 1 ≤ room_1.frames ∧ 8 + ((pm_inf k).2.2.1 + 11) + (pm_rm (pm_inf k).2.2.2).locals ≤ room_1.locals := by
    have := hm'.2.2.2.2.2.2.2.2.1
    show (pm_inf k).2.2.2 + 1 ≤ 14 ∧ 8 + ((pm_inf k).2.2.1 + 11) + 33 * (pm_inf k).2.2.2 ≤ 536
    omega
  obtain ⟨hr2, hr1, hrC⟩ := hm'.2.2.2.2.2.2.1.resolve_left hn0
  cases hvc : vwCl[(pm_inf k).2.1 - 2]? with
  | none => rw [hvc] at hrC; cases hrC
  | some rr =>
    rw [hvc] at hrC
    have hrC' : rr.1 = (pm_mt k).1.cls := Option.some.inj hrC
    have h13 : (pm_inf k).2.1 - 2 < 13 := (List.getElem?_eq_some_iff.mp hvc).1
    have hRa : pm_isR (pm_inf k).2.1 := ⟨hr2, by omega⟩
    have hav := pm_okvR (hoks _ List.mem_cons_self) hRa (by omega)
    have hem : pm_emb (lw_ad s) sa ((pm_inf k).2.1, a) = .ref (lw_ad s a.toNat) := pm_emb_ref hRa (by omega)
    have hrv := va_recv hK hP hvc (q0 := a.toNat) (a := lw_ad s a.toNat) (fs := pm_fields (lw_ad s) a.toNat (h a.toNat) ((pm_inf k).2.1 - 2)) (by rw [pm_ws_get hav.2.1, pm_cell_obj h13 (by rw [hav.2.2]; omega)])
    rw [hrC'] at hrv
    have hGV : GoodIn pm_TB (wsV R_law idx (pm_mt k).1.cls (pm_mt k).1 (pm_wds k)) := by
      intro w hw
      unfold wsV at hw
      rcases List.mem_append.mp hw with q | q
      · simp only [List.mem_cons, List.not_mem_nil, or_false] at q
        rcases q with rfl | rfl | rfl | rfl
        · exact pm_TB_good _ hl
        · exact pm_TB_good _ hsel.1
        · exact pm_TB_good _ hsel.2
        · exact pm_TB_good _ hm'.2.1
      · exact hGd w q
    have hpre : ∀ U : State, U.heap = H → s.WarmedH U.vm → pm_Pc D G (lw_ad s) sa sv H.size (((pm_inf k).2.1, a) :: as) h (Value.ref (lw_ad s a.toNat) :: as.map (pm_emb (lw_ad s) sa)).toArray U := fun U hU hW => ⟨by rw [← hem]; rfl, by rw [hU], by rw [hU]; exact hP, va_K.moved hW.alike hK, lw_StU (D := D) (G := G) hSt hS hU hW, pm_NW_go hNW hW⟩
    have hlen : as.length = (pm_inf k).1.length - 1 := by
      rw [← hcats]
      simp
    have hA1 : ∀ q, pm_A (lw_ad s) H.size q → cs_A s.heap.size q := fun q hq => by
      rcases hq with ⟨i, -, e⟩ | z
      · show s.heap.size ≤ q
        rw [e]
        exact Nat.le_add_right _ _
      · exact Nat.le_trans hS.1 z
    have hrun := va_runV (cells := cells) (slots := slots) (R := room_1) (rest := rest) (below := below) (e := e) (meth := meth) (locs := locs) (C := (pm_mt k).1.cls) (b := lw_ad s a.toNat) (As := as.map (pm_emb (lw_ad s) sa)) (g := F0 m pc ls st0) ⟨hx, hb, hml, hown, hts⟩ hM (cwV ((pm_inf k).1.length - 1) hts hGV rfl rfl rfl ⟨rfl, hdd⟩ hRR) ⟨pm_blind, hrv, hpre⟩ rfl (by rw [List.length_map]; exact hlen) hsz hst (lv_room hrest) hdg hcs
    intro T hT X
    obtain ⟨v, st₀, t, T', L, h0, X', hL, e1, e2, ⟨⟨r', h1, hv, ⟨hr', hh'⟩, hok', hho, hP1⟩, hz, hkp⟩, hstp⟩ := hrun T hT X
    cases hv
    subst hr'
    subst hh'
    rw [h0] at hz hkp
    obtain ⟨t2, a1, b1⟩ := kk T'.heap (locs ++ L) hho (by rw [e1]; exact hP1)
      ⟨Nat.le_trans hS.1 (by rw [e1]; exact hz), fun q g1 g2 => by rw [e1, hkp q (Nat.lt_of_lt_of_le g1 hS.1) (fun z => g2 (hA1 q z))]; exact hS.2.1 q g1 g2, fun q hq => by
        rcases List.mem_append.mp hq with h | h
        · exact hS.2.2 q h
        · exact hA1 _ (hL q h)⟩ T' rfl X'
    exact ⟨t2, hstp t2 a1, b1⟩
end LWC
