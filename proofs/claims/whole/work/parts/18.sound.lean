/-! The real machine does what the pure one does: returns, calls, whole methods. -/
def pm_rm (d : Nat) : Room := { frames := d, cells := 0, slots := 0, locals := 33 * d }
def pm_NW (U : State) : Prop := ∀ (a : String) (i : Nat) (x : MethodName), Jvm.Cond.methodLinkNest a i x "HotHall" ∈ lw_tbl → va_Nw (.methodLinkNest a i x "HotHall") U
def pm_Qc (D : va_G) (G : pm_G) (ad : Nat → Nat) (sa : Nat) (Q : Option pV → pH → Prop) (A : Nat → Prop) : Array Value → State → Outcome → State → Prop := fun _ st o t =>
  (∃ (r : Option pV) (h' : pH), o = .returned (r.map (pm_emb ad sa)) ∧ Q r h' ∧ (∀ v, r = some v → pm_okv v) ∧ pm_hok h' ∧ va_P D vwCl (pm_ws ad G h') t.heap) ∧ va_F A st t
def pm_Pc (D : va_G) (G : pm_G) (ad : Nat → Nat) (sa sv sz : Nat) (as : List pV) (h : pH) : Array Value → State → Prop := fun a U =>
  a = (as.map (pm_emb ad sa)).toArray ∧ U.heap.size = sz ∧ va_P D vwCl (pm_ws ad G h) U.heap ∧ va_K D vwCl (pm_tys G) U ∧ pm_St sa sv (pm_A ad U.heap.size) U U.heap ∧ pm_NW U
noncomputable def pm_wds (k : Nat) : List Jvm.Cond := Jvm.Cond.code (pm_mt k).1 (pm_mt k).2.1 (pm_inf k).2.2.1 (pm_mt k).2.2.1 :: pm_TB
theorem pm_isCode_spec {w : Option Jvm.Cond} {y : MethodName} {b : ByteArray} {n : Nat} {r : Option FieldType} (h : pm_isCode w y b n r = true) : w = some (.code y b n r) := by
  unfold pm_isCode at h
  split at h
  · next y' b' n' r' =>
    simp only [Bool.and_eq_true, decide_eq_true_eq] at h
    obtain ⟨⟨⟨rfl, rfl⟩, rfl⟩, h4⟩ := h
    have e : b' = b := by
      cases b' with
      | mk d' =>
        cases b with
        | mk d => exact congrArg ByteArray.mk (Array.toList_inj.mp h4)
    rw [e]
  · cases h
theorem pm_mw_spec {k : Nat} (hk : k < 224) : Jvm.Cond.code (pm_mt k).1 (pm_mt k).2.1 (pm_inf k).2.2.1 (pm_mt k).2.2.1 ∈ pm_TB ∧ Jvm.Cond.initialized (pm_mt k).1.cls ∈ pm_TB ∧
    (if (pm_inf k).2.1 = 0 then Jvm.Cond.static (pm_mt k).1 ∈ pm_TB else Jvm.Cond.instanceMethod (pm_mt k).1 ∈ pm_TB ∧ Jvm.Cond.selects (pm_mt k).1.cls (pm_mt k).1 (pm_mt k).1 ∈ pm_TB) ∧
    ((pm_mt k).1.cls ≠ "java/lang/invoke/MethodHandle" ∧ (pm_mt k).1.cls ≠ "java/lang/invoke/VarHandle" ∧ (parseMethodDescriptor (pm_mt k).1.desc).map (fun d => d.parameters.length) = some (if (pm_inf k).2.1 = 0 then (pm_inf k).1.length else (pm_inf k).1.length - 1)) ∧
    plainName (pm_mt k).1.cls = true ∧ pm_rn (pm_mt k).2.2.2.1 = (pm_mt k).1.cls ∧ ((pm_inf k).2.1 = 0 ∨ (2 ≤ (pm_inf k).2.1 ∧ 1 ≤ (pm_inf k).1.length ∧ (vwCl[(pm_inf k).2.1 - 2]?).map (fun r => r.1) = some (pm_mt k).1.cls)) ∧ (pm_inf k).1.sum ≤ (pm_inf k).2.2.1 ∧ (pm_inf k).2.2.1 ≤ 14 ∧ 1 ≤ (pm_inf k).2.2.2 := by
  have h := pm_mw hk
  unfold pm_mwc at h
  simp only [Bool.and_eq_true, decide_eq_true_eq] at h
  obtain ⟨⟨⟨⟨⟨⟨⟨⟨⟨⟨⟨⟨h1, h2⟩, h3⟩, h4⟩, h5⟩, h6⟩, h7⟩, h8⟩, h9⟩, h10⟩, h11⟩, h12⟩, -⟩ := h
  refine ⟨pm_TB_in (pm_isCode_spec h1) rfl, pm_TB_in h2 rfl, ?_, ⟨h6, h7, h4⟩, h5, h8, h9, h10, h11, h12⟩
  split at h3
  · next h0 => rw [if_pos h0]; exact pm_TB_in (of_decide_eq_true h3) rfl
  · next h0 =>
    rw [if_neg h0]
    simp only [Bool.and_eq_true, decide_eq_true_eq] at h3
    exact ⟨pm_TB_in h3.1 rfl, pm_TB_in h3.2 rfl⟩
theorem pm_ck_spec {k i : Nat} {q : pI} (hk : k < 224) (hq : (pm_CODE k)[i]? = some q) : pm_chkAt k i q = true ∧ i < (pm_mt k).2.2.2.2.length ∧ (∀ idx zs, q = (.invokevirtual idx, [], zs) → 7 ≤ (pm_inf k).2.2.2) := by
  have h := pm_ck hk
  unfold pm_mchk at h
  rw [Bool.and_eq_true] at h
  refine ⟨List.all_eq_true.mp h.1 (q, i) (List.mem_zipIdx_iff_getElem?.mpr (by simpa using hq)), ?_, fun idx zs e => ?_⟩
  · have h2 := List.all_eq_true.mp pm_lens k (List.mem_range.mpr hk)
    rw [beq_iff_eq] at h2
    rw [← h2]
    exact (List.getElem?_eq_some_iff.mp hq).1
  · have h2 := List.all_eq_true.mp (List.all_eq_true.mp pm_h7s k (List.mem_range.mpr hk)) q (List.mem_of_getElem? hq)
    rw [e] at h2
    exact of_decide_eq_true h2
theorem pm_ck0 {k : Nat} (hk : k < 224) : (pm_mt k).2.2.2.2.getD 0 0 = 0 := by
  have h := pm_ck hk
  unfold pm_mchk at h
  rw [Bool.and_eq_true, decide_eq_true_eq] at h
  have h2 := h.2
  cases hl : (pm_mt k).2.2.2.2 with
  | nil => rw [hl] at h2; cases h2
  | cons a r => rw [hl] at h2; exact h2
theorem pm_args_len (as : List pV) : (pm_args as).length = (as.map pm_cat).sum := by
  induction as with
  | nil => rfl
  | cons v r ih =>
    unfold pm_args
    rw [List.map_cons, List.sum_cons, pm_cat]
    split
    · rw [List.length_cons, List.length_cons, ih]; omega
    · rw [List.length_cons, ih]; omega
theorem pm_sl_len (ad : Nat → Nat) (sa : Nat) (as : List pV) : (lg_sl (as.map (pm_emb ad sa))).length = (as.map pm_cat).sum := by
  induction as with
  | nil => rfl
  | cons v r ih =>
    have e : lg_sl ((v :: r).map (pm_emb ad sa)) = (if (pm_emb ad sa v).category = 2 then [.val (pm_emb ad sa v), .second] else [.val (pm_emb ad sa v)]) ++ lg_sl (r.map (pm_emb ad sa)) := by
      simp [lg_sl]
    rw [e, List.length_append, ih, List.map_cons, List.sum_cons, pm_emb_cat, pm_cat]
    by_cases h : v.1 = 1
    · rw [if_pos h, if_pos rfl]; rfl
    · rw [if_neg h, if_neg (by decide)]; rfl
theorem pm_args_at (ad : Nat → Nat) (sa : Nat) : ∀ (as : List pV) (off i : Nat) (v : pV), (pm_args as)[i]? = some v → v.1 ≠ 5000000 → (off + i, pm_emb ad sa v) ∈ lv_args off (as.map (pm_emb ad sa)) := by
  intro as
  induction as with
  | nil => intro off i v h; simp [pm_args] at h
  | cons u r ih =>
    intro off i v h hv
    unfold pm_args at h
    rw [List.map_cons, lv_args, pm_emb_cat, pm_cat]
    by_cases hu : u.1 = 1
    · rw [if_pos hu] at h ⊢
      rw [if_pos rfl]
      match i, h with
      | 0, h => cases h; exact List.mem_cons_self
      | 1, h => cases h; exact absurd rfl hv
      | i + 2, h =>
        have := ih (off + 2) i v (by simpa using h) hv
        rw [show off + (i + 2) = off + 2 + i by omega]
        exact List.mem_cons_of_mem _ this
    · rw [if_neg hu] at h ⊢
      rw [if_neg (by decide)]
      match i, h with
      | 0, h => cases h; exact List.mem_cons_self
      | i + 1, h =>
        have := ih (off + 1) i v (by simpa using h) hv
        rw [show off + (i + 1) = off + 1 + i by omega]
        exact List.mem_cons_of_mem _ this
theorem pm_args_mem {as : List pV} {v : pV} (h : v ∈ pm_args as) : v.1 = 5000000 ∨ v ∈ as := by
  induction as with
  | nil => simp [pm_args] at h
  | cons u r ih =>
    unfold pm_args at h
    split at h
    · rcases List.mem_cons.mp h with q | q
      · exact Or.inr (q ▸ List.mem_cons_self)
      · rcases List.mem_cons.mp q with q | q
        · exact Or.inl (q ▸ rfl)
        · exact (ih q).imp id (List.mem_cons_of_mem _)
    · rcases List.mem_cons.mp h with q | q
      · exact Or.inr (q ▸ List.mem_cons_self)
      · exact (ih q).imp id (List.mem_cons_of_mem _)
theorem pm_LR_entry (ad : Nat → Nat) (sa : Nat) {n : Nat} {as : List pV} (h : (as.map pm_cat).sum ≤ n) : pm_LR ad sa n (pm_pad n (pm_args as)) ((lg_sl (as.map (pm_emb ad sa)) ++ List.replicate (n - (lg_sl (as.map (pm_emb ad sa))).length) Slot.unset).toArray) := by
  have he := lv_entry (as.map (pm_emb ad sa)) (n := n) (by rw [pm_sl_len]; exact h)
  refine ⟨by unfold pm_pad; rw [List.length_append, List.length_replicate, pm_args_len]; omega, he.1, he.2.1, fun i v hv h5 => ?_⟩
  have hv2 : (pm_args as)[i]? = some v := by
    unfold pm_pad at hv
    rcases Nat.lt_or_ge i (pm_args as).length with q | q
    · rwa [List.getElem?_append_left q] at hv
    · rw [List.getElem?_append_right q, List.getElem?_replicate] at hv
      split at hv
      · cases hv; exact absurd rfl h5
      · cases hv
  have := pm_args_at ad sa as 0 i v hv2 h5
  rw [Nat.zero_add] at this
  exact he.2.2 _ this
theorem pm_St_go {sa sv : Nat} {ad : Nat → Nat} {s U : State} {H : Heap} {locs : List Loc} (h : pm_St sa sv (pm_A ad s.heap.size) s s.heap) (hS : va_S (pm_A ad s.heap.size) s.heap H locs) (hU : U.heap = H) (hW : s.WarmedH U.vm) : pm_St sa sv (pm_A ad U.heap.size) U U.heap := by
  obtain ⟨h1, h2, h3⟩ := h
  have hA : ∀ q, pm_A ad U.heap.size q → pm_A ad s.heap.size q := fun q hq => hq.imp id (fun z => Nat.le_trans (by rw [hU]; exact hS.1) z)
  have hk : ∀ a : Nat, a < s.heap.size → ¬ pm_A ad s.heap.size a → U.heap[a]? = s.heap[a]? := fun a q1 q2 => by rw [hU]; exact hS.2.1 a q1 q2
  exact ⟨h1.warm hW, ((h2.kept hk).narrow hA).moved hW.alike, ((h3.kept hk).narrow hA).moved hW.alike⟩
theorem pm_NW_go {s U : State} (h : pm_NW s) (hW : s.WarmedH U.vm) : pm_NW U := fun a i x hm => (h a i x hm).warmM hW
theorem pm_blind {D : va_G} {G : pm_G} {ad : Nat → Nat} {sa sv sz : Nat} {as : List pV} {h : pH} : FrameBlind (pm_Pc D G ad sa sv sz as h) := by
  intro a U g mk hP
  obtain ⟨h1, h2, h3, h4, ⟨h5, h6, h7⟩, h8⟩ := hP
  refine ⟨h1, h2, h3, va_K.moved (u := U) (U := U.calling g mk a) (Vm.Alike.refl U.vm) h4, ⟨vk_R.same (u := U) (U := U.calling g mk a) rfl h5, vk_S.moved (u := U) (U := U.calling g mk a) (Vm.Alike.refl U.vm) h6, va_Z.moved (u := U) (U := U.calling g mk a) (Vm.Alike.refl U.vm) h7⟩, fun q i x hm => va_Nw.same rfl (u := U) (U := U.calling g mk a) rfl (h8 q i x hm)⟩
section PMS
variable {p : Program} {l : Launch} {e : Env} {R : Room} {s : State} {m : MethodId} {args : Array Value} {below : List Frame} {meth : Method} {c : Code} {H : Heap} {locs : List Loc} {Q : State → Prop} {D : va_G} {G : pm_G} {ad : Nat → Nat} {sa sv k i : Nat} {L st : List pV} {h : pH} {ls : Array Slot}
/-- a return -/
theorem pm_ret {Qp : Option pV → pH → Prop} {q : pI} {t : Nat} (hx : p.tables.exec = Jvm.exec) (hb : c.code = (pm_mt k).2.1) (hrt : meth.sig.returnType = (pm_mt k).2.2.1) (hlocks : meth.locks = false) (hck : pm_chkAt k i q = true) (ht : pm_retK q = some t) (hok : pm_retOk t st) (hQ : Qp st.head? h) (hr : pm_Rel D G ad sa (pm_inf k).2.2.1 s (i, L, st, h) H locs ls) :
    pm_Go p l e R s m args below meth c (MQ below (pm_Qc D G ad sa Qp (pm_A ad s.heap.size)) args s 0 0 (pm_A ad s.heap.size)) ad sa (pm_mt k).2.2.2.2 (i, L, st, h) H locs ls := by
  obtain ⟨len, hd, hlen, hnx, hc⟩ := pm_chkAt_spec hck
  have hfr : ∀ q ∈ locs, pm_A ad s.heap.size q.base := hr.2.2.2.2.1.2.2
  have post : ∀ (tt : State), tt.heap = H → ∀ r, r = st.head? → (∀ v, r = some v → pm_okv v) → pm_Qc D G ad sa Qp (pm_A ad s.heap.size) args s (.returned (r.map (pm_emb ad sa))) tt := by
    intro tt htt r hre hrv
    exact ⟨⟨r, h, rfl, hre ▸ hQ, hrv, hr.2.2.1, by rw [htt]; exact hr.2.2.2.1⟩, hr.2.2.2.2.1.F htt⟩
  obtain ⟨ins, ns, zs⟩ := q
  unfold pm_Go
  cases ins with
  | return_ =>
    rcases hlen with q | rfl
    · cases q
    cases ht
    rcases st with _ | ⟨v, st⟩
    · simp only [pm_chkI, decide_eq_true_eq] at hc
      exact W.vret hx hb (hrt.trans hc) (fun tt htt _ => post tt htt none rfl (fun v hv => by cases hv)) hfr hd hlocks
    · exact hok.elim
  | lreturn =>
    rcases hlen with q | rfl
    · cases q
    cases ht
    rcases st with _ | ⟨⟨t, x⟩, _ | ⟨w, st⟩⟩
    · exact hok.elim
    · have e1 : t = 1 := hok
      subst e1
      simp only [pm_chkI, decide_eq_true_eq] at hc
      exact W.lret hx hb (hrt.trans hc) (fun tt htt _ => post tt htt (some (1, x)) rfl (fun v hv => by cases hv; exact hr.1 _ List.mem_cons_self)) hfr hd hlocks
    · exact hok.elim
  | ireturn =>
    rcases hlen with q | rfl
    · cases q
    have ht' : ns.getD 0 1 = t := Option.some.inj ht
    simp only [pm_chkI] at hc
    by_cases h2 : ns.getD 0 1 = 2
    · rw [if_pos h2, decide_eq_true_eq] at hc
      have e2 : t = 2 := ht'.symm.trans h2
      subst e2
      rcases st with _ | ⟨⟨t, x⟩, _ | ⟨w, st⟩⟩
      · exact hok.elim
      · obtain ⟨e1, e3⟩ := (show t = 0 ∧ (x = 0 ∨ x = 1) from hok)
        subst e1
        exact W.zret hx hb (hrt.trans hc) (by rcases e3 with rfl | rfl <;> decide +kernel) (fun tt htt _ => post tt htt (some (0, x)) rfl (fun v hv => by cases hv; exact hr.1 _ List.mem_cons_self)) hfr hd hlocks
      · exact hok.elim
    · rw [if_neg h2, Bool.and_eq_true, beq_iff_eq, decide_eq_true_eq] at hc
      have e2 : t = 1 := ht'.symm.trans hc.1
      subst e2
      rcases st with _ | ⟨⟨t, x⟩, _ | ⟨w, st⟩⟩
      · exact hok.elim
      · have e1 : t = 0 := hok
        subst e1
        exact W.iret hx hb (hrt.trans hc.2) (fun tt htt _ => post tt htt (some (0, x)) rfl (fun v hv => by cases hv; exact hr.1 _ List.mem_cons_self)) hfr hd hlocks
      · exact hok.elim
  | _ => cases ht
/-- behind a call -/
theorem pm_after {Qp : Option pV → pH → Prop} {pc : Nat} {st0 rest : List Value} {a : Array Value} {A1 : Nat → Prop} {R : Room} (hrun : va_Run p l e R s m args below meth c H locs 0 0 0 0 (F0 m pc ls st0) rest (pm_Qc D G ad sa Qp A1 a) A1) (hS : va_S (pm_A ad s.heap.size) s.heap H locs) (hA : ∀ q, A1 q → pm_A ad s.heap.size q)
    (kk : ∀ (r : Option pV) (h1 : pH) (H1 : Heap) (locs1 : List Loc), Qp r h1 → (∀ v, r = some v → pm_okv v) → pm_hok h1 → va_P D vwCl (pm_ws ad G h1) H1 → va_S (pm_A ad s.heap.size) s.heap H1 locs1 → W p l e R s m args below meth c H1 locs1 0 0 Q (F0 m (pc + 3) ls (r.toList.map (pm_emb ad sa) ++ rest))) :
    W p l e R s m args below meth c H locs 0 0 Q (F0 m pc ls st0) := by
  intro T hT X
  obtain ⟨v, st₀, t, T', L, h0, X', hL, e1, e2, ⟨⟨r, h1, hv, hq, hok, hho, hP⟩, hz, hk⟩, hst⟩ := hrun T hT X
  cases hv
  rw [h0] at hz hk
  obtain ⟨t2, a1, b1⟩ := kk r h1 T'.heap (locs ++ L) hq hok hho (by rw [e1]; exact hP)
    ⟨Nat.le_trans hS.1 (by rw [e1]; exact hz), fun q g1 g2 => by rw [e1, hk q (Nat.lt_of_lt_of_le g1 hS.1) (fun z => g2 (hA q z))]; exact hS.2.1 q g1 g2, fun q hq => by
      rcases List.mem_append.mp hq with g | g
      · exact hS.2.2 q g
      · exact hA _ (hL q g)⟩ T' rfl X'
  refine ⟨t2, hst t2 ?_, b1⟩
  cases r with
  | none => exact a1
  | some v => exact a1
end PMS
