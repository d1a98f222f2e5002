/-! The real machine does what the pure one does: the induction. -/
theorem pm_Ev_idx {n k : Nat} {u : pS} {Q : Option pV → pH → Prop} (h : pm_Ev n k u Q) : ∃ q, (pm_CODE k)[u.1]? = some q := by
  cases n with
  | zero => exact h.elim
  | succ n =>
    unfold pm_Ev at h
    cases hq : (pm_CODE k)[u.1]? with
    | none => rw [hq] at h; exact h.elim
    | some q => exact ⟨q, rfl⟩
/-- what a method's body is proved to do -/
def pm_Body (l : Launch) (D : va_G) (G : pm_G) (ad : Nat → Nat) (sa sv k : Nat) (u : pS) (Qp : Option pV → pH → Prop) : Prop :=
  ∀ (p : Program) (e : Env) (s : State) (m : MethodId) (args : Array Value) (below : List Frame) (meth : Method) (c : Code) (H : Heap) (locs : List Loc) (ls : Array Slot),
    p.tables.exec = Jvm.exec → c.code = (pm_mt k).2.1 → meth.sig.returnType = (pm_mt k).2.2.1 → c.maxLocals = (pm_inf k).2.2.1 → s.vm.findClass (pm_rn (pm_mt k).2.2.2.1) = some m.cls → (∀ w ∈ pm_TB, w.before args s = true) → va_K D vwCl (pm_tys G) s → pm_St sa sv (pm_A ad s.heap.size) s s.heap → pm_NW s → meth.locks = false → pm_Rel D G ad sa (pm_inf k).2.2.1 s u H locs ls →
    pm_Go p l e (pm_rm (pm_inf k).2.2.2) s m args below meth c (MQ below (pm_Qc D G ad sa Qp (pm_A ad s.heap.size)) args s 0 0 (pm_A ad s.heap.size)) ad sa (pm_mt k).2.2.2.2 u H locs ls
theorem pm_met {l : Launch} {D : va_G} {G : pm_G} {ad : Nat → Nat} {sa sv k : Nat} {as : List pV} {h : pH} {Qp : Option pV → pH → Prop} (hk : k < 224) (hcats : as.map pm_cat = (pm_inf k).1) (hok : ∀ v ∈ as, pm_okv v) (hh : pm_hok h) (hB : pm_Body l D G ad sa sv k (pm_in k as h) Qp) (sz : Nat) :
    Met l (pm_mt k).1 (pm_wds k) (pm_rm (pm_inf k).2.2.2) (pm_Pc D G ad sa sv sz as h) (pm_Qc D G ad sa Qp (pm_A ad sz)) 0 0 (pm_A ad sz) := by
  have hm := pm_mw_spec hk
  refine Met.ofW (cc := (pm_mt k).2.1) (maxL := (pm_inf k).2.2.1) (ret := (pm_mt k).2.2.1) hm.2.2.2.2.1 rfl ?_
  intro p e s m args below meth c s₁ B hml hv
  obtain ⟨rfl, hsz, hP, hK, hSt, hNW⟩ := hv
  subst hsz
  have hts := atoms_spec (ws := pm_wds k) B.pre
  have hown : s.vm.findClass (pm_mt k).1.cls = some m.cls := findClass_of_methodNamed B.named
  rw [lg_entry_eq]
  have hsum : (as.map pm_cat).sum ≤ (pm_inf k).2.2.1 := by rw [hcats]; exact hm.2.2.2.2.2.2.2.1
  have hl0 : ∀ v ∈ (pm_in k as h).2.2.1, pm_okv v := fun v hv => absurd hv List.not_mem_nil
  have hl1 : ∀ v ∈ (pm_in k as h).2.1, v.1 = 5000000 ∨ pm_okv v := by
    intro v hv
    have hv' : v ∈ pm_pad (pm_inf k).2.2.1 (pm_args as) := hv
    unfold pm_pad at hv'
    rcases List.mem_append.mp hv' with q | q
    · exact (pm_args_mem q).imp id (hok v)
    · exact Or.inl (by rw [List.eq_of_mem_replicate q])
  have hg := hB p e s m (as.map (pm_emb ad sa)).toArray below meth c s.heap [] _ B.exec B.bytes B.returns hml (by rw [hm.2.2.2.2.2.1]; exact hown) (fun w hw => hts w (List.mem_cons_of_mem _ hw)) hK hSt hNW B.notSynchronized ⟨hl0, hl1, hh, hP, va_S.rf, pm_LR_entry ad sa hsum⟩
  unfold pm_Go at hg
  rw [show (pm_in k as h).1 = 0 from rfl, pm_ck0 hk] at hg
  exact hg
theorem pm_take_len {st : List pV} {m : Nat} (h : pm_callOk m st) : ((st.take (pm_inf m).1.length).reverse).length = (pm_inf m).1.length := by
  rw [List.length_reverse, List.length_take]
  exact Nat.min_eq_left h.1
set_option maxHeartbeats 4000000 in
theorem pm_body {l : Launch} {D : va_G} {G : pm_G} {ad : Nat → Nat} {sa sv : Nat} (hi : pm_inj ad) : ∀ (n k : Nat), k < 224 → ∀ (u : pS) (Qp : Option pV → pH → Prop), pm_Ev n k u Qp → pm_Body l D G ad sa sv k u Qp := by
  intro n
  induction n with
  | zero => intro k hk u Qp hE; exact hE.elim
  | succ n ih =>
    intro k hk u Qp hE p e s m args below meth c H locs ls hx hb hrt hml hown hts hK hst hnw hlocks hr
    obtain ⟨i, L, st, h⟩ := u
    unfold pm_Ev at hE
    rw [show ((i, L, st, h) : pS).1 = i from rfl] at hE
    cases hq : (pm_CODE k)[i]? with
    | none => rw [hq] at hE; exact hE.elim
    | some q =>
      rw [hq] at hE
      dsimp only at hE
      obtain ⟨hck, hlen, h7⟩ := pm_ck_spec hk hq
      have hm := pm_mw_spec hk
      cases hc : pm_call q with
      | none =>
        rw [hc] at hE
        dsimp only at hE
        cases hret : pm_retK q with
        | some t =>
          rw [hret] at hE
          exact pm_ret hx hb hrt hlocks hck hret hE.1 hE.2 hr
        | none =>
          rw [hret] at hE
          refine pm_one hx hb hml hown hts hK hi hst ⟨Nat.le_refl _, Nat.le_refl _⟩ hm.2.2.2.2.2.2.2.2.2 hck h7 hc hret (fun e1 => ?_) hr hE.1 (fun H' locs' ls' hr' => ih k hk _ Qp hE.2 p e s m args below meth c H' locs' ls' hx hb hrt hml hown hts hK hst hnw hlocks hr')
          obtain ⟨q2, hq2⟩ := pm_Ev_idx hE.2
          rw [e1] at hq2
          exact (pm_ck_spec hk hq2).2.1
      | some m' =>
        rw [hc] at hE
        dsimp only at hE
        obtain ⟨hco, hE⟩ := hE
        obtain ⟨len, hd, hln, hnx, hci⟩ := pm_chkAt_spec hck
        have hasok : ∀ v ∈ (st.take (pm_inf m').1.length).reverse, pm_okv v := fun v hv => hr.1 v (List.mem_of_mem_take (List.mem_reverse.mp hv))
        have hA1 : ∀ q, pm_A ad H.size q → pm_A ad s.heap.size q := fun q hq => hq.imp id (fun z => Nat.le_trans hr.2.2.2.2.1.1 z)
        have hsplit : st.map (pm_emb ad sa) = ((st.take (pm_inf m').1.length).reverse.map (pm_emb ad sa)).reverse ++ (st.drop (pm_inf m').1.length).map (pm_emb ad sa) := by
          rw [← List.map_reverse, List.reverse_reverse, ← List.map_append, List.take_append_drop]
        have hrest : (((st.drop (pm_inf m').1.length).map (pm_emb ad sa)).map fun v => v.category).sum ≤ 8 := by
          rw [List.map_map, show (fun v : Value => v.category) ∘ pm_emb ad sa = pm_cat from funext (pm_emb_cat ad sa)]
          exact hco.2.2.2.2
        have hcats := hco.2.1
        have hrecv := hco.2.2.1
        have halen := pm_take_len hco
        have hgo : ∀ (av : Array Value) (st0 : List Value), st0 = st.map (pm_emb ad sa) → len = 3 → va_Run p l e (pm_rm (pm_inf k).2.2.2) s m args below meth c H locs 0 0 0 0 (F0 m ((pm_mt k).2.2.2.2.getD i 0) ls st0) ((st.drop (pm_inf m').1.length).map (pm_emb ad sa)) (pm_Qc D G ad sa (fun r h1 => pm_Ev n k (i + 1, L, r.toList ++ st.drop (pm_inf m').1.length, h1) Qp) (pm_A ad H.size) av) (pm_A ad H.size) → pm_Go p l e (pm_rm (pm_inf k).2.2.2) s m args below meth c (MQ below (pm_Qc D G ad sa Qp (pm_A ad s.heap.size)) args s 0 0 (pm_A ad s.heap.size)) ad sa (pm_mt k).2.2.2.2 (i, L, st, h) H locs ls := by
          intro av st0 hst0 hl3 hrun
          subst hl3
          unfold pm_Go
          rw [show ((i, L, st, h) : pS).1 = i from rfl, show ((i, L, st, h) : pS).2.2.1 = st from rfl, ← hst0]
          refine pm_after hrun hr.2.2.2.2.1 hA1 (fun r h1 H1 locs1 hq1 hok1 hho1 hP1 hS1 => ?_)
          have hl0 : ∀ v ∈ r.toList ++ st.drop (pm_inf m').1.length, pm_okv v := by
            intro v hv
            rcases List.mem_append.mp hv with q | q
            · exact hok1 v (by simpa using q)
            · exact hr.1 v (List.mem_of_mem_drop q)
          have hg := ih k hk _ Qp hq1 p e s m args below meth c H1 locs1 ls hx hb hrt hml hown hts hK hst hnw hlocks ⟨hl0, hr.2.1, hho1, hP1, hS1, hr.2.2.2.2.2⟩
          obtain ⟨q2, hq2⟩ := pm_Ev_idx hq1
          have hlt := (pm_ck_spec hk hq2).2.1
          unfold pm_Go at hg
          rw [show ((i + 1, L, r.toList ++ st.drop (pm_inf m').1.length, h1) : pS).1 = i + 1 from rfl, show ((i + 1, L, r.toList ++ st.drop (pm_inf m').1.length, h1) : pS).2.2.1 = r.toList ++ st.drop (pm_inf m').1.length from rfl, pm_getD_ind (b := (pm_mt k).2.2.2.2.getD i 0 + 3) hlt, hnx, List.map_append] at hg
          exact hg
        generalize has : (st.take (pm_inf m').1.length).reverse = as at *
        have hpre : ∀ U : State, U.heap = H → s.WarmedH U.vm → pm_Pc D G ad sa sv H.size as h (as.map (pm_emb ad sa)).toArray U := fun U hU hW => ⟨rfl, by rw [hU], by rw [hU]; exact hr.2.2.2.1, va_K.moved hW.alike hK, pm_St_go hst hr.2.2.2.2.1 hU hW, pm_NW_go hnw hW⟩
        obtain ⟨ins, ns, zs⟩ := q
        cases ins with
        | invokestatic idx =>
          rcases hln with z | rfl
          · cases z
          rcases ns with _ | ⟨t0, ns⟩
          · cases hc
          · have e0 : t0 = m' := Option.some.inj hc
            subst e0
            simp only [pm_chkI, Bool.and_eq_true, decide_eq_true_eq, beq_iff_eq] at hci
            obtain ⟨⟨⟨c1, c2⟩, c3⟩, c4⟩ := hci
            have hm' := pm_mw_spec c1
            have hM := pm_met (l := l) (sv := sv) c1 hcats hasok hr.2.2.1 (ih t0 c1 _ _ hE) H.size
            have hGd : GoodIn pm_TB (pm_wds t0) := fun w hw => (List.mem_cons.mp hw).elim (fun e => e ▸ pm_TB_good _ hm'.1) (pm_TB_good w)
            have hst' : Jvm.Cond.static (pm_mt t0).1 ∈ pm_TB := by have := hm'.2.2.1; rwa [if_pos c3] at this
            have hdd := hm'.2.2.2.1
            rw [if_pos c3] at hdd
            have hRR : (pm_rm (pm_inf t0).2.2.2).frames + 1 ≤ (pm_rm (pm_inf k).2.2.2).frames ∧ 8 + ((pm_inf t0).2.2.1 + 11) + (pm_rm (pm_inf t0).2.2.2).locals ≤ (pm_rm (pm_inf k).2.2.2).locals := by
              have := hm'.2.2.2.2.2.2.2.2.1
              refine ⟨c4, ?_⟩
              show 8 + ((pm_inf t0).2.2.1 + 11) + 33 * (pm_inf t0).2.2.2 ≤ 33 * (pm_inf k).2.2.2
              omega
            refine hgo (as.map (pm_emb ad sa)).toArray _ rfl rfl ?_
            rcases pm_ml c2 (by omega) with hl | hl
            · exact va_runS ⟨hx, hb, hml, hown, hts⟩ hM ⟨callB_of (pm_inf t0).1.length hts hGd rfl rfl rfl (hts _ hm'.2.1) (hts _ hl) hdd hRR, hts _ hst'⟩ ⟨pm_blind, hpre⟩ rfl (by rw [List.length_map]; exact halen) hr.2.2.2.2.2.2.1 hsplit (lv_room hrest) hd ⟨Nat.le_refl _, Nat.le_refl _⟩
            · exact va_runSN ⟨hx, hb, hml, hown, hts⟩ hM ⟨va_cnB (pm_inf t0).1.length hts hGd rfl rfl rfl (hnw _ _ _ hl) (hts _ hm'.2.1) hdd hRR, hts _ hst', trivial⟩ ⟨pm_blind, hpre⟩ rfl (by rw [List.length_map]; exact halen) hr.2.2.2.2.2.2.1 hsplit (lv_room hrest) hd ⟨Nat.le_refl _, Nat.le_refl _⟩
        | invokevirtual idx =>
          rcases hln with z | rfl
          · cases z
          rcases ns with _ | ⟨t0, ns⟩
          · cases hc
          · have e0 : t0 = m' := Option.some.inj hc
            subst e0
            simp only [pm_chkI, Bool.and_eq_true, decide_eq_true_eq, bne_iff_ne] at hci
            obtain ⟨⟨⟨c1, c2⟩, c3⟩, c4⟩ := hci
            have hm' := pm_mw_spec c1
            have hM := pm_met (l := l) (sv := sv) c1 hcats hasok hr.2.2.1 (ih t0 c1 _ _ hE) H.size
            have hGd : GoodIn pm_TB (pm_wds t0) := fun w hw => (List.mem_cons.mp hw).elim (fun e => e ▸ pm_TB_good _ hm'.1) (pm_TB_good w)
            have hsel := hm'.2.2.1
            rw [if_neg c3] at hsel
            have hdd := hm'.2.2.2.1
            rw [if_neg c3] at hdd
            have hRR : (pm_rm (pm_inf t0).2.2.2).frames + 1 ≤ (pm_rm (pm_inf k).2.2.2).frames ∧ 8 + ((pm_inf t0).2.2.1 + 11) + (pm_rm (pm_inf t0).2.2.2).locals ≤ (pm_rm (pm_inf k).2.2.2).locals := by
              have := hm'.2.2.2.2.2.2.2.2.1
              refine ⟨c4, ?_⟩
              show 8 + ((pm_inf t0).2.2.1 + 11) + 33 * (pm_inf t0).2.2.2 ≤ 33 * (pm_inf k).2.2.2
              omega
            obtain ⟨hr2, hr1, hrC⟩ := hm'.2.2.2.2.2.2.1.resolve_left c3
            obtain ⟨a, r, hasr⟩ := hrecv.resolve_left c3
            subst hasr
            cases hvc : vwCl[(pm_inf t0).2.1 - 2]? with
            | none => rw [hvc] at hrC; cases hrC
            | some rr =>
              rw [hvc] at hrC
              have hrC' : rr.1 = (pm_mt t0).1.cls := Option.some.inj hrC
              have h13 : (pm_inf t0).2.1 - 2 < 13 := (List.getElem?_eq_some_iff.mp hvc).1
              have hRa : pm_isR (pm_inf t0).2.1 := ⟨hr2, by omega⟩
              have hav := pm_okvR (hasok _ List.mem_cons_self) hRa (by omega)
              have hem : pm_emb ad sa ((pm_inf t0).2.1, a) = .ref (ad a.toNat) := pm_emb_ref hRa (by omega)
              have hrv := va_recv hK hr.2.2.2.1 hvc (q0 := a.toNat) (a := ad a.toNat) (fs := pm_fields ad a.toNat (h a.toNat) ((pm_inf t0).2.1 - 2)) (by rw [pm_ws_get hav.2.1, pm_cell_obj h13 (by rw [hav.2.2]; omega)])
              rw [hrC'] at hrv
              have hGV : GoodIn pm_TB (wsV (pm_rn (pm_mt k).2.2.2.1) idx (pm_mt t0).1.cls (pm_mt t0).1 (pm_wds t0)) := by
                intro w hw
                unfold wsV at hw
                rcases List.mem_append.mp hw with q | q
                · simp only [List.mem_cons, List.not_mem_nil, or_false] at q
                  rcases q with rfl | rfl | rfl | rfl
                  · exact pm_TB_good _ (pm_ml0 c2 (by omega))
                  · exact pm_TB_good _ hsel.1
                  · exact pm_TB_good _ hsel.2
                  · exact pm_TB_good _ hm'.2.1
                · exact hGd w q
              refine hgo (Value.ref (ad a.toNat) :: r.map (pm_emb ad sa)).toArray _ rfl rfl ?_
              refine va_runV (C := (pm_mt t0).1.cls) (b := ad a.toNat) (As := r.map (pm_emb ad sa)) ⟨hx, hb, hml, hown, hts⟩ hM (cwV ((pm_inf t0).1.length - 1) hts hGV rfl rfl rfl ⟨rfl, hdd⟩ hRR) ⟨pm_blind, hrv, fun U hU hW => ?_⟩ rfl ?_ hr.2.2.2.2.2.2.1 ?_ (lv_room hrest) hd ⟨Nat.le_refl _, Nat.le_refl _⟩
              · have := hpre U hU hW
                rw [List.map_cons, hem] at this
                exact this
              · rw [List.length_map]
                have := halen
                rw [List.length_cons] at this
                omega
              · rw [hsplit, List.map_cons, hem, List.reverse_cons, List.append_assoc]
                rfl
        | _ => cases hc
