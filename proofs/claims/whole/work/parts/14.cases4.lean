section PMF
variable {p : Program} {l : Launch} {e : Env} {R : Room} {s : State} {m : MethodId} {args : Array Value} {below : List Frame} {meth : Method} {c : Code} {H : Heap} {locs : List Loc} {Q : State → Prop} {D : va_G} {G : pm_G} {ad : Nat → Nat} {sa n : Nat} {pcs : List Nat} {i pc : Nat} {L st : List pV} {h : pH} {ls : Array Slot} {cc : ByteArray}
theorem pm_r_getf {own idx : Nat} {ns : List Nat} {zs : List Int} (hx : p.tables.exec = Jvm.exec) (hb : c.code = cc) (hts : ∀ w ∈ pm_TB, w.before args s = true) (hown : s.vm.findClass (pm_rn own) = some m.cls) (hK : va_K D vwCl (pm_tys G) s) (hr : pm_Rel D G ad sa n s (i, L, st, h) H locs ls) (hp : pcs.getD i 0 = pc) (hn : pcs.getD (i + 1) 0 = pc + 3) (hd : decode cc pc = .ok (.getfield idx, 3))
    (hF : pm_FL.any (fun t => t.2.1 == idx && t.1 == own && t.2.2.1 == ns.getD 0 0 && ((t.2.2.2.1 : Nat) : Int) == zs.getD 0 0) = true) (hk' : pm_fk (ns.getD 0 0) (zs.getD 0 0).toNat (ns.getD 1 0) (ns.getD 2 0) (zs.getD 1 0) = true) (h1 : (pm_getf ns zs (i, L, st, h)).1)
    (kk : ∀ H' locs' ls', pm_Rel D G ad sa n s (pm_getf ns zs (i, L, st, h)).2 H' locs' ls' → pm_Go p l e R s m args below meth c Q ad sa pcs (pm_getf ns zs (i, L, st, h)).2 H' locs' ls') :
    pm_Go p l e R s m args below meth c Q ad sa pcs (i, L, st, h) H locs ls := by
  obtain ⟨k, r, hz, hrc, hkN, hlink⟩ := pm_fl hF
  rw [hz, Int.toNat_natCast] at hk'
  rcases st with _ | ⟨⟨t2, a⟩, st⟩
  · exact h1.elim
  · have e2 : t2 = 2 + ns.getD 0 0 := h1
    obtain ⟨hq, hci, c0, c1, c2, c4, c3⟩ := pm_fkq hrc hkN hk'
    have hav := hr.1 (t2, a) List.mem_cons_self
    have hR : pm_isR t2 := ⟨by omega, by omega⟩
    obtain ⟨g1, g2, g3⟩ := pm_okvR hav hR (by omega)
    have g3' : pm_lay a.toNat = 2 + ns.getD 0 0 := g3.trans e2
    have hcell : (pm_ws ad G h)[a.toNat]? = some (ad a.toNat, .inr (ns.getD 0 0, pm_fields ad a.toNat (h a.toNat) (ns.getD 0 0))) := by
      rw [pm_ws_get g2, pm_cell_obj hci g3']
    have hfld := pm_fields_get (ad := ad) (i := a.toNat) (f := h a.toNat) hq
    have ho := (hr.2.2.1 a.toNat g2).2.2 (by omega) k _ (by rw [g3', show 2 + ns.getD 0 0 - 2 = ns.getD 0 0 by omega]; exact hq)
    have hak : h a (zs.getD 0 0) = h a.toNat k := by rw [hz, Int.toNat_of_nonneg g1]
    have hgo : ∀ v : pV, pm_okv v → pm_fv ad a.toNat (h a.toNat) k (ns.getD 1 0, zs.getD 1 0, ns.getD 2 0) = pm_emb ad sa v → (pm_getf ns zs (i, L, (t2, a) :: st, h)).2 = (i + 1, L, v :: st, h) → pm_Go p l e R s m args below meth c Q ad sa pcs (i, L, (t2, a) :: st, h) H locs ls := by
      intro v hv hfv heq
      rw [heq] at kk
      refine pm_r_stk (i' := i + 1) (st' := v :: st) hr hp hn (fun u hu => (List.mem_cons.mp hu).elim (fun e => e ▸ hv) (fun hu => hr.1 u (List.mem_cons_of_mem _ hu))) (fun hk => ?_) kk
      rw [List.map_cons, pm_emb_ref hR (by omega)]
      rw [List.map_cons, ← hfv] at hk
      exact va_get hx hb hts (pm_uwB hrc) hown hK hr.2.2.2.1 a.toNat hcell hrc k hkN (hts _ hlink) (fun x hx => hx) hfld hd hk
    generalize hkd : ns.getD 1 0 = kd at *
    match kd, hkd with
    | 0, hkd =>
      refine hgo (0, h a.toNat k) (ho.1 (Or.inl rfl)) rfl ?_
      unfold pm_getf
      simp only [hkd, hak]
    | 1, hkd =>
      refine hgo (1, h a.toNat k) (ho.2.1 rfl) rfl ?_
      unfold pm_getf
      simp only [hkd, hak]
    | 2, hkd =>
      refine hgo (0, h a.toNat k) (ho.1 (Or.inr rfl)) rfl ?_
      unfold pm_getf
      simp only [hkd, hak]
    | 3, hkd =>
      obtain ⟨u1, u2, u3⟩ := c3 rfl
      obtain ⟨w1, w2, w3⟩ := u3 a.toNat g2 g3'
      rw [Int.toNat_of_nonneg g1] at w1 w2 w3
      have hRt : pm_isR (ns.getD 2 0) := ⟨u1, by omega⟩
      refine hgo (ns.getD 2 0, a + zs.getD 1 0) (pm_okvR' hRt ⟨w1, w2, w3⟩) ?_ ?_
      · rw [pm_emb_ref hRt (by omega)]
        show Value.ref (ad ((a.toNat : Int) + zs.getD 1 0).toNat) = _
        rw [Int.toNat_of_nonneg g1]
      · unfold pm_getf
        simp only [hkd]
    | kd + 4, hkd =>
      obtain ⟨u1, u2⟩ := c4 (by omega)
      have hRt : pm_isR (ns.getD 2 0) := ⟨by omega, by omega⟩
      refine hgo (ns.getD 2 0, h a.toNat k) (pm_okvR' hRt (ho.2.2 (by show 4 ≤ kd + 4; omega))) ?_ ?_
      · rw [pm_emb_ref hRt (by omega)]
        rfl
      · unfold pm_getf
        simp only [hkd, hak]
theorem pm_r_putf {own idx : Nat} {ns : List Nat} {zs : List Int} (hx : p.tables.exec = Jvm.exec) (hb : c.code = cc) (hts : ∀ w ∈ pm_TB, w.before args s = true) (hown : s.vm.findClass (pm_rn own) = some m.cls) (hK : va_K D vwCl (pm_tys G) s) (hi : pm_inj ad) (hr : pm_Rel D G ad sa n s (i, L, st, h) H locs ls) (hp : pcs.getD i 0 = pc) (hn : pcs.getD (i + 1) 0 = pc + 3) (hd : decode cc pc = .ok (.putfield idx, 3))
    (hF : pm_FL.any (fun t => t.2.1 == idx && t.1 == own && t.2.2.1 == ns.getD 0 0 && ((t.2.2.2.1 : Nat) : Int) == zs.getD 0 0) = true) (hk' : pm_fk (ns.getD 0 0) (zs.getD 0 0).toNat (ns.getD 1 0) (ns.getD 2 0) (zs.getD 1 0) = true) (h3 : ns.getD 1 0 ≠ 3)
    (hfin : (match vwCl[ns.getD 0 0]? with
      | some r => !(r.2.1 (zs.getD 0 0).toNat).2.2.2
      | none => false) = true) (h1 : (pm_putf ns zs (i, L, st, h)).1)
    (kk : ∀ H' locs' ls', pm_Rel D G ad sa n s (pm_putf ns zs (i, L, st, h)).2 H' locs' ls' → pm_Go p l e R s m args below meth c Q ad sa pcs (pm_putf ns zs (i, L, st, h)).2 H' locs' ls') :
    pm_Go p l e R s m args below meth c Q ad sa pcs (i, L, st, h) H locs ls := by
  obtain ⟨k, r, hz, hrc, hkN, hlink⟩ := pm_fl hF
  rw [hz, Int.toNat_natCast] at hk'
  rw [hrc, hz, Int.toNat_natCast] at hfin
  have hfin : (r.2.1 k).2.2.2 = false := by simpa using hfin
  rcases st with _ | ⟨⟨t1, v⟩, _ | ⟨⟨t2, a⟩, st⟩⟩
  · exact h1.elim
  · exact h1.elim
  · obtain ⟨hq, hci, c0, c1, c2, c4, c3⟩ := pm_fkq hrc hkN hk'
    have e2 : t2 = 2 + ns.getD 0 0 := h1.2
    have hav := hr.1 (t2, a) (List.mem_cons_of_mem _ List.mem_cons_self)
    have hvv := hr.1 (t1, v) List.mem_cons_self
    have hR : pm_isR t2 := ⟨by omega, by omega⟩
    obtain ⟨g1, g2, g3⟩ := pm_okvR hav hR (by omega)
    have g3' : pm_lay a.toNat = 2 + ns.getD 0 0 := g3.trans e2
    have hcell : (pm_ws ad G h)[a.toNat]? = some (ad a.toNat, .inr (ns.getD 0 0, pm_fields ad a.toNat (h a.toNat) (ns.getD 0 0))) := by
      rw [pm_ws_get g2, pm_cell_obj hci g3']
    have hlen : k < (pm_fields ad a.toNat (h a.toNat) (ns.getD 0 0)).length := by
      have := pm_fields_get (ad := ad) (i := a.toNat) (f := h a.toNat) hq
      exact (List.getElem?_eq_some_iff.mp this).1
    have hvk : ∀ kd : Nat, ns.getD 1 0 = kd → (match kd with
      | 0 => t1 = 0
      | 1 => t1 = 1
      | 2 => t1 = 0 ∧ (v = 0 ∨ v = 1)
      | 3 => False
      | _ => t1 = ns.getD 2 0) := by
      intro kd hkd
      have := h1.1
      rw [hkd] at this
      exact this
    have hgo : ∀ ty : FieldType, parseFieldDescriptor (r.2.1 k).2.2.1 = some ty → narrow ty (pm_emb ad sa (t1, v)) = pm_emb ad sa (t1, v) → fits ty (pm_emb ad sa (t1, v)) = true →
        (((ns.getD 1 0 = 0 ∨ ns.getD 1 0 = 2) → pm_i32 v) ∧ (ns.getD 1 0 = 1 → pm_i64 v) ∧ (4 ≤ ns.getD 1 0 → 0 ≤ v ∧ v.toNat < 274 ∧ pm_lay v.toNat = ns.getD 2 0)) → pm_fv ad a.toNat (pm_upd h a k v a.toNat) k (ns.getD 1 0, zs.getD 1 0, ns.getD 2 0) = pm_emb ad sa (t1, v) → pm_Go p l e R s m args below meth c Q ad sa pcs (i, L, (t1, v) :: (t2, a) :: st, h) H locs ls := by
      intro ty q1 q2 q3 q4 q5
      have heq : (pm_putf ns zs (i, L, (t1, v) :: (t2, a) :: st, h)).2 = (i + 1, L, st, pm_upd h a k v) := by
        unfold pm_putf
        simp only [hz]
      rw [heq] at kk
      refine pm_r_heap (st' := st) (h' := pm_upd h a k v) hr hp hn (fun u hu => hr.1 u (List.mem_cons_of_mem _ (List.mem_cons_of_mem _ hu))) (pm_hok_fld hr.2.2.1 g1 hci g3' hq q4) (fun hk => ?_) kk
      rw [List.map_cons, List.map_cons, pm_emb_ref hR (by omega)]
      obtain ⟨ty0, hty⟩ := (pm_uw hrc).2.2
      refine va_put hx hb hts (pm_uwB hrc) ty0 hty (pm_uw hrc).2.1 hown hK hr.2.2.2.1 (pm_D hi) hr.2.2.2.2.1 a.toNat hcell hrc k hkN (hts _ hlink) (fun x hx => hx) hfin q1 q2 q3 hlen hd (fun H1 locs1 hP hD' hS => ?_)
      rw [pm_fields_set (f' := pm_upd h a k v a.toNat) hq q5 (fun j hj => pm_upd_ne h (fun z => hj (by omega))), pm_ws_set (h' := pm_upd h a k v) (by rw [pm_cell_obj hci g3']) (pm_updo g1)] at hP
      exact hk H1 locs1 hP hS
    have hu : pm_upd h a k v a.toNat k = v := by rw [Int.toNat_of_nonneg g1, pm_upd_same]
    generalize hkd : ns.getD 1 0 = kd at *
    have hvk' := hvk kd rfl
    match kd, hkd, hvk' with
    | 0, hkd, hvk' =>
      have e1 : t1 = 0 := hvk'
      subst e1
      refine hgo .int (by rw [c0 rfl]; decide +kernel) rfl rfl ⟨fun _ => hvv, by omega, by omega⟩ ?_
      show Value.int (Int32.ofInt (pm_upd h a k v a.toNat k)) = _
      rw [hu]; rfl
    | 1, hkd, hvk' =>
      have e1 : t1 = 1 := hvk'
      subst e1
      refine hgo .long (by rw [c1 rfl]; decide +kernel) rfl rfl ⟨by omega, fun _ => hvv, by omega⟩ ?_
      show Value.long (Int64.ofInt (pm_upd h a k v a.toNat k)) = _
      rw [hu]; rfl
    | 2, hkd, hvk' =>
      obtain ⟨e1, e3⟩ := (show t1 = 0 ∧ (v = 0 ∨ v = 1) from hvk')
      subst e1
      refine hgo .boolean (by rw [c2 rfl]; decide +kernel) (by rw [pm_emb_int]; rcases e3 with rfl | rfl <;> decide +kernel) (by rw [pm_emb_int]; rcases e3 with rfl | rfl <;> decide +kernel) ⟨fun _ => hvv, by omega, by omega⟩ ?_
      show Value.int (Int32.ofInt (pm_upd h a k v a.toNat k)) = _
      rw [hu]; rfl
    | 3, hkd, hvk' => exact absurd rfl h3
    | kd + 4, hkd, hvk' =>
      obtain ⟨u1, u2⟩ := c4 (by omega)
      have e1 : t1 = ns.getD 2 0 := hvk'
      have hRt : pm_isR t1 := ⟨by omega, by omega⟩
      have hvr := pm_okvR hvv hRt (by omega)
      have hem : pm_emb ad sa (t1, v) = .ref (ad v.toNat) := pm_emb_ref hRt (by omega)
      refine hgo (.array .long) (by rw [u1]; decide +kernel) (by rw [hem]; rfl) (by rw [hem]; rfl) ⟨by omega, by omega, fun _ => by rw [← e1]; exact hvr⟩ ?_
      rw [hem]
      show Value.ref (ad (pm_upd h a k v a.toNat k).toNat) = _
      rw [hu]
end PMF
