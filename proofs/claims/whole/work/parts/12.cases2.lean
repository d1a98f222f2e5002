section PMD
variable {p : Program} {l : Launch} {e : Env} {R : Room} {s : State} {m : MethodId} {args : Array Value} {below : List Frame} {meth : Method} {c : Code} {H : Heap} {locs : List Loc} {Q : State → Prop} {D : va_G} {G : pm_G} {ad : Nat → Nat} {sa n : Nat} {pcs : List Nat} {i pc : Nat} {L st : List pV} {h : pH} {ls : Array Slot} {cc : ByteArray}
theorem pm_r_sw {lo hi d : Int} {offs : Array Int} {len : Nat} {tg : List Nat} (hx : p.tables.exec = Jvm.exec) (hb : c.code = cc) (hr : pm_Rel D G ad sa n s (i, L, st, h) H locs ls) (hp : pcs.getD i 0 = pc) (hd : decode cc pc = .ok (.tableswitch d lo hi offs, len))
    (ht : (pc : Int) + d = (pcs.getD (tg.getD 0 0) 0 : Nat)) (hlh : lo ≤ hi) (hlen : offs.toList.length = (hi - lo).toNat + 1) (hmap : offs.toList.map (fun o => (pc : Int) + o) = (tg.drop 1).map (fun t => ((pcs.getD t 0 : Nat) : Int))) (h1 : (pm_sw lo hi tg (i, L, st, h)).1)
    (kk : ∀ H' locs' ls', pm_Rel D G ad sa n s (pm_sw lo hi tg (i, L, st, h)).2 H' locs' ls' → pm_Go p l e R s m args below meth c Q ad sa pcs (pm_sw lo hi tg (i, L, st, h)).2 H' locs' ls') :
    pm_Go p l e R s m args below meth c Q ad sa pcs (i, L, st, h) H locs ls := by
  rcases st with _ | ⟨⟨t1, x⟩, st⟩
  · exact h1.elim
  · have e1 : t1 = 0 := h1
    subst e1
    have hX : pm_i32 x := hr.1 (0, x) List.mem_cons_self
    have hv : ∀ v ∈ st, pm_okv v := fun v hv => hr.1 v (List.mem_cons_of_mem _ hv)
    by_cases hc : x < lo ∨ hi < x
    · have e2 : (pm_sw lo hi tg (i, L, (0, x) :: st, h)).2 = (tg.getD 0 0, L, st, h) := by
        show ((if x < lo ∨ hi < x then tg.getD 0 0 else tg.getD ((x - lo).toNat + 1) 0), L, st, h) = _
        rw [if_pos hc]
      rw [e2] at kk
      refine pm_r_stk (i' := tg.getD 0 0) (st' := st) hr hp rfl hv (fun hk => ?_) kk
      exact lv_tableOut hx hb hd (by rw [pm_toI hX]; exact hc) ht hk
    · have e2 : (pm_sw lo hi tg (i, L, (0, x) :: st, h)).2 = (tg.getD ((x - lo).toNat + 1) 0, L, st, h) := by
        show ((if x < lo ∨ hi < x then tg.getD 0 0 else tg.getD ((x - lo).toNat + 1) 0), L, st, h) = _
        rw [if_neg hc]
      rw [e2] at kk
      refine pm_r_stk (i' := tg.getD ((x - lo).toNat + 1) 0) (st' := st) hr hp rfl hv (fun hk => ?_) kk
      have hj : (x - lo).toNat < offs.toList.length := by rw [hlen]; omega
      have ho : offs[(x - lo).toNat]? = some (offs.toList.getD (x - lo).toNat 0) := by
        rw [← Array.getElem?_toList]
        exact pm_getD_some hj
      have hm := congrArg (fun l => l[(x - lo).toNat]?) hmap
      simp only [List.getElem?_map, List.getElem?_drop] at hm
      rw [pm_getD_some (d := 0) hj] at hm
      cases ht2 : tg[1 + (x - lo).toNat]? with
      | none => rw [ht2] at hm; cases hm
      | some t =>
        rw [ht2] at hm
        have e3 : tg.getD ((x - lo).toNat + 1) 0 = t := by
          rw [List.getD_eq_getElem?_getD, Nat.add_comm, ht2]; rfl
        rw [e3] at hk
        exact lv_tableIn hx hb hd (by rw [pm_toI hX]; omega) (by rw [pm_toI hX]; omega) (by rw [pm_toI hX]; exact ho) (Option.some.inj hm) hk
theorem pm_look_off {pc : Nat} {pcs : List Nat} (x : Int) : ∀ (ps : List (Int × Int)) (ts : List (Int × Nat)) (d : Int) (t0 : Nat), (pc : Int) + d = (pcs.getD t0 0 : Nat) → ps.map (fun o => (o.1, (pc : Int) + o.2)) = ts.map (fun t => (t.1, ((pcs.getD t.2 0 : Nat) : Int))) → (pc : Int) + Op.lookupswitch.offset ps d x = (pcs.getD (pm_look ts t0 x) 0 : Nat) := by
  intro ps
  induction ps with
  | nil =>
    intro ts d t0 h0 hm
    cases ts with
    | nil => exact h0
    | cons t ts => simp at hm
  | cons o ps ih =>
    intro ts d t0 h0 hm
    cases ts with
    | nil => simp at hm
    | cons t ts =>
      simp only [List.map_cons, List.cons.injEq, Prod.mk.injEq] at hm
      obtain ⟨⟨h1, h2⟩, h3⟩ := hm
      have hrec := ih ts d t0 h0 h3
      unfold pm_look
      by_cases hx : x = t.1
      · rw [if_pos hx]
        rw [show Op.lookupswitch.offset (o :: ps) d x = o.2 by simp [Op.lookupswitch.offset, h1, hx]]
        exact h2
      · rw [if_neg hx]
        rw [show Op.lookupswitch.offset (o :: ps) d x = Op.lookupswitch.offset ps d x by simp [Op.lookupswitch.offset, h1, hx, Ne.symm hx]]
        exact hrec
theorem pm_r_lsw {d : Int} {ps : Array (Int × Int)} {len : Nat} {tg : List Nat} {ks : List Int} (hx : p.tables.exec = Jvm.exec) (hb : c.code = cc) (hr : pm_Rel D G ad sa n s (i, L, st, h) H locs ls) (hp : pcs.getD i 0 = pc) (hd : decode cc pc = .ok (.lookupswitch d ps, len))
    (ht : (pc : Int) + d = (pcs.getD (tg.getD 0 0) 0 : Nat)) (hsort : (ps.toList.zip (ps.toList.drop 1)).all (fun (a, next) => a.1 < next.1) = true) (hmap : ps.toList.map (fun o => (o.1, (pc : Int) + o.2)) = (ks.zip (tg.drop 1)).map (fun t => (t.1, ((pcs.getD t.2 0 : Nat) : Int)))) (h1 : (pm_lsw tg ks (i, L, st, h)).1)
    (kk : ∀ H' locs' ls', pm_Rel D G ad sa n s (pm_lsw tg ks (i, L, st, h)).2 H' locs' ls' → pm_Go p l e R s m args below meth c Q ad sa pcs (pm_lsw tg ks (i, L, st, h)).2 H' locs' ls') :
    pm_Go p l e R s m args below meth c Q ad sa pcs (i, L, st, h) H locs ls := by
  rcases st with _ | ⟨⟨t1, x⟩, st⟩
  · exact h1.elim
  · have e1 : t1 = 0 := h1
    subst e1
    have hX : pm_i32 x := hr.1 (0, x) List.mem_cons_self
    have hv : ∀ v ∈ st, pm_okv v := fun v hv => hr.1 v (List.mem_cons_of_mem _ hv)
    refine pm_r_stk (i' := pm_look (ks.zip (tg.drop 1)) (tg.getD 0 0) x) (st' := st) hr hp rfl hv (fun hk => ?_) kk
    exact lv_lookup hx hb hd hsort rfl (by rw [pm_toI hX]; exact pm_look_off x _ _ _ _ ht hmap) hk
/-- array reads -/
theorem pm_arr {kind t : Nat} {a : Int} (h : pm_isA kind t) (ha : pm_okv (t, a)) : 0 ≤ a ∧ a.toNat < 274 ∧ 1000 ≤ pm_lay a.toNat ∧ (pm_lay a.toNat - 1000) % 4 = kind ∧ pm_len t = ((pm_lay a.toNat - 1000) / 4 : Nat) ∧ pm_lay a.toNat = t := by
  obtain ⟨h1, h2, h3⟩ := h
  obtain ⟨g1, g2, g3⟩ := pm_okvR ha ⟨by omega, by omega⟩ (by omega)
  rw [g3]
  exact ⟨g1, g2, h1, h2, rfl, rfl⟩
theorem pm_len_small {i : Nat} (hi : i < 274) : (pm_lay i - 1000) / 4 < 2147483648 := by
  have h : ∀ q ∈ pm_lays, q < 900000 := by decide +kernel
  have := h _ (List.mem_of_getElem? (pm_getD_some (l := pm_lays) (d := 0) (i := i) (by rw [pm_lays_len]; exact hi)))
  have e : pm_lays.getD i 0 = pm_lay i := rfl
  omega
theorem pm_r_ald {kind t' : Nat} (hr : pm_Rel D G ad sa n s (i, L, st, h) H locs ls) (hp : pcs.getD i 0 = pc) {w : Nat} (hn : pcs.getD (i + 1) 0 = pc + w) (h1 : (pm_ald kind t' (i, L, st, h)).1)
    (hok : ∀ (a x : Int), 0 ≤ a → a.toNat < 274 → 1000 ≤ pm_lay a.toNat → (pm_lay a.toNat - 1000) % 4 = kind → 0 ≤ x → pm_okv (t', h a x))
    (row : ∀ (a x : Int) (rest : List Value), 0 ≤ a → a.toNat < 274 → 1000 ≤ pm_lay a.toNat → (pm_lay a.toNat - 1000) % 4 = kind → 0 ≤ x → vp_in (Int32.ofInt x) ((pm_lay a.toNat - 1000) / 4) → (Int32.ofInt x).toNatClampNeg = x.toNat → W p l e R s m args below meth c H locs 0 0 Q (F0 m (pc + w) ls (pm_emb ad sa (t', h a x) :: rest)) → W p l e R s m args below meth c H locs 0 0 Q (F0 m pc ls (.int (Int32.ofInt x) :: .ref (ad a.toNat) :: rest)))
    (kk : ∀ H' locs' ls', pm_Rel D G ad sa n s (pm_ald kind t' (i, L, st, h)).2 H' locs' ls' → pm_Go p l e R s m args below meth c Q ad sa pcs (pm_ald kind t' (i, L, st, h)).2 H' locs' ls') :
    pm_Go p l e R s m args below meth c Q ad sa pcs (i, L, st, h) H locs ls := by
  rcases st with _ | ⟨⟨t1, x⟩, _ | ⟨⟨t2, a⟩, st⟩⟩
  · exact h1.elim
  · exact h1.elim
  · obtain ⟨e1, hA, hx0, hx1⟩ := (show t1 = 0 ∧ pm_isA kind t2 ∧ 0 ≤ x ∧ x < pm_len t2 from h1)
    subst e1
    have hX : pm_i32 x := hr.1 (0, x) List.mem_cons_self
    have hav := hr.1 (t2, a) (List.mem_cons_of_mem _ List.mem_cons_self)
    obtain ⟨g1, g2, g3, g4, g5, g6⟩ := pm_arr hA hav
    rw [g5] at hx1
    refine pm_r_stk (i' := i + 1) (st' := (t', h a x) :: st) hr hp hn (fun v hv => (List.mem_cons.mp hv).elim (fun e => e ▸ hok a x g1 g2 g3 g4 hx0) (fun hv => hr.1 v (List.mem_cons_of_mem _ (List.mem_cons_of_mem _ hv)))) (fun hk => ?_) kk
    rw [List.map_cons, List.map_cons, pm_emb_ref (t := t2) ⟨by have := hA.1; omega, by have := hA.2.2; omega⟩ (by have := hA.2.2; omega)]
    exact row a x _ g1 g2 g3 g4 hx0 (pm_vpin hX hx0 hx1) (pm_clamp hX) hk
theorem pm_r_iald (hx : p.tables.exec = Jvm.exec) (hb : c.code = cc) (hK : va_K D vwCl (pm_tys G) s) (hr : pm_Rel D G ad sa n s (i, L, st, h) H locs ls) (hp : pcs.getD i 0 = pc) (hn : pcs.getD (i + 1) 0 = pc + 1) (hd : decode cc pc = .ok (.iaload, 1)) (h1 : (pm_ald 0 0 (i, L, st, h)).1)
    (kk : ∀ H' locs' ls', pm_Rel D G ad sa n s (pm_ald 0 0 (i, L, st, h)).2 H' locs' ls' → pm_Go p l e R s m args below meth c Q ad sa pcs (pm_ald 0 0 (i, L, st, h)).2 H' locs' ls') :
    pm_Go p l e R s m args below meth c Q ad sa pcs (i, L, st, h) H locs ls := by
  refine pm_r_ald hr hp hn h1 (fun a x g1 g2 g3 g4 hx0 => ?_) (fun a x rest g1 g2 g3 g4 hx0 hv hcl hk => ?_) kk
  · have := (hr.2.2.1 a.toNat g2).1 g3 (Or.inl g4) x.toNat
    rwa [Int.toNat_of_nonneg g1, Int.toNat_of_nonneg hx0] at this
  · refine va_iald hx hb hK hr.2.2.2.1 a.toNat 0 (by rw [pm_ws_get g2, pm_cell_i g3 g4]) rfl hv hd ?_
    rw [hcl]
    rw [pm_emb_int] at hk
    show W p l e R s m args below meth c H locs 0 0 Q (F0 m (pc + 1) ls (.int (Int32.ofInt (h a.toNat x.toNat)) :: rest))
    rw [Int.toNat_of_nonneg g1, Int.toNat_of_nonneg hx0]
    exact hk
theorem pm_r_zald (hx : p.tables.exec = Jvm.exec) (hb : c.code = cc) (hK : va_K D vwCl (pm_tys G) s) (hr : pm_Rel D G ad sa n s (i, L, st, h) H locs ls) (hp : pcs.getD i 0 = pc) (hn : pcs.getD (i + 1) 0 = pc + 1) (hd : decode cc pc = .ok (.baload, 1)) (h1 : (pm_ald 2 0 (i, L, st, h)).1)
    (kk : ∀ H' locs' ls', pm_Rel D G ad sa n s (pm_ald 2 0 (i, L, st, h)).2 H' locs' ls' → pm_Go p l e R s m args below meth c Q ad sa pcs (pm_ald 2 0 (i, L, st, h)).2 H' locs' ls') :
    pm_Go p l e R s m args below meth c Q ad sa pcs (i, L, st, h) H locs ls := by
  refine pm_r_ald hr hp hn h1 (fun a x g1 g2 g3 g4 hx0 => ?_) (fun a x rest g1 g2 g3 g4 hx0 hv hcl hk => ?_) kk
  · have := (hr.2.2.1 a.toNat g2).1 g3 (Or.inr g4) x.toNat
    rwa [Int.toNat_of_nonneg g1, Int.toNat_of_nonneg hx0] at this
  · refine va_zald hx hb hK hr.2.2.2.1 a.toNat 2 (by rw [pm_ws_get g2, pm_cell_z g3 g4]) rfl hv hd ?_
    rw [hcl]
    rw [pm_emb_int] at hk
    show W p l e R s m args below meth c H locs 0 0 Q (F0 m (pc + 1) ls (.int (Int32.ofInt (h a.toNat x.toNat)) :: rest))
    rw [Int.toNat_of_nonneg g1, Int.toNat_of_nonneg hx0]
    exact hk
theorem pm_r_lald (hx : p.tables.exec = Jvm.exec) (hb : c.code = cc) (hK : va_K D vwCl (pm_tys G) s) (hr : pm_Rel D G ad sa n s (i, L, st, h) H locs ls) (hp : pcs.getD i 0 = pc) (hn : pcs.getD (i + 1) 0 = pc + 1) (hd : decode cc pc = .ok (.laload, 1)) (h1 : (pm_ald 1 1 (i, L, st, h)).1)
    (kk : ∀ H' locs' ls', pm_Rel D G ad sa n s (pm_ald 1 1 (i, L, st, h)).2 H' locs' ls' → pm_Go p l e R s m args below meth c Q ad sa pcs (pm_ald 1 1 (i, L, st, h)).2 H' locs' ls') :
    pm_Go p l e R s m args below meth c Q ad sa pcs (i, L, st, h) H locs ls := by
  refine pm_r_ald hr hp hn h1 (fun a x g1 g2 g3 g4 hx0 => ?_) (fun a x rest g1 g2 g3 g4 hx0 hv hcl hk => ?_) kk
  · have := (hr.2.2.1 a.toNat g2).2.1 g3 g4 x.toNat
    rwa [Int.toNat_of_nonneg g1, Int.toNat_of_nonneg hx0] at this
  · refine va_lald hx hb hK hr.2.2.2.1 a.toNat 1 (by rw [pm_ws_get g2, pm_cell_l g3 g4]) rfl hv hd ?_
    rw [hcl]
    rw [pm_emb_long] at hk
    show W p l e R s m args below meth c H locs 0 0 Q (F0 m (pc + 1) ls (.long (Int64.ofInt (h a.toNat x.toNat)) :: rest))
    rw [Int.toNat_of_nonneg g1, Int.toNat_of_nonneg hx0]
    exact hk
theorem pm_only3 {i : Nat} (hi : i < 274) (h1 : 1000 ≤ pm_lay i) (h2 : (pm_lay i - 1000) % 4 = 3) : (pm_lay i - 1000) / 4 = 2 := by
  have h : ∀ q ∈ pm_lays, 1000 ≤ q → (q - 1000) % 4 = 3 → (q - 1000) / 4 = 2 := by decide +kernel
  exact h _ (List.mem_of_getElem? (pm_getD_some (l := pm_lays) (d := 0) (i := i) (by rw [pm_lays_len]; exact hi))) h1 h2
theorem pm_r_aald (hx : p.tables.exec = Jvm.exec) (hb : c.code = cc) (hK : va_K D vwCl (pm_tys G) s) (hr : pm_Rel D G ad sa n s (i, L, st, h) H locs ls) (hp : pcs.getD i 0 = pc) (hn : pcs.getD (i + 1) 0 = pc + 1) (hd : decode cc pc = .ok (.aaload, 1)) (h1 : (pm_aldR (i, L, st, h)).1)
    (kk : ∀ H' locs' ls', pm_Rel D G ad sa n s (pm_aldR (i, L, st, h)).2 H' locs' ls' → pm_Go p l e R s m args below meth c Q ad sa pcs (pm_aldR (i, L, st, h)).2 H' locs' ls') :
    pm_Go p l e R s m args below meth c Q ad sa pcs (i, L, st, h) H locs ls := by
  rcases st with _ | ⟨⟨t1, x⟩, _ | ⟨⟨t2, a⟩, st⟩⟩
  · exact h1.elim
  · exact h1.elim
  · obtain ⟨e1, hA, hx0, hx1⟩ := (show t1 = 0 ∧ pm_isA 3 t2 ∧ 0 ≤ x ∧ x < pm_len t2 from h1)
    subst e1
    have hX : pm_i32 x := hr.1 (0, x) List.mem_cons_self
    have hav := hr.1 (t2, a) (List.mem_cons_of_mem _ List.mem_cons_self)
    obtain ⟨g1, g2, g3, g4, g5, g6⟩ := pm_arr hA hav
    rw [g5] at hx1
    have h2 := pm_only3 g2 g3 g4
    have hx2 : x = 0 ∨ x = 1 := by rw [h2] at hx1; omega
    have hok : pm_okv (6, 156 + 46 * x) := by
      refine pm_okvR' ⟨by decide, by decide⟩ ?_
      rcases hx2 with rfl | rfl <;> decide +kernel
    refine pm_r_stk (i' := i + 1) (st' := (6, 156 + 46 * x) :: st) hr hp hn (fun v hv => (List.mem_cons.mp hv).elim (fun e => e ▸ hok) (fun hv => hr.1 v (List.mem_cons_of_mem _ (List.mem_cons_of_mem _ hv)))) (fun hk => ?_) kk
    rw [List.map_cons, List.map_cons, pm_emb_ref (t := t2) ⟨by have := hA.1; omega, by have := hA.2.2; omega⟩ (by have := hA.2.2; omega)]
    refine va_aldq hx hb hK hr.2.2.2.1 a.toNat 3 (C := "HotHall$Hall") (by rw [pm_ws_get g2, pm_cell_r g3 g4]) rfl (pm_vpin hX hx0 hx1) hd ?_
    rw [pm_clamp hX]
    rw [List.map_cons, pm_emb_ref ⟨by decide, by decide⟩ (by decide)] at hk
    rw [show (156 + 46 * x).toNat = 156 + 46 * x.toNat by omega] at hk
    exact hk
end PMD
