theorem pm_upd_same (h : pH) (a k v : Int) : pm_upd h a k v a k = v := by unfold pm_upd; rw [if_pos ⟨rfl, rfl⟩]
theorem pm_upd_ne (h : pH) {a k v a' k' : Int} (hn : ¬ (a' = a ∧ k' = k)) : pm_upd h a k v a' k' = h a' k' := by unfold pm_upd; rw [if_neg hn]
theorem pm_hok_arr {h : pH} {a x v : Int} (hh : pm_hok h) (g1 : 0 ≤ a) (g3 : 1000 ≤ pm_lay a.toNat) (h0 : (pm_lay a.toNat - 1000) % 4 = 0 ∨ (pm_lay a.toNat - 1000) % 4 = 2 → pm_i32 v) (h1 : (pm_lay a.toNat - 1000) % 4 = 1 → pm_i64 v) : pm_hok (pm_upd h a x v) := by
  intro j hj
  obtain ⟨q1, q2, q3⟩ := hh j hj
  by_cases hja : (j : Int) = a
  · have e : j = a.toNat := by omega
    refine ⟨fun u1 u2 k => ?_, fun u1 u2 k => ?_, fun u1 => ?_⟩
    · by_cases hk : (k : Int) = x
      · rw [hja, hk, pm_upd_same]; rw [e] at u2; exact h0 u2
      · rw [pm_upd_ne h (fun z => hk z.2)]; exact q1 u1 u2 k
    · by_cases hk : (k : Int) = x
      · rw [hja, hk, pm_upd_same]; rw [e] at u2; exact h1 u2
      · rw [pm_upd_ne h (fun z => hk z.2)]; exact q2 u1 u2 k
    · rw [e] at u1; omega
  · have e : ∀ k : Int, pm_upd h a x v j k = h j k := fun k => pm_upd_ne h (fun z => hja z.1)
    refine ⟨fun u1 u2 k => by rw [e]; exact q1 u1 u2 k, fun u1 u2 k => by rw [e]; exact q2 u1 u2 k, fun u1 k q hq => by rw [e]; exact q3 u1 k q hq⟩
theorem pm_hok_fld {h : pH} {a v : Int} {k ci : Nat} {q : Nat × Int × Nat} (hh : pm_hok h) (g1 : 0 ≤ a) (hci : ci < 13) (g3 : pm_lay a.toNat = 2 + ci) (hq : (pm_fks.getD ci [])[k]? = some q) (hv : ((q.1 = 0 ∨ q.1 = 2) → pm_i32 v) ∧ (q.1 = 1 → pm_i64 v) ∧ (4 ≤ q.1 → 0 ≤ v ∧ v.toNat < 274 ∧ pm_lay v.toNat = q.2.2)) : pm_hok (pm_upd h a k v) := by
  intro j hj
  obtain ⟨q1, q2, q3⟩ := hh j hj
  by_cases hja : (j : Int) = a
  · have e : j = a.toNat := by omega
    refine ⟨fun u1 => by rw [e] at u1; omega, fun u1 => by rw [e] at u1; omega, fun u1 k' q' hq' => ?_⟩
    by_cases hk : k' = k
    · subst hk
      rw [e, g3, show 2 + ci - 2 = ci by omega, hq] at hq'
      cases hq'
      rw [hja, pm_upd_same]
      exact hv
    · rw [pm_upd_ne h (fun z => hk (by omega))]
      exact q3 u1 k' q' hq'
  · have e : ∀ k' : Int, pm_upd h a k v j k' = h j k' := fun k' => pm_upd_ne h (fun z => hja z.1)
    refine ⟨fun u1 u2 k' => by rw [e]; exact q1 u1 u2 k', fun u1 u2 k' => by rw [e]; exact q2 u1 u2 k', fun u1 k' q' hq' => by rw [e]; exact q3 u1 k' q' hq'⟩
theorem pm_nar01 {v : Int} (h : v = 0 ∨ v = 1) : vp_nar .boolean (Int32.ofInt v) = Int32.ofInt v := by rcases h with rfl | rfl <;> decide +kernel
section PME
variable {p : Program} {l : Launch} {e : Env} {R : Room} {s : State} {m : MethodId} {args : Array Value} {below : List Frame} {meth : Method} {c : Code} {H : Heap} {locs : List Loc} {Q : State → Prop} {D : va_G} {G : pm_G} {ad : Nat → Nat} {sa n : Nat} {pcs : List Nat} {i pc : Nat} {L st : List pV} {h : pH} {ls : Array Slot} {cc : ByteArray}
theorem pm_r_ast {kind t : Nat} (hr : pm_Rel D G ad sa n s (i, L, st, h) H locs ls) (hp : pcs.getD i 0 = pc) {w : Nat} (hn : pcs.getD (i + 1) 0 = pc + w) (h1 : (pm_ast kind t (i, L, st, h)).1)
    (hkt : (kind = 0 ∧ t = 0) ∨ (kind = 1 ∧ t = 1) ∨ (kind = 2 ∧ t = 0))
    (row : ∀ (a x v : Int) (rest : List Value), 0 ≤ a → a.toNat < 274 → 1000 ≤ pm_lay a.toNat → (pm_lay a.toNat - 1000) % 4 = kind → 0 ≤ x → vp_in (Int32.ofInt x) ((pm_lay a.toNat - 1000) / 4) → (Int32.ofInt x).toNatClampNeg = x.toNat → (kind = 2 → v = 0 ∨ v = 1) → (∀ (H1 : Heap) (locs1 : List Loc), va_P D vwCl (pm_ws ad G (pm_upd h a x v)) H1 → va_S (pm_A ad s.heap.size) s.heap H1 locs1 → W p l e R s m args below meth c H1 locs1 0 0 Q (F0 m (pc + w) ls rest)) → W p l e R s m args below meth c H locs 0 0 Q (F0 m pc ls (pm_emb ad sa (t, v) :: .int (Int32.ofInt x) :: .ref (ad a.toNat) :: rest)))
    (kk : ∀ H' locs' ls', pm_Rel D G ad sa n s (pm_ast kind t (i, L, st, h)).2 H' locs' ls' → pm_Go p l e R s m args below meth c Q ad sa pcs (pm_ast kind t (i, L, st, h)).2 H' locs' ls') :
    pm_Go p l e R s m args below meth c Q ad sa pcs (i, L, st, h) H locs ls := by
  rcases st with _ | ⟨⟨t0, v⟩, _ | ⟨⟨t1, x⟩, _ | ⟨⟨t2, a⟩, st⟩⟩⟩
  · exact h1.elim
  · exact h1.elim
  · exact h1.elim
  · obtain ⟨e0, e1, hA, hx0, hx1, hb2⟩ := (show t0 = t ∧ t1 = 0 ∧ pm_isA kind t2 ∧ 0 ≤ x ∧ x < pm_len t2 ∧ (kind = 2 → v = 0 ∨ v = 1) from h1)
    subst e0; subst e1
    have hV := hr.1 (t0, v) List.mem_cons_self
    have hX : pm_i32 x := hr.1 (0, x) (List.mem_cons_of_mem _ List.mem_cons_self)
    have hav := hr.1 (t2, a) (List.mem_cons_of_mem _ (List.mem_cons_of_mem _ List.mem_cons_self))
    obtain ⟨g1, g2, g3, g4, g5, g6⟩ := pm_arr hA hav
    rw [g5] at hx1
    have hh : pm_hok (pm_upd h a x v) := by
      refine pm_hok_arr hr.2.2.1 g1 g3 (fun u => ?_) (fun u => ?_)
      · rcases hkt with ⟨k1, k2⟩ | ⟨k1, k2⟩ | ⟨k1, k2⟩
        · subst k2; exact hV
        · omega
        · subst k2; exact hV
      · rcases hkt with ⟨k1, k2⟩ | ⟨k1, k2⟩ | ⟨k1, k2⟩
        · omega
        · subst k2; exact hV
        · omega
    refine pm_r_heap (st' := st) (h' := pm_upd h a x v) hr hp hn (fun u hu => hr.1 u (List.mem_cons_of_mem _ (List.mem_cons_of_mem _ (List.mem_cons_of_mem _ hu)))) hh (fun hk => ?_) kk
    rw [List.map_cons, List.map_cons, List.map_cons, pm_emb_ref (t := t2) ⟨by have := hA.1; omega, by have := hA.2.2; omega⟩ (by have := hA.2.2; omega)]
    exact row a x v _ g1 g2 g3 g4 hx0 (pm_vpin hX hx0 hx1) (pm_clamp hX) hb2 hk
theorem pm_updf {a x v : Int} {h : pH} (g1 : 0 ≤ a) (hx0 : 0 ≤ x) : (fun j : Nat => Int32.ofInt (pm_upd h a x v a.toNat j)) = upd (fun j : Nat => Int32.ofInt (h a.toNat j)) x.toNat (Int32.ofInt v) := by
  funext j
  unfold upd
  by_cases hj : j = x.toNat
  · rw [if_pos hj, Int.toNat_of_nonneg g1, hj, Int.toNat_of_nonneg hx0, pm_upd_same]
  · rw [if_neg hj, pm_upd_ne h (fun z => hj (by omega))]
theorem pm_updfL {a x v : Int} {h : pH} (g1 : 0 ≤ a) (hx0 : 0 ≤ x) : (fun j : Nat => Int64.ofInt (pm_upd h a x v a.toNat j)) = vp_updL (fun j : Nat => Int64.ofInt (h a.toNat j)) x.toNat (Int64.ofInt v) := by
  funext j
  unfold vp_updL
  by_cases hj : j = x.toNat
  · rw [if_pos hj, Int.toNat_of_nonneg g1, hj, Int.toNat_of_nonneg hx0, pm_upd_same]
  · rw [if_neg hj, pm_upd_ne h (fun z => hj (by omega))]
theorem pm_updo {a x v : Int} {h : pH} (g1 : 0 ≤ a) : ∀ j : Nat, j < 274 → j ≠ a.toNat → pm_upd h a x v j = h j := by
  intro j _ hj
  funext k
  exact pm_upd_ne h (fun z => hj (by omega))
theorem pm_r_iast (hx : p.tables.exec = Jvm.exec) (hb : c.code = cc) (hK : va_K D vwCl (pm_tys G) s) (hi : pm_inj ad) (hr : pm_Rel D G ad sa n s (i, L, st, h) H locs ls) (hp : pcs.getD i 0 = pc) (hn : pcs.getD (i + 1) 0 = pc + 1) (hd : decode cc pc = .ok (.iastore, 1)) (h1 : (pm_ast 0 0 (i, L, st, h)).1)
    (kk : ∀ H' locs' ls', pm_Rel D G ad sa n s (pm_ast 0 0 (i, L, st, h)).2 H' locs' ls' → pm_Go p l e R s m args below meth c Q ad sa pcs (pm_ast 0 0 (i, L, st, h)).2 H' locs' ls') :
    pm_Go p l e R s m args below meth c Q ad sa pcs (i, L, st, h) H locs ls := by
  refine pm_r_ast hr hp hn h1 (Or.inl ⟨rfl, rfl⟩) (fun a x v rest g1 g2 g3 g4 hx0 hv hcl _ hk => ?_) kk
  refine va_iast hx hb hK hr.2.2.2.1 (pm_D hi) hr.2.2.2.2.1 a.toNat 0 (by rw [pm_ws_get g2, pm_cell_i g3 g4]) rfl hv hd (fun H1 locs1 hP hD' hS => ?_)
  rw [hcl, pm_ws_set (h' := pm_upd h a x v) (by rw [pm_cell_i g3 g4, pm_updf g1 hx0]) (pm_updo g1)] at hP
  exact hk H1 locs1 hP hS
theorem pm_r_zast (hx : p.tables.exec = Jvm.exec) (hb : c.code = cc) (hK : va_K D vwCl (pm_tys G) s) (hi : pm_inj ad) (hr : pm_Rel D G ad sa n s (i, L, st, h) H locs ls) (hp : pcs.getD i 0 = pc) (hn : pcs.getD (i + 1) 0 = pc + 1) (hd : decode cc pc = .ok (.bastore, 1)) (h1 : (pm_ast 2 0 (i, L, st, h)).1)
    (kk : ∀ H' locs' ls', pm_Rel D G ad sa n s (pm_ast 2 0 (i, L, st, h)).2 H' locs' ls' → pm_Go p l e R s m args below meth c Q ad sa pcs (pm_ast 2 0 (i, L, st, h)).2 H' locs' ls') :
    pm_Go p l e R s m args below meth c Q ad sa pcs (i, L, st, h) H locs ls := by
  refine pm_r_ast hr hp hn h1 (Or.inr (Or.inr ⟨rfl, rfl⟩)) (fun a x v rest g1 g2 g3 g4 hx0 hv hcl hz hk => ?_) kk
  refine va_zast hx hb hK hr.2.2.2.1 (pm_D hi) hr.2.2.2.2.1 a.toNat 2 (by rw [pm_ws_get g2, pm_cell_z g3 g4]) rfl hv hd (fun H1 locs1 hP hD' hS => ?_)
  rw [hcl, pm_nar01 (hz rfl), pm_ws_set (h' := pm_upd h a x v) (by rw [pm_cell_z g3 g4, pm_updf g1 hx0]) (pm_updo g1)] at hP
  exact hk H1 locs1 hP hS
theorem pm_r_last (hx : p.tables.exec = Jvm.exec) (hb : c.code = cc) (hK : va_K D vwCl (pm_tys G) s) (hi : pm_inj ad) (hr : pm_Rel D G ad sa n s (i, L, st, h) H locs ls) (hp : pcs.getD i 0 = pc) (hn : pcs.getD (i + 1) 0 = pc + 1) (hd : decode cc pc = .ok (.lastore, 1)) (h1 : (pm_ast 1 1 (i, L, st, h)).1)
    (kk : ∀ H' locs' ls', pm_Rel D G ad sa n s (pm_ast 1 1 (i, L, st, h)).2 H' locs' ls' → pm_Go p l e R s m args below meth c Q ad sa pcs (pm_ast 1 1 (i, L, st, h)).2 H' locs' ls') :
    pm_Go p l e R s m args below meth c Q ad sa pcs (i, L, st, h) H locs ls := by
  refine pm_r_ast hr hp hn h1 (Or.inr (Or.inl ⟨rfl, rfl⟩)) (fun a x v rest g1 g2 g3 g4 hx0 hv hcl _ hk => ?_) kk
  refine va_last hx hb hK hr.2.2.2.1 (pm_D hi) hr.2.2.2.2.1 a.toNat 1 (by rw [pm_ws_get g2, pm_cell_l g3 g4]) rfl hv hd (fun H1 locs1 hP hD' hS => ?_)
  rw [hcl, pm_ws_set (h' := pm_upd h a x v) (by rw [pm_cell_l g3 g4, pm_updfL g1 hx0]) (pm_updo g1)] at hP
  exact hk H1 locs1 hP hS
/-- a reference to an array, as a cell of some kind -/
theorem pm_anyarr {i : Nat} {f : Int → Int} (g3 : 1000 ≤ pm_lay i) : ∃ (cA : ClassId) (y : vp_A) (t0 : Nat) (ty : FieldType), pm_cell ad G i f = .inl (cA, y) ∧ y.1 = (pm_lay i - 1000) / 4 ∧ (pm_tys G)[t0]? = some (cA, ty) := by
  have h4 : (pm_lay i - 1000) % 4 < 4 := Nat.mod_lt _ (by decide)
  rcases (show (pm_lay i - 1000) % 4 = 0 ∨ (pm_lay i - 1000) % 4 = 1 ∨ (pm_lay i - 1000) % 4 = 2 ∨ (pm_lay i - 1000) % 4 = 3 by omega) with q | q | q | q
  · exact ⟨_, _, 0, _, pm_cell_i g3 q, rfl, rfl⟩
  · exact ⟨_, _, 1, _, pm_cell_l g3 q, rfl, rfl⟩
  · exact ⟨_, _, 2, _, pm_cell_z g3 q, rfl, rfl⟩
  · exact ⟨_, _, 3, _, pm_cell_r g3 q, rfl, rfl⟩
theorem pm_r_alen (hx : p.tables.exec = Jvm.exec) (hb : c.code = cc) (hK : va_K D vwCl (pm_tys G) s) (hr : pm_Rel D G ad sa n s (i, L, st, h) H locs ls) (hp : pcs.getD i 0 = pc) (hn : pcs.getD (i + 1) 0 = pc + 1) (hd : decode cc pc = .ok (.arraylength, 1)) (h1 : (pm_alen (i, L, st, h)).1)
    (kk : ∀ H' locs' ls', pm_Rel D G ad sa n s (pm_alen (i, L, st, h)).2 H' locs' ls' → pm_Go p l e R s m args below meth c Q ad sa pcs (pm_alen (i, L, st, h)).2 H' locs' ls') :
    pm_Go p l e R s m args below meth c Q ad sa pcs (i, L, st, h) H locs ls := by
  rcases st with _ | ⟨⟨t2, a⟩, st⟩
  · exact h1.elim
  · have hA := (show 1000 ≤ t2 ∧ t2 < 900000 from h1)
    have hav := hr.1 (t2, a) List.mem_cons_self
    have hR : pm_isR t2 := ⟨by omega, by omega⟩
    obtain ⟨g1, g2, g3⟩ := pm_okvR hav hR (by omega)
    have hlen : pm_i32 (pm_len t2) := by
      unfold pm_len pm_i32
      omega
    refine pm_r_stk (i' := i + 1) (st' := (0, pm_len t2) :: st) hr hp hn (fun v hv => (List.mem_cons.mp hv).elim (fun e => e ▸ hlen) (fun hv => hr.1 v (List.mem_cons_of_mem _ hv))) (fun hk => ?_) kk
    rw [List.map_cons, pm_emb_ref hR (by omega)]
    obtain ⟨cA, y, t0, ty, e1, e2, e3⟩ := pm_anyarr (ad := ad) (G := G) (i := a.toNat) (f := h a.toNat) (by omega)
    refine va_alen hx hb hK hr.2.2.2.1 a.toNat t0 (by rw [pm_ws_get g2, e1]) e3 (v := Int32.ofInt (pm_len t2)) ?_ hd hk
    rw [e2, g3]
    rfl
end PME
