section PMC
variable {p : Program} {l : Launch} {e : Env} {R : Room} {s : State} {m : MethodId} {args : Array Value} {below : List Frame} {meth : Method} {c : Code} {H : Heap} {locs : List Loc} {Q : State → Prop} {D : va_G} {G : pm_G} {ad : Nat → Nat} {sa n : Nat} {pcs : List Nat} {i pc : Nat} {L st : List pV} {h : pH} {ls : Array Slot} {cc : ByteArray}
theorem pm_okv0 {x : Int} : pm_okv (0, x) ↔ pm_i32 x := Iff.rfl
theorem pm_okv1 {x : Int} : pm_okv (1, x) ↔ pm_i64 x := Iff.rfl
theorem pm_okvR {t : Nat} {x : Int} (h : pm_okv (t, x)) (h0 : pm_isR t) (h4 : t ≠ 4000000) : 0 ≤ x ∧ x.toNat < 274 ∧ pm_lay x.toNat = t := by
  obtain ⟨h1, h2⟩ := h0
  unfold pm_okv at h
  rwa [if_neg (show ¬ t = 0 by omega), if_neg (show ¬ t = 1 by omega), if_neg h4] at h
theorem pm_okvR' {t : Nat} {x : Int} (h0 : pm_isR t) (h : 0 ≤ x ∧ x.toNat < 274 ∧ pm_lay x.toNat = t) : pm_okv (t, x) := by
  obtain ⟨h1, h2⟩ := h0
  unfold pm_okv
  rw [if_neg (show ¬ t = 0 by omega), if_neg (show ¬ t = 1 by omega)]
  split
  · trivial
  · exact h
/-- two operands to one -/
theorem pm_r_bin {ty tx t' : Nat} {f : Int → Int → Int} (hr : pm_Rel D G ad sa n s (i, L, st, h) H locs ls) (hp : pcs.getD i 0 = pc) {w : Nat} (hn : pcs.getD (i + 1) 0 = pc + w) (h1 : (pm_bin ty tx t' f (i, L, st, h)).1)
    (hok : ∀ x y, pm_okv (tx, x) → pm_okv (ty, y) → pm_okv (t', f x y))
    (row : ∀ x y (rest : List Value), pm_okv (tx, x) → pm_okv (ty, y) → W p l e R s m args below meth c H locs 0 0 Q (F0 m (pc + w) ls (pm_emb ad sa (t', f x y) :: rest)) → (rest.map fun v => v.category).sum ≤ (st.map pm_cat).sum → W p l e R s m args below meth c H locs 0 0 Q (F0 m pc ls (pm_emb ad sa (ty, y) :: pm_emb ad sa (tx, x) :: rest)))
    (kk : ∀ H' locs' ls', pm_Rel D G ad sa n s (pm_bin ty tx t' f (i, L, st, h)).2 H' locs' ls' → pm_Go p l e R s m args below meth c Q ad sa pcs (pm_bin ty tx t' f (i, L, st, h)).2 H' locs' ls') :
    pm_Go p l e R s m args below meth c Q ad sa pcs (i, L, st, h) H locs ls := by
  rcases st with _ | ⟨⟨t1, y⟩, _ | ⟨⟨t2, x⟩, st⟩⟩
  · exact h1.elim
  · exact h1.elim
  · obtain ⟨e1, e2⟩ := (show t1 = ty ∧ t2 = tx from h1)
    subst e1; subst e2
    have hy := hr.1 (t1, y) List.mem_cons_self
    have hx := hr.1 (t2, x) (List.mem_cons_of_mem _ List.mem_cons_self)
    refine pm_r_stk (i' := i + 1) (st' := (t', f x y) :: st) hr hp hn (fun v hv => (List.mem_cons.mp hv).elim (fun e => e ▸ hok x y hx hy) (fun hv => hr.1 v (List.mem_cons_of_mem _ (List.mem_cons_of_mem _ hv)))) (fun hk => ?_) kk
    refine row x y _ hx hy hk ?_
    rw [List.map_map, show (fun v : Value => v.category) ∘ pm_emb ad sa = pm_cat from funext (pm_emb_cat ad sa)]
    simp only [List.map_cons, List.sum_cons]
    omega
theorem pm_r_binz {t : Nat} {f : Int → Int → Int} (hr : pm_Rel D G ad sa n s (i, L, st, h) H locs ls) (hp : pcs.getD i 0 = pc) {w : Nat} (hn : pcs.getD (i + 1) 0 = pc + w) (h1 : (pm_binz t f (i, L, st, h)).1)
    (hok : ∀ x y, pm_okv (t, x) → pm_okv (t, y) → y ≠ 0 → pm_okv (t, f x y))
    (row : ∀ x y (rest : List Value), pm_okv (t, x) → pm_okv (t, y) → y ≠ 0 → W p l e R s m args below meth c H locs 0 0 Q (F0 m (pc + w) ls (pm_emb ad sa (t, f x y) :: rest)) → W p l e R s m args below meth c H locs 0 0 Q (F0 m pc ls (pm_emb ad sa (t, y) :: pm_emb ad sa (t, x) :: rest)))
    (kk : ∀ H' locs' ls', pm_Rel D G ad sa n s (pm_binz t f (i, L, st, h)).2 H' locs' ls' → pm_Go p l e R s m args below meth c Q ad sa pcs (pm_binz t f (i, L, st, h)).2 H' locs' ls') :
    pm_Go p l e R s m args below meth c Q ad sa pcs (i, L, st, h) H locs ls := by
  rcases st with _ | ⟨⟨t1, y⟩, _ | ⟨⟨t2, x⟩, st⟩⟩
  · exact h1.elim
  · exact h1.elim
  · obtain ⟨e1, e2, hz⟩ := (show t1 = t ∧ t2 = t ∧ y ≠ 0 from h1)
    subst e1; subst e2
    have hy := hr.1 (t2, y) List.mem_cons_self
    have hx := hr.1 (t2, x) (List.mem_cons_of_mem _ List.mem_cons_self)
    exact pm_r_stk (i' := i + 1) (st' := (t2, f x y) :: st) hr hp hn (fun v hv => (List.mem_cons.mp hv).elim (fun e => e ▸ hok x y hx hy hz) (fun hv => hr.1 v (List.mem_cons_of_mem _ (List.mem_cons_of_mem _ hv)))) (fun hk => row x y _ hx hy hz hk) kk
theorem pm_r_un {t t' : Nat} {f : Int → Int} (hr : pm_Rel D G ad sa n s (i, L, st, h) H locs ls) (hp : pcs.getD i 0 = pc) {w : Nat} (hn : pcs.getD (i + 1) 0 = pc + w) (h1 : (pm_un t t' f (i, L, st, h)).1)
    (hok : ∀ x, pm_okv (t, x) → pm_okv (t', f x))
    (row : ∀ x (rest : List Value), pm_okv (t, x) → W p l e R s m args below meth c H locs 0 0 Q (F0 m (pc + w) ls (pm_emb ad sa (t', f x) :: rest)) → W p l e R s m args below meth c H locs 0 0 Q (F0 m pc ls (pm_emb ad sa (t, x) :: rest)))
    (kk : ∀ H' locs' ls', pm_Rel D G ad sa n s (pm_un t t' f (i, L, st, h)).2 H' locs' ls' → pm_Go p l e R s m args below meth c Q ad sa pcs (pm_un t t' f (i, L, st, h)).2 H' locs' ls') :
    pm_Go p l e R s m args below meth c Q ad sa pcs (i, L, st, h) H locs ls := by
  rcases st with _ | ⟨⟨t1, x⟩, st⟩
  · exact h1.elim
  · have e1 : t1 = t := h1
    subst e1
    have hx := hr.1 (t1, x) List.mem_cons_self
    exact pm_r_stk (i' := i + 1) (st' := (t', f x) :: st) hr hp hn (fun v hv => (List.mem_cons.mp hv).elim (fun e => e ▸ hok x hx) (fun hv => hr.1 v (List.mem_cons_of_mem _ hv))) (fun hk => row x _ hx hk) kk
/-- branches -/
theorem pm_r_if1 {cd : ClassFile.Cond} {tg : Nat} {off : Int} (hx : p.tables.exec = Jvm.exec) (hb : c.code = cc) (hr : pm_Rel D G ad sa n s (i, L, st, h) H locs ls) (hp : pcs.getD i 0 = pc) (hd : decode cc pc = .ok (.ifCond cd off, 3)) (ht : (pc : Int) + off = (pcs.getD tg 0 : Nat)) (h1 : (pm_if1 cd tg (i, L, st, h)).1)
    (hn : (pm_if1 cd tg (i, L, st, h)).2.1 = i + 1 → pcs.getD (i + 1) 0 = pc + 3)
    (kk : ∀ H' locs' ls', pm_Rel D G ad sa n s (pm_if1 cd tg (i, L, st, h)).2 H' locs' ls' → pm_Go p l e R s m args below meth c Q ad sa pcs (pm_if1 cd tg (i, L, st, h)).2 H' locs' ls') :
    pm_Go p l e R s m args below meth c Q ad sa pcs (i, L, st, h) H locs ls := by
  rcases st with _ | ⟨⟨t1, x⟩, st⟩
  · exact h1.elim
  · have e1 : t1 = 0 := h1
    subst e1
    have hX : pm_i32 x := hr.1 (0, x) List.mem_cons_self
    have h0 : pm_i32 0 := ⟨by decide, by decide⟩
    have hv : ∀ v ∈ st, pm_okv v := fun v hv => hr.1 v (List.mem_cons_of_mem _ hv)
    by_cases hc : pm_cnd cd x 0 = true
    · have e2 : (pm_if1 cd tg (i, L, (0, x) :: st, h)).2 = (tg, L, st, h) := by
        show ((if pm_cnd cd x 0 = true then tg else i + 1), L, st, h) = _
        rw [if_pos hc]
      rw [e2] at kk
      refine pm_r_stk (i' := tg) (st' := st) hr hp rfl hv (fun hk => ?_) kk
      show W p l e R s m args below meth c H locs 0 0 Q (F0 m pc ls (.int (Int32.ofInt x) :: st.map (pm_emb ad sa)))
      cases cd with
      | eq => exact lv_if_eq hx hb hd ht (fun _ => hk) (fun q => absurd ((pm_eqI hX h0).mpr (of_decide_eq_true hc)) q)
      | ne => exact lv_if_ne hx hb hd ht (fun _ => hk) (fun q => absurd ((pm_eqI hX h0).mp q) (of_decide_eq_true hc))
      | lt => exact lv_if_lt hx hb hd ht (fun _ => hk) (fun q => absurd ((pm_ltI hX h0).mpr (of_decide_eq_true hc)) q)
      | ge => exact lv_if_ge hx hb hd ht (fun _ => hk) (fun q => absurd ((pm_leI h0 hX).mpr (of_decide_eq_true hc)) q)
      | gt => exact lv_if_gt hx hb hd ht (fun _ => hk) (fun q => absurd ((pm_ltI h0 hX).mpr (of_decide_eq_true hc)) q)
      | le => exact lv_if_le hx hb hd ht (fun _ => hk) (fun q => absurd ((pm_leI hX h0).mpr (of_decide_eq_true hc)) q)
    · have e2 : (pm_if1 cd tg (i, L, (0, x) :: st, h)).2 = (i + 1, L, st, h) := by
        show ((if pm_cnd cd x 0 = true then tg else i + 1), L, st, h) = _
        rw [if_neg hc]
      rw [e2] at kk hn
      refine pm_r_stk (i' := i + 1) (st' := st) hr hp (hn rfl) hv (fun hk => ?_) kk
      show W p l e R s m args below meth c H locs 0 0 Q (F0 m pc ls (.int (Int32.ofInt x) :: st.map (pm_emb ad sa)))
      cases cd with
      | eq => exact lv_if_eq hx hb hd ht (fun q => absurd (decide_eq_true ((pm_eqI hX h0).mp q)) hc) (fun _ => hk)
      | ne => exact lv_if_ne hx hb hd ht (fun q => (hc (decide_eq_true (p := ¬ x = 0) (fun z => q ((pm_eqI hX h0).mpr z)))).elim) (fun _ => hk)
      | lt => exact lv_if_lt hx hb hd ht (fun q => absurd (decide_eq_true ((pm_ltI hX h0).mp q)) hc) (fun _ => hk)
      | ge => exact lv_if_ge hx hb hd ht (fun q => absurd (decide_eq_true ((pm_leI h0 hX).mp q)) hc) (fun _ => hk)
      | gt => exact lv_if_gt hx hb hd ht (fun q => absurd (decide_eq_true ((pm_ltI h0 hX).mp q)) hc) (fun _ => hk)
      | le => exact lv_if_le hx hb hd ht (fun q => absurd (decide_eq_true ((pm_leI hX h0).mp q)) hc) (fun _ => hk)
theorem pm_r_if2 {cd : ClassFile.Cond} {tg : Nat} {off : Int} (hx : p.tables.exec = Jvm.exec) (hb : c.code = cc) (hr : pm_Rel D G ad sa n s (i, L, st, h) H locs ls) (hp : pcs.getD i 0 = pc) (hd : decode cc pc = .ok (.if_icmp cd off, 3)) (ht : (pc : Int) + off = (pcs.getD tg 0 : Nat)) (h1 : (pm_if2 cd tg (i, L, st, h)).1)
    (hn : (pm_if2 cd tg (i, L, st, h)).2.1 = i + 1 → pcs.getD (i + 1) 0 = pc + 3)
    (kk : ∀ H' locs' ls', pm_Rel D G ad sa n s (pm_if2 cd tg (i, L, st, h)).2 H' locs' ls' → pm_Go p l e R s m args below meth c Q ad sa pcs (pm_if2 cd tg (i, L, st, h)).2 H' locs' ls') :
    pm_Go p l e R s m args below meth c Q ad sa pcs (i, L, st, h) H locs ls := by
  rcases st with _ | ⟨⟨t1, y⟩, _ | ⟨⟨t2, x⟩, st⟩⟩
  · exact h1.elim
  · exact h1.elim
  · obtain ⟨e1, e2⟩ := (show t1 = 0 ∧ t2 = 0 from h1)
    subst e1; subst e2
    have h0 : pm_i32 y := hr.1 (0, y) List.mem_cons_self
    have hX : pm_i32 x := hr.1 (0, x) (List.mem_cons_of_mem _ List.mem_cons_self)
    have hv : ∀ v ∈ st, pm_okv v := fun v hv => hr.1 v (List.mem_cons_of_mem _ (List.mem_cons_of_mem _ hv))
    by_cases hc : pm_cnd cd x y = true
    · have e2 : (pm_if2 cd tg (i, L, (0, y) :: (0, x) :: st, h)).2 = (tg, L, st, h) := by
        show ((if pm_cnd cd x y = true then tg else i + 1), L, st, h) = _
        rw [if_pos hc]
      rw [e2] at kk
      refine pm_r_stk (i' := tg) (st' := st) hr hp rfl hv (fun hk => ?_) kk
      show W p l e R s m args below meth c H locs 0 0 Q (F0 m pc ls (.int (Int32.ofInt y) :: .int (Int32.ofInt x) :: st.map (pm_emb ad sa)))
      cases cd with
      | eq => exact lv_icmp_eq hx hb hd ht (fun _ => hk) (fun q => absurd ((pm_eqI hX h0).mpr (of_decide_eq_true hc)) q)
      | ne => exact lv_icmp_ne hx hb hd ht (fun _ => hk) (fun q => absurd ((pm_eqI hX h0).mp q) (of_decide_eq_true hc))
      | lt => exact lv_icmp_lt hx hb hd ht (fun _ => hk) (fun q => absurd ((pm_ltI hX h0).mpr (of_decide_eq_true hc)) q)
      | ge => exact lv_icmp_ge hx hb hd ht (fun _ => hk) (fun q => absurd ((pm_leI h0 hX).mpr (of_decide_eq_true hc)) q)
      | gt => exact lv_icmp_gt hx hb hd ht (fun _ => hk) (fun q => absurd ((pm_ltI h0 hX).mpr (of_decide_eq_true hc)) q)
      | le => exact lv_icmp_le hx hb hd ht (fun _ => hk) (fun q => absurd ((pm_leI hX h0).mpr (of_decide_eq_true hc)) q)
    · have e2 : (pm_if2 cd tg (i, L, (0, y) :: (0, x) :: st, h)).2 = (i + 1, L, st, h) := by
        show ((if pm_cnd cd x y = true then tg else i + 1), L, st, h) = _
        rw [if_neg hc]
      rw [e2] at kk hn
      refine pm_r_stk (i' := i + 1) (st' := st) hr hp (hn rfl) hv (fun hk => ?_) kk
      show W p l e R s m args below meth c H locs 0 0 Q (F0 m pc ls (.int (Int32.ofInt y) :: .int (Int32.ofInt x) :: st.map (pm_emb ad sa)))
      cases cd with
      | eq => exact lv_icmp_eq hx hb hd ht (fun q => absurd (decide_eq_true ((pm_eqI hX h0).mp q)) hc) (fun _ => hk)
      | ne => exact lv_icmp_ne hx hb hd ht (fun q => (hc (decide_eq_true (p := ¬ x = y) (fun z => q ((pm_eqI hX h0).mpr z)))).elim) (fun _ => hk)
      | lt => exact lv_icmp_lt hx hb hd ht (fun q => absurd (decide_eq_true ((pm_ltI hX h0).mp q)) hc) (fun _ => hk)
      | ge => exact lv_icmp_ge hx hb hd ht (fun q => absurd (decide_eq_true ((pm_leI h0 hX).mp q)) hc) (fun _ => hk)
      | gt => exact lv_icmp_gt hx hb hd ht (fun q => absurd (decide_eq_true ((pm_ltI h0 hX).mp q)) hc) (fun _ => hk)
      | le => exact lv_icmp_le hx hb hd ht (fun q => absurd (decide_eq_true ((pm_leI hX h0).mp q)) hc) (fun _ => hk)
end PMC
