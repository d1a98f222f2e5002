theorem pm_chkAt_spec {k i : Nat} {q : pI} (h : pm_chkAt k i q = true) : ∃ len, decode (pm_mt k).2.1 ((pm_mt k).2.2.2.2.getD i 0) = .ok (q.1, len) ∧ (pm_ilen q.1 = 0 ∨ len = pm_ilen q.1) ∧ (pm_mt k).2.2.2.2.getD (i + 1) ((pm_mt k).2.2.2.2.getD i 0 + len) = (pm_mt k).2.2.2.2.getD i 0 + len ∧ pm_chkI k (pm_mt k).2.2.2.1 (pm_inf k).2.2.1 (pm_mt k).2.2.1 (pm_mt k).2.2.2.2 ((pm_mt k).2.2.2.2.getD i 0) q = true := by
  unfold pm_chkAt at h
  dsimp only at h
  split at h
  · next ins len hd =>
    simp only [Bool.and_eq_true, decide_eq_true_eq, Bool.or_eq_true, beq_iff_eq] at h
    obtain ⟨⟨⟨h1, h2⟩, h3⟩, h4⟩ := h
    subst h1
    exact ⟨len, hd, h2, h3, h4⟩
  · cases h
theorem pm_getD_ind {l : List Nat} {i a b : Nat} (h : i < l.length) : l.getD i a = l.getD i b := by
  rw [List.getD_eq_getElem?_getD, List.getD_eq_getElem?_getD, List.getElem?_eq_getElem h]; rfl
section PMO
variable {p : Program} {l : Launch} {e : Env} {R : Room} {s : State} {m : MethodId} {args : Array Value} {below : List Frame} {meth : Method} {c : Code} {H : Heap} {locs : List Loc} {Q : State → Prop} {D : va_G} {G : pm_G} {ad : Nat → Nat} {sa sv n : Nat} {pcs : List Nat} {i pc : Nat} {L st : List pV} {h : pH} {ls : Array Slot} {cc : ByteArray}
/-- Math.floorMod -/
theorem pm_W_fmod {own idx : Nat} (hx : p.tables.exec = Jvm.exec) (hb : c.code = cc) (hml : c.maxLocals = ls.size) (hts : ∀ w ∈ pm_TB, w.before args s = true) (hown : s.vm.findClass (pm_rn own) = some m.cls) (hR : 1 ≤ R.frames ∧ 33 ≤ R.locals) (hlink : Jvm.Cond.methodLink (pm_rn own) idx yJ9_floorMod_7cf53 ∈ pm_TB) {x y : Int} (hX : pm_i32 x) (hY : pm_i32 y) (h0 : y ≠ 0) {rest : List Value} (hrest : (rest.map fun v => v.category).sum ≤ 14) (hd : decode cc pc = .ok (.invokestatic idx, 3))
    (kk : W p l e R s m args below meth c H locs 0 0 Q (F0 m (pc + 3) ls (.int (Int32.ofInt (x.fmod y)) :: rest))) : W p l e R s m args below meth c H locs 0 0 Q (F0 m pc ls (.int (Int32.ofInt y) :: .int (Int32.ofInt x) :: rest)) := by
  exact pm_W_fmod2 hx hb hml hts hown hR hlink hX hY h0 hrest hd kk
/-- the text constant's indexOf -/
theorem pm_W_ix (hx : p.tables.exec = Jvm.exec) (hb : c.code = cc) (hml : c.maxLocals = ls.size) (hts : ∀ w ∈ pm_TB, w.before args s = true) (hown : s.vm.findClass (pm_rn 9) = some m.cls) (hst : pm_St sa sv (pm_A ad s.heap.size) s s.heap) (hS : va_S (pm_A ad s.heap.size) s.heap H locs) (hR : 7 ≤ R.frames ∧ 231 ≤ R.locals) {x : Int} (hX : pm_i32 x) {rest : List Value} (hrest : (rest.map fun v => v.category).sum ≤ 8) (hd : decode cc pc = .ok (.invokevirtual 95, 3))
    (kk : ∀ (H1 : Heap) (locs1 : List Loc), (∀ q : Nat, q < H.size → H1[q]? = H[q]?) → va_S (pm_A ad s.heap.size) s.heap H1 locs1 → W p l e R s m args below meth c H1 locs1 0 0 Q (F0 m (pc + 3) ls (.int (Int32.ofInt (pm_ix x)) :: rest))) : W p l e R s m args below meth c H locs 0 0 Q (F0 m pc ls (.int (Int32.ofInt x) :: .ref sa :: rest)) := by
  exact pm_W_ix2 hx hb hml hts hown hst hS hR hX hrest hd kk
theorem pm_ix_ok (x : Int) : pm_i32 (pm_ix x) := by
  unfold pm_ix pm_i32
  split
  · omega
  · split
    · omega
    · split
      · omega
      · split
        · omega
        · split
          · omega
          · split <;> omega
theorem pm_r_stl {own idx : Nat} {z : Int} (hx : p.tables.exec = Jvm.exec) (hb : c.code = cc) (hml : c.maxLocals = n) (hts : ∀ w ∈ pm_TB, w.before args s = true) (hown : s.vm.findClass (pm_rn own) = some m.cls) (hK : va_K D vwCl (pm_tys G) s) (hi : pm_inj ad) (hR : 1 ≤ R.frames ∧ 33 ≤ R.locals) (hr : pm_Rel D G ad sa n s (i, L, st, h) H locs ls) (hp : pcs.getD i 0 = pc) (hn : pcs.getD (i + 1) 0 = pc + 3) (hd : decode cc pc = .ok (.invokestatic idx, 3))
    (hz : 0 ≤ z) (hz5 : z ≤ 5) (hlink : Jvm.Cond.methodLink (pm_rn own) idx (pm_ly z.toNat) ∈ pm_TB) (h1 : (pm_stl z (i, L, st, h)).1) (hst : (st.map pm_cat).sum ≤ 16)
    (kk : ∀ H' locs' ls', pm_Rel D G ad sa n s (pm_stl z (i, L, st, h)).2 H' locs' ls' → pm_Go p l e R s m args below meth c Q ad sa pcs (pm_stl z (i, L, st, h)).2 H' locs' ls') :
    pm_Go p l e R s m args below meth c Q ad sa pcs (i, L, st, h) H locs ls := by
  have hml' : c.maxLocals = ls.size := hml.trans hr.2.2.2.2.2.2.1.symm
  rcases (show z = 0 ∨ z = 1 ∨ z = 2 ∨ z = 3 ∨ z = 4 ∨ z = 5 by omega) with rfl | rfl | rfl | rfl | rfl | rfl
  · exact pm_r_acopy hx hb hml hts hown hK hi hR hr hp hn hd hlink h1 hst kk
  · refine pm_r_bin (f := fun x y => if x < y then y else x) hr hp hn h1 (fun x y a b => ?_) (fun x y rest a b hk hle => ?_) kk
    · show pm_okv (0, if x < y then y else x)
      split
      · exact b
      · exact a
    · have hX : pm_i32 x := a
      have hY : pm_i32 y := b
      have := hR.2
      refine va_mmax hx hb hml' hown (hts _ hlink) (hts _ pm_lw_max_s) (hts _ pm_lw_iniM) (hts _ pm_lw_max_c) hR.1 (by omega) (Nat.zero_le _) (Nat.zero_le _) hd ?_
      rw [pm_ite_i hX hY]
      exact hk
  · refine pm_r_bin (f := fun x y => if x < y then x else y) hr hp hn h1 (fun x y a b => ?_) (fun x y rest a b hk hle => ?_) kk
    · show pm_okv (0, if x < y then x else y)
      split
      · exact a
      · exact b
    · have hX : pm_i32 x := a
      have hY : pm_i32 y := b
      have := hR.2
      refine va_mmin hx hb hml' hown (hts _ hlink) (hts _ pm_lw_min_s) (hts _ pm_lw_iniM) (hts _ pm_lw_min_c) hR.1 (by omega) (Nat.zero_le _) (Nat.zero_le _) hd ?_
      rw [show (if Int32.ofInt y < Int32.ofInt x then Int32.ofInt y else Int32.ofInt x) = Int32.ofInt (if x < y then x else y) by
        by_cases hc : y < x
        · rw [if_pos ((pm_ltI hY hX).mpr hc), if_neg (by omega)]
        · rw [if_neg (fun q => hc ((pm_ltI hY hX).mp q))]
          by_cases hc2 : x < y
          · rw [if_pos hc2]
          · rw [if_neg hc2, show x = y by omega]]
      exact hk
  · refine pm_r_bin (f := fun x y => if x < y then y else x) hr hp hn h1 (fun x y a b => ?_) (fun x y rest a b hk hle => ?_) kk
    · show pm_okv (1, if x < y then y else x)
      split
      · exact b
      · exact a
    · have hX : pm_i64 x := a
      have hY : pm_i64 y := b
      have := hR.2
      rw [show pm_ly (3 : Int).toNat = Lib.MathLoose.max_long.x from pm_ly_names.1] at hlink
      refine va_mmax_long hx hb hml' hown (hts _ hlink) (hts _ pm_lw_maxl_s) (hts _ pm_lw_iniM) (hts _ pm_lw_maxl_c) hR.1 (by omega) (Nat.zero_le _) (Nat.zero_le _) hd ?_
      rw [show (if Int64.ofInt y < Int64.ofInt x then Int64.ofInt x else Int64.ofInt y) = Int64.ofInt (if x < y then y else x) by
        by_cases hc : y < x
        · rw [if_pos ((pm_ltL hY hX).mpr hc), if_neg (by omega)]
        · rw [if_neg (fun q => hc ((pm_ltL hY hX).mp q))]
          by_cases hc2 : x < y
          · rw [if_pos hc2]
          · rw [if_neg hc2, show x = y by omega]]
      exact hk
  · refine pm_r_bin (f := fun x y => if x < y then x else y) hr hp hn h1 (fun x y a b => ?_) (fun x y rest a b hk hle => ?_) kk
    · show pm_okv (1, if x < y then x else y)
      split
      · exact a
      · exact b
    · have hX : pm_i64 x := a
      have hY : pm_i64 y := b
      have := hR.2
      rw [show pm_ly (4 : Int).toNat = Lib.MathLoose.min_long.x from pm_ly_names.2] at hlink
      refine va_mmin_long hx hb hml' hown (hts _ hlink) (hts _ pm_lw_minl_s) (hts _ pm_lw_iniM) (hts _ pm_lw_minl_c) hR.1 (by omega) (Nat.zero_le _) (Nat.zero_le _) hd ?_
      rw [show (if Int64.ofInt y < Int64.ofInt x then Int64.ofInt y else Int64.ofInt x) = Int64.ofInt (if x < y then x else y) by
        by_cases hc : y < x
        · rw [if_pos ((pm_ltL hY hX).mpr hc), if_neg (by omega)]
        · rw [if_neg (fun q => hc ((pm_ltL hY hX).mp q))]
          by_cases hc2 : x < y
          · rw [if_pos hc2]
          · rw [if_neg hc2, show x = y by omega]]
      exact hk
  · rcases st with _ | ⟨⟨t1, y⟩, _ | ⟨⟨t2, x⟩, st⟩⟩
    · exact h1.elim
    · exact h1.elim
    · obtain ⟨e1, e2, h0⟩ := (show t1 = 0 ∧ t2 = 0 ∧ y ≠ 0 from h1)
      subst e1; subst e2
      have hY : pm_i32 y := hr.1 (0, y) (by simp)
      have hX : pm_i32 x := hr.1 (0, x) (by simp)
      have hf : pm_i32 (x.fmod y) := by
        have hx1 := hX.1
        have hx2 := hX.2
        have hy1 := hY.1
        have hy2 := hY.2
        unfold pm_i32
        rcases Int.lt_or_gt_of_ne h0 with hneg | hpos
        · have a := Int.emod_nonneg x h0
          have b := Int.emod_lt_of_neg x hneg
          rw [Int.fmod_eq_emod]
          split <;> omega
        · have a := Int.fmod_nonneg_of_pos x hpos
          have b := Int.fmod_lt_of_pos x hpos
          omega
      refine pm_r_stk (i' := i + 1) (st' := (0, x.fmod y) :: st) hr hp hn (fun v hv => (List.mem_cons.mp hv).elim (fun e => e ▸ hf) (fun hv => hr.1 v (by simp [hv]))) (fun hk => ?_) kk
      exact pm_W_fmod hx hb hml' hts hown hR hlink hX hY h0 (by have := pm_restle (ad := ad) (sa := sa) hst; omega) hd hk
end PMO
